section
-- ===== PART A: goes FIRST, ahead of the names: the tables' words, and 'selects' of the private methods out of them =====
/-- a private method of a class that the tables say can be made, by its rows of tables_1 -/
def lw_okq (q : MethodName × Nat) : Prop := (q.1.cls ≠ "java/lang/invoke/MethodHandle" ∧ q.1.cls ≠ "java/lang/invoke/VarHandle") ∧ Cond.instantiable q.1.cls q.2 ∈ tables_1 ∧ Cond.privateMethod q.1 ∈ tables_1 ∧ Cond.instanceMethod q.1 ∈ tables_1
theorem lw_p0 : lw_okq (⟨"StreetNamer", "doorsOn", "(LStreetNamer$Street;)I"⟩, 9) := ⟨⟨by decide +kernel, by decide +kernel⟩, List.mem_of_getElem? (i := 24) (by decide +kernel), List.mem_of_getElem? (i := 160) (by decide +kernel), List.mem_of_getElem? (i := 161) (by decide +kernel)⟩
theorem lw_p1 : lw_okq (⟨"StreetNamer", "areAddressesSingle", "()Z"⟩, 9) := ⟨⟨by decide +kernel, by decide +kernel⟩, List.mem_of_getElem? (i := 24) (by decide +kernel), List.mem_of_getElem? (i := 175) (by decide +kernel), List.mem_of_getElem? (i := 176) (by decide +kernel)⟩
theorem lw_p2 : lw_okq (⟨"StreetNamer", "openLedger", "(LStreetNamer$Street;I)V"⟩, 9) := ⟨⟨by decide +kernel, by decide +kernel⟩, List.mem_of_getElem? (i := 24) (by decide +kernel), List.mem_of_getElem? (i := 179) (by decide +kernel), List.mem_of_getElem? (i := 180) (by decide +kernel)⟩
theorem lw_p3 : lw_okq (⟨"StreetNamer$Ledger", "keyOf", "(II)I"⟩, 7) := ⟨⟨by decide +kernel, by decide +kernel⟩, List.mem_of_getElem? (i := 64) (by decide +kernel), List.mem_of_getElem? (i := 197) (by decide +kernel), List.mem_of_getElem? (i := 198) (by decide +kernel)⟩
theorem lw_p4 : lw_okq (⟨"StreetNamer$Ledger", "metresOn", "(I)I"⟩, 7) := ⟨⟨by decide +kernel, by decide +kernel⟩, List.mem_of_getElem? (i := 64) (by decide +kernel), List.mem_of_getElem? (i := 201) (by decide +kernel), List.mem_of_getElem? (i := 202) (by decide +kernel)⟩
theorem lw_p5 : lw_okq (⟨"StreetNamer", "areAddressesThere", "()Z"⟩, 9) := ⟨⟨by decide +kernel, by decide +kernel⟩, List.mem_of_getElem? (i := 24) (by decide +kernel), List.mem_of_getElem? (i := 212) (by decide +kernel), List.mem_of_getElem? (i := 213) (by decide +kernel)⟩
theorem lw_p6 : lw_okq (⟨"StreetNamer", "areNamesSingle", "()Z"⟩, 9) := ⟨⟨by decide +kernel, by decide +kernel⟩, List.mem_of_getElem? (i := 24) (by decide +kernel), List.mem_of_getElem? (i := 221) (by decide +kernel), List.mem_of_getElem? (i := 222) (by decide +kernel)⟩
theorem lw_p7 : lw_okq (⟨"StreetNamer", "isTakenByOther", "(LStreetNamer$Street;)Z"⟩, 9) := ⟨⟨by decide +kernel, by decide +kernel⟩, List.mem_of_getElem? (i := 24) (by decide +kernel), List.mem_of_getElem? (i := 225) (by decide +kernel), List.mem_of_getElem? (i := 226) (by decide +kernel)⟩
theorem lw_p8 : lw_okq (⟨"StreetNamer", "areLeadsEnding", "()Z"⟩, 9) := ⟨⟨by decide +kernel, by decide +kernel⟩, List.mem_of_getElem? (i := 24) (by decide +kernel), List.mem_of_getElem? (i := 233) (by decide +kernel), List.mem_of_getElem? (i := 234) (by decide +kernel)⟩
theorem lw_p9 : lw_okq (⟨"java/lang/Throwable", "fillInStackTrace", "(I)Ljava/lang/Throwable;"⟩, 6) := ⟨⟨by decide +kernel, by decide +kernel⟩, List.mem_of_getElem? (i := 291) (by decide +kernel), List.mem_of_getElem? (i := 289) (by decide +kernel), List.mem_of_getElem? (i := 290) (by decide +kernel)⟩
theorem lw_p10 : lw_okq (⟨"StreetNamer", "isInUse", "(J)Z"⟩, 9) := ⟨⟨by decide +kernel, by decide +kernel⟩, List.mem_of_getElem? (i := 24) (by decide +kernel), List.mem_of_getElem? (i := 352) (by decide +kernel), List.mem_of_getElem? (i := 353) (by decide +kernel)⟩
theorem lw_p11 : lw_okq (⟨"StreetNamer", "standing", "(I)LStreetNamer$Street;"⟩, 9) := ⟨⟨by decide +kernel, by decide +kernel⟩, List.mem_of_getElem? (i := 24) (by decide +kernel), List.mem_of_getElem? (i := 444) (by decide +kernel), List.mem_of_getElem? (i := 445) (by decide +kernel)⟩
theorem lw_p12 : lw_okq (⟨"StreetNamer", "rememberAll", "(LStreetNamer$Street;J)V"⟩, 9) := ⟨⟨by decide +kernel, by decide +kernel⟩, List.mem_of_getElem? (i := 24) (by decide +kernel), List.mem_of_getElem? (i := 461) (by decide +kernel), List.mem_of_getElem? (i := 462) (by decide +kernel)⟩
theorem lw_p13 : lw_okq (⟨"StreetNamer", "remember", "(JLStreetNamer$Place;)V"⟩, 9) := ⟨⟨by decide +kernel, by decide +kernel⟩, List.mem_of_getElem? (i := 24) (by decide +kernel), List.mem_of_getElem? (i := 465) (by decide +kernel), List.mem_of_getElem? (i := 466) (by decide +kernel)⟩
theorem lw_p14 : lw_okq (⟨"StreetNamer", "arrival", "(ILStreetNamer$Street;IC)LStreetNamer$Place;"⟩, 9) := ⟨⟨by decide +kernel, by decide +kernel⟩, List.mem_of_getElem? (i := 24) (by decide +kernel), List.mem_of_getElem? (i := 534) (by decide +kernel), List.mem_of_getElem? (i := 535) (by decide +kernel)⟩
theorem lw_p15 : lw_okq (⟨"StreetNamer$Ledger", "codeByMetres", "(IZ)I"⟩, 7) := ⟨⟨by decide +kernel, by decide +kernel⟩, List.mem_of_getElem? (i := 64) (by decide +kernel), List.mem_of_getElem? (i := 542) (by decide +kernel), List.mem_of_getElem? (i := 543) (by decide +kernel)⟩
def lw_privs_1 : List (MethodName × Nat) := [(⟨"StreetNamer", "doorsOn", "(LStreetNamer$Street;)I"⟩, 9), (⟨"StreetNamer", "areAddressesSingle", "()Z"⟩, 9), (⟨"StreetNamer", "openLedger", "(LStreetNamer$Street;I)V"⟩, 9), (⟨"StreetNamer$Ledger", "keyOf", "(II)I"⟩, 7), (⟨"StreetNamer$Ledger", "metresOn", "(I)I"⟩, 7), (⟨"StreetNamer", "areAddressesThere", "()Z"⟩, 9), (⟨"StreetNamer", "areNamesSingle", "()Z"⟩, 9), (⟨"StreetNamer", "isTakenByOther", "(LStreetNamer$Street;)Z"⟩, 9), (⟨"StreetNamer", "areLeadsEnding", "()Z"⟩, 9), (⟨"java/lang/Throwable", "fillInStackTrace", "(I)Ljava/lang/Throwable;"⟩, 6), (⟨"StreetNamer", "isInUse", "(J)Z"⟩, 9), (⟨"StreetNamer", "standing", "(I)LStreetNamer$Street;"⟩, 9), (⟨"StreetNamer", "rememberAll", "(LStreetNamer$Street;J)V"⟩, 9), (⟨"StreetNamer", "remember", "(JLStreetNamer$Place;)V"⟩, 9), (⟨"StreetNamer", "arrival", "(ILStreetNamer$Street;IC)LStreetNamer$Place;"⟩, 9), (⟨"StreetNamer$Ledger", "codeByMetres", "(IZ)I"⟩, 7)]
theorem lw_r1 : ∀ q ∈ lw_privs_1, lw_okq q := List.forall_mem_cons.mpr ⟨lw_p0, List.forall_mem_cons.mpr ⟨lw_p1, List.forall_mem_cons.mpr ⟨lw_p2, List.forall_mem_cons.mpr ⟨lw_p3, List.forall_mem_cons.mpr ⟨lw_p4, List.forall_mem_cons.mpr ⟨lw_p5, List.forall_mem_cons.mpr ⟨lw_p6, List.forall_mem_cons.mpr ⟨lw_p7, List.forall_mem_cons.mpr ⟨lw_p8, List.forall_mem_cons.mpr ⟨lw_p9, List.forall_mem_cons.mpr ⟨lw_p10, List.forall_mem_cons.mpr ⟨lw_p11, List.forall_mem_cons.mpr ⟨lw_p12, List.forall_mem_cons.mpr ⟨lw_p13, List.forall_mem_cons.mpr ⟨lw_p14, List.forall_mem_cons.mpr ⟨lw_p15, fun _ h => absurd h List.not_mem_nil⟩⟩⟩⟩⟩⟩⟩⟩⟩⟩⟩⟩⟩⟩⟩⟩
theorem lw_p16 : lw_okq (⟨"StreetNamer$Ledger", "isGiven", "(I)Z"⟩, 7) := ⟨⟨by decide +kernel, by decide +kernel⟩, List.mem_of_getElem? (i := 64) (by decide +kernel), List.mem_of_getElem? (i := 546) (by decide +kernel), List.mem_of_getElem? (i := 547) (by decide +kernel)⟩
theorem lw_p17 : lw_okq (⟨"StreetNamer$Ledger", "codeWithLetter", "(I)I"⟩, 7) := ⟨⟨by decide +kernel, by decide +kernel⟩, List.mem_of_getElem? (i := 64) (by decide +kernel), List.mem_of_getElem? (i := 550) (by decide +kernel), List.mem_of_getElem? (i := 551) (by decide +kernel)⟩
theorem lw_p18 : lw_okq (⟨"StreetNamer$Ledger", "codeBySteps", "(IZ)I"⟩, 7) := ⟨⟨by decide +kernel, by decide +kernel⟩, List.mem_of_getElem? (i := 64) (by decide +kernel), List.mem_of_getElem? (i := 554) (by decide +kernel), List.mem_of_getElem? (i := 555) (by decide +kernel)⟩
theorem lw_p19 : lw_okq (⟨"StreetNamer$Ledger", "numberBefore", "(IZ)I"⟩, 7) := ⟨⟨by decide +kernel, by decide +kernel⟩, List.mem_of_getElem? (i := 64) (by decide +kernel), List.mem_of_getElem? (i := 558) (by decide +kernel), List.mem_of_getElem? (i := 559) (by decide +kernel)⟩
theorem lw_p20 : lw_okq (⟨"StreetNamer$Ledger", "numberAfter", "(IZ)I"⟩, 7) := ⟨⟨by decide +kernel, by decide +kernel⟩, List.mem_of_getElem? (i := 64) (by decide +kernel), List.mem_of_getElem? (i := 562) (by decide +kernel), List.mem_of_getElem? (i := 563) (by decide +kernel)⟩
theorem lw_p21 : lw_okq (⟨"StreetNamer$Ledger", "leastFree", "(IIZ)I"⟩, 7) := ⟨⟨by decide +kernel, by decide +kernel⟩, List.mem_of_getElem? (i := 64) (by decide +kernel), List.mem_of_getElem? (i := 567) (by decide +kernel), List.mem_of_getElem? (i := 568) (by decide +kernel)⟩
theorem lw_p22 : lw_okq (⟨"StreetNamer$Ledger", "isNumberGiven", "(I)Z"⟩, 7) := ⟨⟨by decide +kernel, by decide +kernel⟩, List.mem_of_getElem? (i := 64) (by decide +kernel), List.mem_of_getElem? (i := 571) (by decide +kernel), List.mem_of_getElem? (i := 572) (by decide +kernel)⟩
theorem lw_p23 : lw_okq (⟨"StreetNamer", "known", "(I)LStreetNamer$Door;"⟩, 9) := ⟨⟨by decide +kernel, by decide +kernel⟩, List.mem_of_getElem? (i := 24) (by decide +kernel), List.mem_of_getElem? (i := 644) (by decide +kernel), List.mem_of_getElem? (i := 645) (by decide +kernel)⟩
theorem lw_p24 : lw_okq (⟨"StreetNamer", "doorAt", "(I)LStreetNamer$Door;"⟩, 9) := ⟨⟨by decide +kernel, by decide +kernel⟩, List.mem_of_getElem? (i := 24) (by decide +kernel), List.mem_of_getElem? (i := 648) (by decide +kernel), List.mem_of_getElem? (i := 649) (by decide +kernel)⟩
theorem lw_p25 : lw_okq (⟨"StreetNamer", "letGo", "(LStreetNamer$Door;)V"⟩, 9) := ⟨⟨by decide +kernel, by decide +kernel⟩, List.mem_of_getElem? (i := 24) (by decide +kernel), List.mem_of_getElem? (i := 663) (by decide +kernel), List.mem_of_getElem? (i := 664) (by decide +kernel)⟩
theorem lw_p26 : lw_okq (⟨"StreetNamer", "rememberBoth", "(LStreetNamer$Place;)V"⟩, 9) := ⟨⟨by decide +kernel, by decide +kernel⟩, List.mem_of_getElem? (i := 24) (by decide +kernel), List.mem_of_getElem? (i := 667) (by decide +kernel), List.mem_of_getElem? (i := 668) (by decide +kernel)⟩
theorem lw_p27 : lw_okq (⟨"StreetNamer", "leadingTo", "(LStreetNamer$Door;)I"⟩, 9) := ⟨⟨by decide +kernel, by decide +kernel⟩, List.mem_of_getElem? (i := 24) (by decide +kernel), List.mem_of_getElem? (i := 671) (by decide +kernel), List.mem_of_getElem? (i := 672) (by decide +kernel)⟩
theorem lw_p28 : lw_okq (⟨"StreetNamer", "orderForRenumbering", "(LStreetNamer$Street;)V"⟩, 9) := ⟨⟨by decide +kernel, by decide +kernel⟩, List.mem_of_getElem? (i := 24) (by decide +kernel), List.mem_of_getElem? (i := 690) (by decide +kernel), List.mem_of_getElem? (i := 691) (by decide +kernel)⟩
theorem lw_p29 : lw_okq (⟨"StreetNamer", "enterInOrder", "(LStreetNamer$Street;I)Z"⟩, 9) := ⟨⟨by decide +kernel, by decide +kernel⟩, List.mem_of_getElem? (i := 24) (by decide +kernel), List.mem_of_getElem? (i := 706) (by decide +kernel), List.mem_of_getElem? (i := 707) (by decide +kernel)⟩
theorem lw_p30 : lw_okq (⟨"StreetNamer", "takeNewCodes", "(LStreetNamer$Street;)I"⟩, 9) := ⟨⟨by decide +kernel, by decide +kernel⟩, List.mem_of_getElem? (i := 24) (by decide +kernel), List.mem_of_getElem? (i := 715) (by decide +kernel), List.mem_of_getElem? (i := 716) (by decide +kernel)⟩
theorem lw_p31 : lw_okq (⟨"StreetNamer", "orderForJoining", "(LStreetNamer$Street;LStreetNamer$Street;)V"⟩, 9) := ⟨⟨by decide +kernel, by decide +kernel⟩, List.mem_of_getElem? (i := 24) (by decide +kernel), List.mem_of_getElem? (i := 731) (by decide +kernel), List.mem_of_getElem? (i := 732) (by decide +kernel)⟩
def lw_privs_2 : List (MethodName × Nat) := [(⟨"StreetNamer$Ledger", "isGiven", "(I)Z"⟩, 7), (⟨"StreetNamer$Ledger", "codeWithLetter", "(I)I"⟩, 7), (⟨"StreetNamer$Ledger", "codeBySteps", "(IZ)I"⟩, 7), (⟨"StreetNamer$Ledger", "numberBefore", "(IZ)I"⟩, 7), (⟨"StreetNamer$Ledger", "numberAfter", "(IZ)I"⟩, 7), (⟨"StreetNamer$Ledger", "leastFree", "(IIZ)I"⟩, 7), (⟨"StreetNamer$Ledger", "isNumberGiven", "(I)Z"⟩, 7), (⟨"StreetNamer", "known", "(I)LStreetNamer$Door;"⟩, 9), (⟨"StreetNamer", "doorAt", "(I)LStreetNamer$Door;"⟩, 9), (⟨"StreetNamer", "letGo", "(LStreetNamer$Door;)V"⟩, 9), (⟨"StreetNamer", "rememberBoth", "(LStreetNamer$Place;)V"⟩, 9), (⟨"StreetNamer", "leadingTo", "(LStreetNamer$Door;)I"⟩, 9), (⟨"StreetNamer", "orderForRenumbering", "(LStreetNamer$Street;)V"⟩, 9), (⟨"StreetNamer", "enterInOrder", "(LStreetNamer$Street;I)Z"⟩, 9), (⟨"StreetNamer", "takeNewCodes", "(LStreetNamer$Street;)I"⟩, 9), (⟨"StreetNamer", "orderForJoining", "(LStreetNamer$Street;LStreetNamer$Street;)V"⟩, 9)]
theorem lw_r2 : ∀ q ∈ lw_privs_2, lw_okq q := List.forall_mem_cons.mpr ⟨lw_p16, List.forall_mem_cons.mpr ⟨lw_p17, List.forall_mem_cons.mpr ⟨lw_p18, List.forall_mem_cons.mpr ⟨lw_p19, List.forall_mem_cons.mpr ⟨lw_p20, List.forall_mem_cons.mpr ⟨lw_p21, List.forall_mem_cons.mpr ⟨lw_p22, List.forall_mem_cons.mpr ⟨lw_p23, List.forall_mem_cons.mpr ⟨lw_p24, List.forall_mem_cons.mpr ⟨lw_p25, List.forall_mem_cons.mpr ⟨lw_p26, List.forall_mem_cons.mpr ⟨lw_p27, List.forall_mem_cons.mpr ⟨lw_p28, List.forall_mem_cons.mpr ⟨lw_p29, List.forall_mem_cons.mpr ⟨lw_p30, List.forall_mem_cons.mpr ⟨lw_p31, fun _ h => absurd h List.not_mem_nil⟩⟩⟩⟩⟩⟩⟩⟩⟩⟩⟩⟩⟩⟩⟩⟩
theorem lw_p32 : lw_okq (⟨"StreetNamer", "rememberAll", "(LStreetNamer$Street;)V"⟩, 9) := ⟨⟨by decide +kernel, by decide +kernel⟩, List.mem_of_getElem? (i := 24) (by decide +kernel), List.mem_of_getElem? (i := 735) (by decide +kernel), List.mem_of_getElem? (i := 736) (by decide +kernel)⟩
theorem lw_p33 : lw_okq (⟨"StreetNamer", "moveDoors", "(LStreetNamer$Street;LStreetNamer$Street;)V"⟩, 9) := ⟨⟨by decide +kernel, by decide +kernel⟩, List.mem_of_getElem? (i := 24) (by decide +kernel), List.mem_of_getElem? (i := 739) (by decide +kernel), List.mem_of_getElem? (i := 740) (by decide +kernel)⟩
theorem lw_p34 : lw_okq (⟨"StreetNamer", "doorNow", "(JI)LStreetNamer$Door;"⟩, 9) := ⟨⟨by decide +kernel, by decide +kernel⟩, List.mem_of_getElem? (i := 24) (by decide +kernel), List.mem_of_getElem? (i := 785) (by decide +kernel), List.mem_of_getElem? (i := 786) (by decide +kernel)⟩
theorem lw_p35 : lw_okq (⟨"StreetNamer", "orderForWalking", "(LStreetNamer$Street;)V"⟩, 9) := ⟨⟨by decide +kernel, by decide +kernel⟩, List.mem_of_getElem? (i := 24) (by decide +kernel), List.mem_of_getElem? (i := 842) (by decide +kernel), List.mem_of_getElem? (i := 843) (by decide +kernel)⟩
theorem lw_p36 : lw_okq (⟨"StreetNamerModel", "no", "(ZI)Z"⟩, 30) := ⟨⟨by decide +kernel, by decide +kernel⟩, List.mem_of_getElem? (i := 900) (by decide +kernel), List.mem_of_getElem? (i := 1006) (by decide +kernel), List.mem_of_getElem? (i := 1007) (by decide +kernel)⟩
theorem lw_p37 : lw_okq (⟨"StreetNamerModel", "isUsed", "(J)Z"⟩, 30) := ⟨⟨by decide +kernel, by decide +kernel⟩, List.mem_of_getElem? (i := 900) (by decide +kernel), List.mem_of_getElem? (i := 1025) (by decide +kernel), List.mem_of_getElem? (i := 1026) (by decide +kernel)⟩
theorem lw_p38 : lw_okq (⟨"StreetNamerModel", "isStreet", "(I)Z"⟩, 30) := ⟨⟨by decide +kernel, by decide +kernel⟩, List.mem_of_getElem? (i := 900) (by decide +kernel), List.mem_of_getElem? (i := 1034) (by decide +kernel), List.mem_of_getElem? (i := 1035) (by decide +kernel)⟩
theorem lw_p39 : lw_okq (⟨"StreetNamerModel", "nameGoes", "(IJ)V"⟩, 30) := ⟨⟨by decide +kernel, by decide +kernel⟩, List.mem_of_getElem? (i := 900) (by decide +kernel), List.mem_of_getElem? (i := 1038) (by decide +kernel), List.mem_of_getElem? (i := 1039) (by decide +kernel)⟩
theorem lw_p40 : lw_okq (⟨"StreetNamerModel", "placeOn", "(II)I"⟩, 30) := ⟨⟨by decide +kernel, by decide +kernel⟩, List.mem_of_getElem? (i := 900) (by decide +kernel), List.mem_of_getElem? (i := 1042) (by decide +kernel), List.mem_of_getElem? (i := 1043) (by decide +kernel)⟩
theorem lw_p41 : lw_okq (⟨"StreetNamerModel", "old", "(JII)V"⟩, 30) := ⟨⟨by decide +kernel, by decide +kernel⟩, List.mem_of_getElem? (i := 900) (by decide +kernel), List.mem_of_getElem? (i := 1046) (by decide +kernel), List.mem_of_getElem? (i := 1047) (by decide +kernel)⟩
theorem lw_p42 : lw_okq (⟨"StreetNamerModel", "isPlace", "(IIC)Z"⟩, 30) := ⟨⟨by decide +kernel, by decide +kernel⟩, List.mem_of_getElem? (i := 900) (by decide +kernel), List.mem_of_getElem? (i := 1066) (by decide +kernel), List.mem_of_getElem? (i := 1067) (by decide +kernel)⟩
theorem lw_p43 : lw_okq (⟨"StreetNamerModel", "comes", "(IIIC)I"⟩, 30) := ⟨⟨by decide +kernel, by decide +kernel⟩, List.mem_of_getElem? (i := 900) (by decide +kernel), List.mem_of_getElem? (i := 1070) (by decide +kernel), List.mem_of_getElem? (i := 1071) (by decide +kernel)⟩
theorem lw_p44 : lw_okq (⟨"StreetNamerModel", "from", "(II)I"⟩, 30) := ⟨⟨by decide +kernel, by decide +kernel⟩, List.mem_of_getElem? (i := 900) (by decide +kernel), List.mem_of_getElem? (i := 1074) (by decide +kernel), List.mem_of_getElem? (i := 1075) (by decide +kernel)⟩
theorem lw_p45 : lw_okq (⟨"StreetNamerModel", "lettered", "(III)I"⟩, 30) := ⟨⟨by decide +kernel, by decide +kernel⟩, List.mem_of_getElem? (i := 900) (by decide +kernel), List.mem_of_getElem? (i := 1078) (by decide +kernel), List.mem_of_getElem? (i := 1079) (by decide +kernel)⟩
theorem lw_p46 : lw_okq (⟨"StreetNamerModel", "isGiven", "(II)Z"⟩, 30) := ⟨⟨by decide +kernel, by decide +kernel⟩, List.mem_of_getElem? (i := 900) (by decide +kernel), List.mem_of_getElem? (i := 1082) (by decide +kernel), List.mem_of_getElem? (i := 1083) (by decide +kernel)⟩
theorem lw_p47 : lw_okq (⟨"StreetNamerModel", "isFarther", "(III)Z"⟩, 30) := ⟨⟨by decide +kernel, by decide +kernel⟩, List.mem_of_getElem? (i := 900) (by decide +kernel), List.mem_of_getElem? (i := 1086) (by decide +kernel), List.mem_of_getElem? (i := 1087) (by decide +kernel)⟩
def lw_privs_3 : List (MethodName × Nat) := [(⟨"StreetNamer", "rememberAll", "(LStreetNamer$Street;)V"⟩, 9), (⟨"StreetNamer", "moveDoors", "(LStreetNamer$Street;LStreetNamer$Street;)V"⟩, 9), (⟨"StreetNamer", "doorNow", "(JI)LStreetNamer$Door;"⟩, 9), (⟨"StreetNamer", "orderForWalking", "(LStreetNamer$Street;)V"⟩, 9), (⟨"StreetNamerModel", "no", "(ZI)Z"⟩, 30), (⟨"StreetNamerModel", "isUsed", "(J)Z"⟩, 30), (⟨"StreetNamerModel", "isStreet", "(I)Z"⟩, 30), (⟨"StreetNamerModel", "nameGoes", "(IJ)V"⟩, 30), (⟨"StreetNamerModel", "placeOn", "(II)I"⟩, 30), (⟨"StreetNamerModel", "old", "(JII)V"⟩, 30), (⟨"StreetNamerModel", "isPlace", "(IIC)Z"⟩, 30), (⟨"StreetNamerModel", "comes", "(IIIC)I"⟩, 30), (⟨"StreetNamerModel", "from", "(II)I"⟩, 30), (⟨"StreetNamerModel", "lettered", "(III)I"⟩, 30), (⟨"StreetNamerModel", "isGiven", "(II)Z"⟩, 30), (⟨"StreetNamerModel", "isFarther", "(III)Z"⟩, 30)]
theorem lw_r3 : ∀ q ∈ lw_privs_3, lw_okq q := List.forall_mem_cons.mpr ⟨lw_p32, List.forall_mem_cons.mpr ⟨lw_p33, List.forall_mem_cons.mpr ⟨lw_p34, List.forall_mem_cons.mpr ⟨lw_p35, List.forall_mem_cons.mpr ⟨lw_p36, List.forall_mem_cons.mpr ⟨lw_p37, List.forall_mem_cons.mpr ⟨lw_p38, List.forall_mem_cons.mpr ⟨lw_p39, List.forall_mem_cons.mpr ⟨lw_p40, List.forall_mem_cons.mpr ⟨lw_p41, List.forall_mem_cons.mpr ⟨lw_p42, List.forall_mem_cons.mpr ⟨lw_p43, List.forall_mem_cons.mpr ⟨lw_p44, List.forall_mem_cons.mpr ⟨lw_p45, List.forall_mem_cons.mpr ⟨lw_p46, List.forall_mem_cons.mpr ⟨lw_p47, fun _ h => absurd h List.not_mem_nil⟩⟩⟩⟩⟩⟩⟩⟩⟩⟩⟩⟩⟩⟩⟩⟩
theorem lw_p48 : lw_okq (⟨"StreetNamerModel", "isNumberGiven", "(II)Z"⟩, 30) := ⟨⟨by decide +kernel, by decide +kernel⟩, List.mem_of_getElem? (i := 900) (by decide +kernel), List.mem_of_getElem? (i := 1090) (by decide +kernel), List.mem_of_getElem? (i := 1091) (by decide +kernel)⟩
theorem lw_p49 : lw_okq (⟨"StreetNamerModel", "puts", "(IIICI)V"⟩, 30) := ⟨⟨by decide +kernel, by decide +kernel⟩, List.mem_of_getElem? (i := 900) (by decide +kernel), List.mem_of_getElem? (i := 1094) (by decide +kernel), List.mem_of_getElem? (i := 1095) (by decide +kernel)⟩
theorem lw_p50 : lw_okq (⟨"StreetNamerModel", "isDoor", "(I)Z"⟩, 30) := ⟨⟨by decide +kernel, by decide +kernel⟩, List.mem_of_getElem? (i := 900) (by decide +kernel), List.mem_of_getElem? (i := 1102) (by decide +kernel), List.mem_of_getElem? (i := 1103) (by decide +kernel)⟩
theorem lw_p51 : lw_okq (⟨"StreetNamerModel", "goes", "(II)V"⟩, 30) := ⟨⟨by decide +kernel, by decide +kernel⟩, List.mem_of_getElem? (i := 900) (by decide +kernel), List.mem_of_getElem? (i := 1110) (by decide +kernel), List.mem_of_getElem? (i := 1111) (by decide +kernel)⟩
theorem lw_p52 : lw_okq (⟨"StreetNamerModel", "leaves", "(I)V"⟩, 30) := ⟨⟨by decide +kernel, by decide +kernel⟩, List.mem_of_getElem? (i := 900) (by decide +kernel), List.mem_of_getElem? (i := 1114) (by decide +kernel), List.mem_of_getElem? (i := 1115) (by decide +kernel)⟩
theorem lw_p53 : lw_okq (⟨"StreetNamerModel", "endOf", "(I)I"⟩, 30) := ⟨⟨by decide +kernel, by decide +kernel⟩, List.mem_of_getElem? (i := 900) (by decide +kernel), List.mem_of_getElem? (i := 1118) (by decide +kernel), List.mem_of_getElem? (i := 1119) (by decide +kernel)⟩
theorem lw_p54 : lw_okq (⟨"StreetNamerModel", "keeps", "()V"⟩, 30) := ⟨⟨by decide +kernel, by decide +kernel⟩, List.mem_of_getElem? (i := 900) (by decide +kernel), List.mem_of_getElem? (i := 1130) (by decide +kernel), List.mem_of_getElem? (i := 1131) (by decide +kernel)⟩
theorem lw_p55 : lw_okq (⟨"StreetNamerModel", "next", "(IZ)I"⟩, 30) := ⟨⟨by decide +kernel, by decide +kernel⟩, List.mem_of_getElem? (i := 900) (by decide +kernel), List.mem_of_getElem? (i := 1134) (by decide +kernel), List.mem_of_getElem? (i := 1135) (by decide +kernel)⟩
theorem lw_p56 : lw_okq (⟨"StreetNamerModel", "givesBack", "()V"⟩, 30) := ⟨⟨by decide +kernel, by decide +kernel⟩, List.mem_of_getElem? (i := 900) (by decide +kernel), List.mem_of_getElem? (i := 1138) (by decide +kernel), List.mem_of_getElem? (i := 1139) (by decide +kernel)⟩
theorem lw_p57 : lw_okq (⟨"StreetNamerModel", "least", "(I)I"⟩, 30) := ⟨⟨by decide +kernel, by decide +kernel⟩, List.mem_of_getElem? (i := 900) (by decide +kernel), List.mem_of_getElem? (i := 1146) (by decide +kernel), List.mem_of_getElem? (i := 1147) (by decide +kernel)⟩
theorem lw_p58 : lw_okq (⟨"StreetNamerModel", "moves", "(III)Z"⟩, 30) := ⟨⟨by decide +kernel, by decide +kernel⟩, List.mem_of_getElem? (i := 900) (by decide +kernel), List.mem_of_getElem? (i := 1150) (by decide +kernel), List.mem_of_getElem? (i := 1151) (by decide +kernel)⟩
theorem lw_p59 : lw_okq (⟨"StreetNamerModel", "placeOf", "(IZ)I"⟩, 30) := ⟨⟨by decide +kernel, by decide +kernel⟩, List.mem_of_getElem? (i := 900) (by decide +kernel), List.mem_of_getElem? (i := 1162) (by decide +kernel), List.mem_of_getElem? (i := 1163) (by decide +kernel)⟩
theorem lw_p60 : lw_okq (⟨"StreetNamerModel", "now", "(I)I"⟩, 30) := ⟨⟨by decide +kernel, by decide +kernel⟩, List.mem_of_getElem? (i := 900) (by decide +kernel), List.mem_of_getElem? (i := 1178) (by decide +kernel), List.mem_of_getElem? (i := 1179) (by decide +kernel)⟩
theorem lw_p61 : lw_okq (⟨"StreetNamerModel", "latest", "(I)I"⟩, 30) := ⟨⟨by decide +kernel, by decide +kernel⟩, List.mem_of_getElem? (i := 900) (by decide +kernel), List.mem_of_getElem? (i := 1186) (by decide +kernel), List.mem_of_getElem? (i := 1187) (by decide +kernel)⟩
theorem lw_p62 : lw_okq (⟨"StreetNamerModel", "doorsOf", "(I)I"⟩, 30) := ⟨⟨by decide +kernel, by decide +kernel⟩, List.mem_of_getElem? (i := 900) (by decide +kernel), List.mem_of_getElem? (i := 1202) (by decide +kernel), List.mem_of_getElem? (i := 1203) (by decide +kernel)⟩
theorem lw_p63 : lw_okq (⟨"StreetNamerModel", "walks", "(I)V"⟩, 30) := ⟨⟨by decide +kernel, by decide +kernel⟩, List.mem_of_getElem? (i := 900) (by decide +kernel), List.mem_of_getElem? (i := 1210) (by decide +kernel), List.mem_of_getElem? (i := 1211) (by decide +kernel)⟩
def lw_privs_4 : List (MethodName × Nat) := [(⟨"StreetNamerModel", "isNumberGiven", "(II)Z"⟩, 30), (⟨"StreetNamerModel", "puts", "(IIICI)V"⟩, 30), (⟨"StreetNamerModel", "isDoor", "(I)Z"⟩, 30), (⟨"StreetNamerModel", "goes", "(II)V"⟩, 30), (⟨"StreetNamerModel", "leaves", "(I)V"⟩, 30), (⟨"StreetNamerModel", "endOf", "(I)I"⟩, 30), (⟨"StreetNamerModel", "keeps", "()V"⟩, 30), (⟨"StreetNamerModel", "next", "(IZ)I"⟩, 30), (⟨"StreetNamerModel", "givesBack", "()V"⟩, 30), (⟨"StreetNamerModel", "least", "(I)I"⟩, 30), (⟨"StreetNamerModel", "moves", "(III)Z"⟩, 30), (⟨"StreetNamerModel", "placeOf", "(IZ)I"⟩, 30), (⟨"StreetNamerModel", "now", "(I)I"⟩, 30), (⟨"StreetNamerModel", "latest", "(I)I"⟩, 30), (⟨"StreetNamerModel", "doorsOf", "(I)I"⟩, 30), (⟨"StreetNamerModel", "walks", "(I)V"⟩, 30)]
theorem lw_r4 : ∀ q ∈ lw_privs_4, lw_okq q := List.forall_mem_cons.mpr ⟨lw_p48, List.forall_mem_cons.mpr ⟨lw_p49, List.forall_mem_cons.mpr ⟨lw_p50, List.forall_mem_cons.mpr ⟨lw_p51, List.forall_mem_cons.mpr ⟨lw_p52, List.forall_mem_cons.mpr ⟨lw_p53, List.forall_mem_cons.mpr ⟨lw_p54, List.forall_mem_cons.mpr ⟨lw_p55, List.forall_mem_cons.mpr ⟨lw_p56, List.forall_mem_cons.mpr ⟨lw_p57, List.forall_mem_cons.mpr ⟨lw_p58, List.forall_mem_cons.mpr ⟨lw_p59, List.forall_mem_cons.mpr ⟨lw_p60, List.forall_mem_cons.mpr ⟨lw_p61, List.forall_mem_cons.mpr ⟨lw_p62, List.forall_mem_cons.mpr ⟨lw_p63, fun _ h => absurd h List.not_mem_nil⟩⟩⟩⟩⟩⟩⟩⟩⟩⟩⟩⟩⟩⟩⟩⟩
theorem lw_p64 : lw_okq (⟨"StreetNamerModel", "isAhead", "(II)Z"⟩, 30) := ⟨⟨by decide +kernel, by decide +kernel⟩, List.mem_of_getElem? (i := 900) (by decide +kernel), List.mem_of_getElem? (i := 1214) (by decide +kernel), List.mem_of_getElem? (i := 1215) (by decide +kernel)⟩
def lw_privs_5 : List (MethodName × Nat) := [(⟨"StreetNamerModel", "isAhead", "(II)Z"⟩, 30)]
theorem lw_r5 : ∀ q ∈ lw_privs_5, lw_okq q := List.forall_mem_cons.mpr ⟨lw_p64, fun _ h => absurd h List.not_mem_nil⟩
def lw_privs : List (MethodName × Nat) := lw_privs_1 ++ (lw_privs_2 ++ (lw_privs_3 ++ (lw_privs_4 ++ (lw_privs_5))))
def lw_tbl : List Cond := k2_sels lw_privs ++ tables_1
theorem lw_privs_ok : ∀ q ∈ lw_privs, lw_okq q := by
  show ∀ q ∈ lw_privs_1 ++ (lw_privs_2 ++ (lw_privs_3 ++ (lw_privs_4 ++ (lw_privs_5)))), lw_okq q
  exact List.forall_mem_append.mpr ⟨lw_r1, List.forall_mem_append.mpr ⟨lw_r2, List.forall_mem_append.mpr ⟨lw_r3, List.forall_mem_append.mpr ⟨lw_r4, lw_r5⟩⟩⟩⟩
/-- the streams that the claim lets the run draw from -/
abbrev lw_cs : List Choice := [Jvm.Choice.named "NaN.bits"]
theorem lw_bits : nanBits ∈ lw_cs := by first | decide | exact List.mem_cons_self | simp [lw_cs, nanBits]
-- ===== end of PART A; then your names; then what follows =====
end
section
/-! ===== BEGIN words of one list among another's, by their places ===== -/
theorem goodIn_r {big : List Cond} (ws : List Cond) (ps : List Nat) (hp : ws = ps.filterMap (fun i => big[i]?)) (h : ws.all goodWord = true) : GoodIn big ws := by
  intro w hw
  have h1 := List.all_eq_true.mp h w hw
  rw [hp] at hw
  obtain ⟨i, -, hi⟩ := List.mem_filterMap.mp hw
  have hm : w ∈ big := by first | exact List.mem_of_getElem? hi | exact List.getElem?_mem hi
  exact ⟨hm, good_of_word h1⟩
theorem goodIn_app {big a b : List Cond} (ha : GoodIn big a) (hb : GoodIn big b) : GoodIn big (a ++ b) := fun w h => (List.mem_append.mp h).elim (ha w) (hb w)
theorem goodIn_ca {big a b : List Cond} {c : Cond} (ha : GoodIn big (c :: a)) (hb : GoodIn big b) : GoodIn big (c :: (a ++ b)) := fun w h => (List.mem_cons.mp h).elim (fun e => ha w (List.mem_cons.mpr (Or.inl e))) (fun h => (List.mem_append.mp h).elim (fun h => ha w (List.mem_cons.mpr (Or.inr h))) (hb w))
theorem goodIn_sub {big ws : List Cond} (hm : ∀ w ∈ ws, w ∈ big) (h : ws.all goodWord = true) : GoodIn big ws := fun w hw => ⟨hm w hw, good_of_word (List.all_eq_true.mp h w hw)⟩
/-! ===== END ===== -/

/-! ===== BEGIN exceptions that leave a method, and their catching by the caller (launches without stack traces) ===== -/
section VXA
/-! The laws vx_back, vx_callV, vx_callS, vx_callSW, vx_throw0, vx_throwS follow proofs of the library, with one case more: JvmDerived/Free/Laws.lean (Back.of_free), Shelf42/LK1.lean (callV, callS), Shelf/KitTraced.lean (throwNew0V, throwNewS). -/
/-- where a method has thrown q: the class by its name, the cell, what was written, the world -/
def vx_T (XC : String → State → State → Prop) (st : State) (q : Addr) (t : State) (mc ms : Nat) (free : Addr → Prop) : Prop :=
  ∃ (E : String) (ce : Cell) (L : List Loc), XC E st t ∧ t.heap[q]? = some ce ∧ ce.vm = .none ∧ st.vm.findClass E = some ce.cls ∧ st.WarmedH t.vm ∧ st.sameButNew ({ t with vm := st.vm } : State) L mc ms ∧ ∀ z ∈ L, free z.base
def vx_Q (Qc : Array Value → State → Outcome → State → Prop) (XC : String → State → State → Prop) (mc ms : Nat) (free : Addr → Prop) : Array Value → State → Outcome → State → Prop := fun a st o t =>
  (Qc a st o t ∧ ∃ L, FrameEnd st o t L mc ms ∧ ∀ q ∈ L, free q.base) ∨ ∃ q, o = .threw q ∧ vx_T XC st q t mc ms free
/-- a callee that returns or throws -/
def vx_Met (l : Launch) (y : MethodName) (ws : List Cond) (rm : Room) (Pc : Array Value → State → Prop) (Qc : Array Value → State → Outcome → State → Prop) (XC : String → State → State → Prop) (mc ms : Nat) (free : Addr → Prop) : Prop :=
  MetFree l y (headSpec ws rm) Pc (fun _ _ _ _ _ => True) (vx_Q Qc XC mc ms free)
def vx_Post (XC : String → State → State → Prop) (mc ms : Nat) (free : Addr → Prop) : Pt → Array Value → Addr → Pt → Prop := fun A a q B =>
  ∃ (g : JFrame) (mk : MethodId) (t : State) (L : List Loc) (E : String) (ce : Cell), B.U.heap = t.heap ∧ B.U.vm = t.vm ∧ XC E (A.U.calling g mk a) t ∧ t.heap[q]? = some ce ∧ ce.vm = .none ∧ A.U.vm.findClass E = some ce.cls ∧ B.locs = A.locs ++ L ∧ (∀ z ∈ L, free z.base) ∧ B.cells = A.cells + mc ∧ B.slots = A.slots + ms
def vx_Back (l : Launch) (R : Room) (p : Program) (e : Env) (below : List Frame) (s : State) (sargs : Array Value) (y : MethodName) (len W9 : Nat)
    (Pre : Pt → Array Value → Prop) (Post : Pt → Array Value → Option Value → Pt → Prop) (PostX : Pt → Array Value → Addr → Pt → Prop) : Prop :=
  ∀ (m : MethodId) (meth : Method) (c : Code) (A : Pt) (g : JFrame) (ig : Instr) (mk : MethodId) (a : Array Value),
    Stand p l e R s m sargs below meth c A.U A.locs A.cells A.slots → g.method = m → g.locals.size = c.maxLocals → decode c.code g.pc = .ok (ig, len) →
    2 * g.monitorRoom + (g.stack.map fun v => v.category).sum ≤ W9 → A.U.methodNamed? y = some mk → Pre A a →
    (∃ (v : Option Value) (B : Pt), Stand p l e R s m sargs below meth c B.U B.locs B.cells B.slots ∧ Post A a v B ∧
      Steps p.tables e below (doInvoke e (A.U.setTop g) [] mk a).1 (B.U.setTop { g with pc := g.pc + len, stack := v.toList ++ g.stack })) ∨
    (∃ (q : Addr) (B : Pt), Stand p l e R s m sargs below meth c B.U B.locs B.cells B.slots ∧ PostX A a q B ∧
      Steps p.tables e below (doInvoke e (A.U.setTop g) [] mk a).1 ((B.U.setTop g).pushFrame (.throwing q)))
section Payer
variable {l : Launch} {R : Room} {p : Program} {e : Env} {below : List Frame} {s : State} {sargs : Array Value} {y : MethodName} {len W9 : Nat}
theorem vx_back {ws : List Cond} {rm : Room} {Pc : Array Value → State → Prop} {Qc : Array Value → State → Outcome → State → Prop} {XC : String → State → State → Prop} {mc ms : Nat} {free : Addr → Prop} {bytes : ByteArray} {maxL : Nat} {ret : Option FieldType}
    (hM : vx_Met l y ws rm Pc Qc XC mc ms free) (hblind : FrameBlind Pc) (hrc : rm.cells = mc) (hrs : rm.slots = ms)
    (hframes : rm.frames + 1 ≤ R.frames) (hlocals : W9 + (maxL + 11) + rm.locals ≤ R.locals)
    (hws : ∀ w ∈ ws, ∀ a' U, s.WarmedH U.vm → w.before a' U = true) (hcode : Cond.code y bytes maxL ret ∈ ws) (hinit : ∀ a' U, s.WarmedH U.vm → (Cond.initialized y.cls).before a' U = true) :
    vx_Back l R p e below s sargs y len W9 (PreOf R mc ms Pc) (PostOf Qc mc ms free) (vx_Post XC mc ms free) := by
  intro m meth c A g ig mk a X hg hsize hdg hW hn hp
  have h1 : (headSpec ws rm).pre.before a A.U = true := atoms_intro fun w hw => hws w hw _ _ X.warmed
  have h2 : (Cond.code y bytes maxL ret).before a A.U = true := hws _ hcode _ _ X.warmed
  have h3 : (Cond.initialized y.cls).before a A.U = true := hinit _ _ X.warmed
  have h4 : A.cells + (headSpec ws rm).room.cells ≤ R.cells := by rw [show (headSpec ws rm).room.cells = mc from hrc]; exact hp.1
  have h5 : A.slots + (headSpec ws rm).room.slots ≤ R.slots := by rw [show (headSpec ws rm).room.slots = ms from hrs]; exact hp.2.1
  have hPc : Pc a (A.U.calling g mk a) := hblind _ _ _ _ hp.2.2
  obtain ⟨U, Ls, c0, s0⟩ := A
  dsimp only [Pt.U, Pt.locs, Pt.cells, Pt.slots] at h1 h2 h3 h4 h5 X hn hPc ⊢
  obtain ⟨methY, cY, hmY, hcY, -, hlY, -, -, -, -⟩ := Cond.code_spec hn h2
  obtain ⟨kY, hkY, -⟩ := className_of_methodNamed hn
  have hinitY : kY.init = .initialized := Cond.initialized_spec (findClass_of_methodNamed hn) hkY h3
  have h : At U g.method c below := by rw [hg]; exact X.here
  have hlocals9 : W9 + (maxL + 11) + (headSpec ws rm).room.locals ≤ R.locals := hlocals
  have happ : (headSpec ws rm).appliesLoose y e.platform (U.calling g mk a) = true :=
    Spec.appliesLoose_calling (g := g) h hdg hn hkY hinitY
      (X.room_calling (g := g) (R' := (headSpec ws rm).room) hsize hmY hcY hframes (by rw [hlY]; omega) h4 h5) h1
  obtain ⟨mid, hmid⟩ := h.above
  have hfr : (U.setTop g).frames = (.java g :: mid) ++ below := by rw [State.frames_setTop' g h.top, hmid]; rfl
  obtain ⟨o, s₂, hsteps, -, hend, hq⟩ := Steps.callFree hM p X.admits X.cas X.clock (acts := []) hfr happ hPc trivial
  have hq' : vx_Q Qc XC mc ms free a (U.calling g mk a) o s₂ := hq
  rw [State.frames_setTop' g h.top] at hend
  obtain ⟨g₀, hg0⟩ := Option.isSome_iff_exists.mp h.top
  obtain ⟨r, hr⟩ := State.topJava?_eq_some.mp hg0
  have hr' : (({ U with heap := s₂.heap, slotsUsed := s₂.slotsUsed } : State).setVm s₂.vm).frames = .java g₀ :: r := hr
  rcases hq' with ⟨hqc, L, hfe, hL⟩ | ⟨q, rfl, E, ce, L, hx, hce, hcv, hcl, hW₂, hsm, hL⟩
  · obtain ⟨⟨v, rfl⟩, hW₂, e2, q2, q3, q4, q5, q6⟩ := id hfe
    have e3 : s₂ = ({ (U.calling g mk a).setFrames s₂.frames with heap := s₂.heap, slotsUsed := s₂.slotsUsed } : State).setVm s₂.vm := by
      have : s₂ = ({ s₂ with vm := (U.calling g mk a).vm } : State).setVm s₂.vm := rfl
      rw [e2] at this
      exact this
    obtain ⟨c₂, i₂, len₂, hc₂, hd₂, hf₂⟩ := hend
    have hW' : U.WarmedH s₂.vm := hW₂
    have hcc : c₂ = c := by
      have h1 : s₂.code? g.method = U.code? g.method := by
        rw [State.code?_eq, State.code?_eq, hW'.alike.method?]
      exact Option.some.inj (hc₂.symm.trans (h1.trans h.code))
    subst hcc
    have hlen : len₂ = len := by rw [hdg] at hd₂; cases hd₂; rfl
    subst hlen
    have hs₂ : s₂ = (({ U with heap := s₂.heap, slotsUsed := s₂.slotsUsed } : State).setVm s₂.vm).setTop { g with pc := g.pc + len₂, stack := v.toList ++ g.stack } := by
      refine e3.trans ?_
      rw [hf₂, State.calling_eq h.top, State.setFrames_setFrames, State.setTop_of_frames _ hr', hr]
      rfl
    have hsame : U.sameButNew ({ U with heap := s₂.heap, slotsUsed := s₂.slotsUsed } : State) L mc ms := by
      refine ⟨?_, q2, q3, q4, q5, q6⟩
      obtain ⟨t, ht, -⟩ := State.frames_cons hr
      show ({ U with heap := s₂.heap, slotsUsed := s₂.slotsUsed } : State) = { U.setFrames U.frames with heap := s₂.heap, slotsUsed := s₂.slotsUsed }
      rw [State.setFrames_self ht]
    subst hg
    refine Or.inl ⟨v, ⟨(({ U with heap := s₂.heap, slotsUsed := s₂.slotsUsed } : State).setVm s₂.vm), Ls ++ L, c0 + mc, s0 + ms⟩,
      ⟨X.admits, X.cas, X.clock, X.frames, X.room, X.hears, X.method, X.code, (X.here.setHeapUsed s₂.heap s₂.slotsUsed).setVm hW'.alike, X.tail, State.WarmedH.trans X.warmed hW', X.limits, X.bytes, X.same.trans (hsame.setVm s.vm)⟩,
      ⟨g, mk, s₂, L, rfl, rfl, hqc, rfl, hL, rfl, rfl⟩, ?_⟩
    show Steps p.tables e below _ ((({ U with heap := s₂.heap, slotsUsed := s₂.slotsUsed } : State).setVm s₂.vm).setTop { g with pc := g.pc + len₂, stack := v.toList ++ g.stack })
    rw [← hs₂]
    exact hsteps
  · obtain ⟨e2, q2, q3, q4, q5, q6⟩ := id hsm
    have e3 : s₂ = ({ (U.calling g mk a).setFrames s₂.frames with heap := s₂.heap, slotsUsed := s₂.slotsUsed } : State).setVm s₂.vm := by
      have : s₂ = ({ s₂ with vm := (U.calling g mk a).vm } : State).setVm s₂.vm := rfl
      rw [e2] at this
      exact this
    have hf₂ : s₂.frames = .throwing q :: .java g :: U.frames.tail := hend
    have hW' : U.WarmedH s₂.vm := hW₂
    have hs₂ : s₂ = ((({ U with heap := s₂.heap, slotsUsed := s₂.slotsUsed } : State).setVm s₂.vm).setTop g).pushFrame (.throwing q) := by
      refine e3.trans ?_
      rw [hf₂, State.calling_eq h.top, State.setFrames_setFrames, State.pushFrame, State.frames_setTop _ hr', State.setTop_of_frames _ hr', State.setFrames_setFrames, hr]
      rfl
    have hsame : U.sameButNew ({ U with heap := s₂.heap, slotsUsed := s₂.slotsUsed } : State) L mc ms := by
      refine ⟨?_, q2, q3, q4, q5, q6⟩
      obtain ⟨t, ht, -⟩ := State.frames_cons hr
      show ({ U with heap := s₂.heap, slotsUsed := s₂.slotsUsed } : State) = { U.setFrames U.frames with heap := s₂.heap, slotsUsed := s₂.slotsUsed }
      rw [State.setFrames_self ht]
    subst hg
    refine Or.inr ⟨q, ⟨(({ U with heap := s₂.heap, slotsUsed := s₂.slotsUsed } : State).setVm s₂.vm), Ls ++ L, c0 + mc, s0 + ms⟩,
      ⟨X.admits, X.cas, X.clock, X.frames, X.room, X.hears, X.method, X.code, (X.here.setHeapUsed s₂.heap s₂.slotsUsed).setVm hW'.alike, X.tail, State.WarmedH.trans X.warmed hW', X.limits, X.bytes, X.same.trans (hsame.setVm s.vm)⟩,
      ⟨g, mk, s₂, L, E, ce, rfl, rfl, hx, hce, hcv, hcl, rfl, hL, rfl, rfl⟩, ?_⟩
    show Steps p.tables e below _ (((({ U with heap := s₂.heap, slotsUsed := s₂.slotsUsed } : State).setVm s₂.vm).setTop g).pushFrame (.throwing q))
    rw [← hs₂]
    exact hsteps
end Payer
section Calls
variable {p : Program} {l : Launch} {e : Env} {R : Room} {s : State} {m : MethodId} {args : Array Value} {below : List Frame} {meth : Method} {c : Code} {T : State} {locs : List Loc} {cells slots : Nat}
theorem vx_callV (X : Stand p l e R s m args below meth c T locs cells slots) (hexec : p.tables.exec = Jvm.exec) {own C : String} {index : Nat} {y : MethodName} {bytes : ByteArray} {maxL : Nat} {ret : Option FieldType}
    (hown : s.vm.findClass own = some m.cls) (hlink : (Cond.methodLink own index y).before args s = true) (hinst : (Cond.instanceMethod y).before args s = true) (hsel : (Cond.selects C y y).before args s = true)
    (hcode : (Cond.code y bytes maxL ret).before args s = true) (hy : y.cls ≠ "java/lang/invoke/MethodHandle" ∧ y.cls ≠ "java/lang/invoke/VarHandle")
    {W9 : Nat} {Pre : Pt → Array Value → Prop} {Post : Pt → Array Value → Option Value → Pt → Prop} {PostX : Pt → Array Value → Addr → Pt → Prop} (hK : vx_Back l R p e below s args y 3 W9 Pre Post PostX)
    {b : Addr} {cellB : Cell} (hcell : T.heap[b]? = some cellB) (hobj : cellB.vm.isStatics = false) (hcls : s.vm.findClass C = some cellB.cls)
    {g : JFrame} (hg : g.method = m) (hsize : g.locals.size = c.maxLocals) {argsL rest : List Value} (hlen : ∀ sig, parseMethodDescriptor y.desc = some sig → argsL.length = sig.parameters.length)
    (hstack : g.stack = argsL.reverse ++ .ref b :: rest) (hW : 2 * g.monitorRoom + (rest.map fun v => v.category).sum ≤ W9) (hdg : decode c.code g.pc = .ok (.invokevirtual index, 3))
    (hpre : ∀ vm₁, s.WarmedH vm₁ → Pre ⟨T.setVm vm₁, locs, cells, slots⟩ (Value.ref b :: argsL).toArray) :
    (∃ (v : Option Value) (vm₁ : Vm) (B : Pt), s.WarmedH vm₁ ∧ Stand p l e R s m args below meth c B.U B.locs B.cells B.slots ∧ Post ⟨T.setVm vm₁, locs, cells, slots⟩ (Value.ref b :: argsL).toArray v B ∧
      ∀ target, Steps p.tables e below (B.U.setTop { g with pc := g.pc + 3, stack := v.toList ++ rest }) target → Steps p.tables e below (T.setTop g) target) ∨
    (∃ (q : Addr) (vm₁ : Vm) (B : Pt), s.WarmedH vm₁ ∧ Stand p l e R s m args below meth c B.U B.locs B.cells B.slots ∧ PostX ⟨T.setVm vm₁, locs, cells, slots⟩ (Value.ref b :: argsL).toArray q B ∧
      Steps p.tables e below (T.setTop g) ((B.U.setTop { g with stack := rest }).pushFrame (.throwing q))) := by
  obtain ⟨mk, methM, hnamed, hmethM, hstM, habM⟩ := Cond.instanceMethod_spec hinst
  obtain ⟨methM', cM, hmethM', -, -, -, -, -, -, hsigM⟩ := Cond.code_spec hnamed hcode
  cases hmethM.symm.trans hmethM'
  obtain ⟨c2, r2, m2, q1, q2, q3, q4, kP, hkP, hkPi⟩ := Cond.selects_spec hsel
  cases hcls.symm.trans q1
  cases (State.methodFound?_of_named hnamed hy).symm.trans q2
  cases hnamed.symm.trans q3
  have hselP : selectMethod e.platform s.vm cellB.cls mk = .method mk := by rw [Launch.admits_selectMethod X.admits]; exact q4
  obtain ⟨vm₁, X₁, hstep₁⟩ := X.invokevirtual hexec hown hlink hnamed hmethM hstM hkP hkPi hy (a := b) (cell := cellB) hcell
    (fun z h => by rw [h] at hobj; cases hobj) hselP hmethM habM hkP hkPi (g := g) hg (argsL := argsL) (rest := rest) (hlen _ hsigM) hstack hdg
  rcases hK m meth c ⟨T.setVm vm₁, locs, cells, slots⟩ { g with stack := rest } (.invokevirtual index) mk (Value.ref b :: argsL).toArray X₁ hg hsize hdg hW (X₁.named hnamed) (hpre vm₁ X₁.warmed) with ⟨v, B, X', hpost, hsteps⟩ | ⟨q, B, X', hpost, hsteps⟩
  · exact Or.inl ⟨v, vm₁, B, X₁.warmed, X', hpost, fun target h => hstep₁ _ fun acts => by rw [doInvoke_state]; exact hsteps.trans h⟩
  · exact Or.inr ⟨q, vm₁, B, X₁.warmed, X', hpost, hstep₁ _ fun acts => by rw [doInvoke_state]; exact hsteps⟩
theorem vx_callS (X : Stand p l e R s m args below meth c T locs cells slots) (hexec : p.tables.exec = Jvm.exec) {own : String} {index : Nat} {y : MethodName} {bytes : ByteArray} {maxL : Nat} {ret : Option FieldType}
    (hown : s.vm.findClass own = some m.cls) (hlink : (Cond.methodLink own index y).before args s = true) (hstat : (Cond.static y).before args s = true) (hinit : (Cond.initialized y.cls).before args s = true)
    (hcode : (Cond.code y bytes maxL ret).before args s = true) (hy : y.cls ≠ "java/lang/invoke/MethodHandle" ∧ y.cls ≠ "java/lang/invoke/VarHandle")
    {W9 : Nat} {Pre : Pt → Array Value → Prop} {Post : Pt → Array Value → Option Value → Pt → Prop} {PostX : Pt → Array Value → Addr → Pt → Prop} (hK : vx_Back l R p e below s args y 3 W9 Pre Post PostX)
    {g : JFrame} (hg : g.method = m) (hsize : g.locals.size = c.maxLocals) {argsL rest : List Value} (hlen : ∀ sig, parseMethodDescriptor y.desc = some sig → argsL.length = sig.parameters.length)
    (hstack : g.stack = argsL.reverse ++ rest) (hW : 2 * g.monitorRoom + (rest.map fun v => v.category).sum ≤ W9) (hdg : decode c.code g.pc = .ok (.invokestatic index, 3))
    (hpre : ∀ vm₁, s.WarmedH vm₁ → Pre ⟨T.setVm vm₁, locs, cells, slots⟩ argsL.toArray) :
    (∃ (v : Option Value) (vm₁ : Vm) (B : Pt), s.WarmedH vm₁ ∧ Stand p l e R s m args below meth c B.U B.locs B.cells B.slots ∧ Post ⟨T.setVm vm₁, locs, cells, slots⟩ argsL.toArray v B ∧
      ∀ target, Steps p.tables e below (B.U.setTop { g with pc := g.pc + 3, stack := v.toList ++ rest }) target → Steps p.tables e below (T.setTop g) target) ∨
    (∃ (q : Addr) (vm₁ : Vm) (B : Pt), s.WarmedH vm₁ ∧ Stand p l e R s m args below meth c B.U B.locs B.cells B.slots ∧ PostX ⟨T.setVm vm₁, locs, cells, slots⟩ argsL.toArray q B ∧
      Steps p.tables e below (T.setTop g) ((B.U.setTop { g with stack := rest }).pushFrame (.throwing q))) := by
  obtain ⟨mk, hnamed⟩ := Cond.code_named hcode
  obtain ⟨methM, cM, hmethM, -, -, -, -, -, -, hsigM⟩ := Cond.code_spec hnamed hcode
  have hstatic : methM.isStatic = true := Cond.static_spec hnamed hmethM hstat
  obtain ⟨kP, hkP, -⟩ := className_of_methodNamed hnamed
  have hinitP : kP.init = .initialized := Cond.initialized_spec (findClass_of_methodNamed hnamed) hkP hinit
  obtain ⟨vm₁, X₁, hstep₁⟩ := X.invokestatic hexec hown hlink hnamed hmethM hstatic hkP hinitP hy (g := g) hg (argsL := argsL) (rest := rest) (hlen _ hsigM) hstack hdg
  rcases hK m meth c ⟨T.setVm vm₁, locs, cells, slots⟩ { g with stack := rest } (.invokestatic index) mk argsL.toArray X₁ hg hsize hdg hW (X₁.named hnamed) (hpre vm₁ X₁.warmed) with ⟨v, B, X', hpost, hsteps⟩ | ⟨q, B, X', hpost, hsteps⟩
  · exact Or.inl ⟨v, vm₁, B, X₁.warmed, X', hpost, fun target h => hstep₁ _ fun acts => by rw [doInvoke_state]; exact hsteps.trans h⟩
  · exact Or.inr ⟨q, vm₁, B, X₁.warmed, X', hpost, hstep₁ _ fun acts => by rw [doInvoke_state]; exact hsteps⟩
end Calls
theorem vx_cls {s : State} {T : State} {vm₁ : Vm} {E : String} {k : ClassId} (hW : s.WarmedH vm₁) (h : (T.setVm vm₁).vm.findClass E = some k) : s.vm.findClass E = some k := by
  have h1 : vm₁.findClass E = some k := h
  rw [hW.alike.findClass] at h1
  exact h1
/-- the method's frame g, with q thrown over it -/
def vx_W (p : Program) (l : Launch) (e : Env) (R : Room) (s : State) (m : MethodId) (args : Array Value) (below : List Frame) (meth : Method) (c : Code) (H : Heap) (locs : List Loc) (cells slots : Nat) (Q : State → Prop) (g : JFrame) (q : Addr) : Prop :=
  ∀ T : State, T.heap = H → Stand p l e R s m args below meth c T locs cells slots → ∃ t, Steps p.tables e below ((T.setTop g).pushFrame (.throwing q)) t ∧ Q t
def vx_Run (p : Program) (l : Launch) (e : Env) (R : Room) (s : State) (m : MethodId) (args : Array Value) (below : List Frame) (meth : Method) (c : Code) (H : Heap) (locs : List Loc) (cells slots mc ms : Nat) (g : JFrame) (rest : List Value) (Qa : State → Outcome → State → Prop) (XC : String → State → State → Prop) (free : Addr → Prop) : Prop :=
  ∀ T : State, T.heap = H → Stand p l e R s m args below meth c T locs cells slots →
    (∃ (v : Option Value) (st₀ t T' : State) (L : List Loc), st₀.heap = H ∧ Stand p l e R s m args below meth c T' (locs ++ L) (cells + mc) (slots + ms) ∧ (∀ q ∈ L, free q.base) ∧ T'.heap = t.heap ∧ T'.vm = t.vm ∧ Qa st₀ (.returned v) t ∧
      Goes p e below T g T' { g with pc := g.pc + 3, stack := v.toList ++ rest }) ∨
    (∃ (q : Addr) (st₀ t T' : State) (L : List Loc) (E : String) (ce : Cell), st₀.heap = H ∧ Stand p l e R s m args below meth c T' (locs ++ L) (cells + mc) (slots + ms) ∧ (∀ z ∈ L, free z.base) ∧ T'.heap = t.heap ∧ T'.vm = t.vm ∧ XC E st₀ t ∧ t.heap[q]? = some ce ∧ ce.vm = .none ∧ s.vm.findClass E = some ce.cls ∧
      Steps p.tables e below (T.setTop g) ((T'.setTop { g with stack := rest }).pushFrame (.throwing q)))
def vx_X {S : Type} (px : S → Prop) (B : String → S → State → Prop) (A : Nat → Prop) : String → State → State → Prop := fun E st t => ∃ u : S, px u ∧ B E u t ∧ va_F A st t
section Runs
variable {p : Program} {l : Launch} {e : Env} {R : Room} {s : State} {m : MethodId} {args : Array Value} {below : List Frame} {meth : Method} {c : Code} {H : Heap} {locs : List Loc} {cells slots : Nat}
variable {y : MethodName} {bytes cc : ByteArray} {maxL nL mc ms n index : Nat} {ret : Option FieldType} {ws : List Cond} {rm : Room} {Pc : Array Value → State → Prop} {Qc : Array Value → State → Outcome → State → Prop} {XC : String → State → State → Prop} {free : Addr → Prop} {Ts : List Cond} {own C : String} {b : Addr} {As rest : List Value} {g : JFrame}
theorem vx_callBack (cb : CallB R s args own index y bytes maxL ret ws rm mc ms n) (hM : vx_Met l y ws rm Pc Qc XC mc ms free) (hbl : FrameBlind Pc) : vx_Back l R p e below s args y 3 8 (PreOf R mc ms Pc) (PostOf Qc mc ms free) (vx_Post XC mc ms free) := by
  obtain ⟨hrc, hrs, hfr, hlo, hws, hcw, -, hini, -⟩ := cb
  exact vx_back (bytes := bytes) (maxL := maxL) (ret := ret) hM hbl hrc hrs hfr hlo hws hcw (fun a' U hW => word_at hW (Or.inl (by first | rfl | simp [Cond.onTables, Cond.keeps, Cond.steady])) hini)
theorem vx_runV (S : CallFix p m c cc nL s args Ts own) (hM : vx_Met l y ws rm Pc Qc XC mc ms free) (cw : CallW R s args own C index y bytes maxL ret ws rm mc ms n) (hp : PreV s H C b Pc As)
    (hg : g.method = m) (hn : As.length = n) (hsize : g.locals.size = nL) (hstack : g.stack = As.reverse ++ .ref b :: rest) (hW : 2 * g.monitorRoom + (rest.map fun v => v.category).sum ≤ 8) (hdg : decode cc g.pc = .ok (.invokevirtual index, 3)) (hf : cells + mc ≤ R.cells ∧ slots + ms ≤ R.slots) :
    vx_Run p l e R s m args below meth c H locs cells slots mc ms g rest (Qc (Value.ref b :: As).toArray) XC free := by
  have hK : vx_Back l R p e below s args y 3 8 (PreOf R mc ms Pc) (PostOf Qc mc ms free) (vx_Post XC mc ms free) := vx_callBack cw.1 hM hp.1
  obtain ⟨⟨-, -, -, -, -, -, hcode, -, hy, hlen, hl⟩, hin, hse⟩ := cw
  obtain ⟨hx, hb, hml, ho, -⟩ := S
  obtain ⟨-, ⟨cellB, hcB, hoB, hclB⟩, hPc⟩ := hp
  intro T hT X
  rcases vx_callV X hx (C := C) (bytes := bytes) (maxL := maxL) (ret := ret) ho hl hin hse hcode hy hK (by rw [hT]; exact hcB) hoB hclB hg (hsize.trans hml.symm) (argsL := As) (rest := rest) (fun sig h => hn.trans (hlen sig h)) hstack hW (by rw [hb]; exact hdg)
    (fun vm₁ hW₁ => ⟨hf.1, hf.2, hPc (T.setVm vm₁) hT hW₁⟩) with ⟨v, vm₁, ⟨U', l2, c2, s2⟩, hW₁, X', ⟨g', mk, t, L, e1, e2, hq, h1, hL, h2, h3⟩, st⟩ | ⟨q, vm₁, ⟨U', l2, c2, s2⟩, hW₁, X', ⟨g', mk, t, L, E, ce, e1, e2, hq, hce, hcv, hcl, h1, hL, h2, h3⟩, st⟩
  · dsimp only [Pt.U, Pt.locs, Pt.cells, Pt.slots] at X' e1 e2 h1 h2 h3 st
    subst h1; subst h2; subst h3
    exact Or.inl ⟨v, (T.setVm vm₁).calling g' mk (Value.ref b :: As).toArray, t, U', L, hT, X', hL, e1, e2, hq, st⟩
  · dsimp only [Pt.U, Pt.locs, Pt.cells, Pt.slots] at X' e1 e2 h1 h2 h3 st hcl
    subst h1; subst h2; subst h3
    exact Or.inr ⟨q, (T.setVm vm₁).calling g' mk (Value.ref b :: As).toArray, t, U', L, E, ce, hT, X', hL, e1, e2, hq, hce, hcv, vx_cls hW₁ hcl, st⟩
theorem vx_runS (S : CallFix p m c cc nL s args Ts own) (hM : vx_Met l y ws rm Pc Qc XC mc ms free) (cw : CallB R s args own index y bytes maxL ret ws rm mc ms n ∧ (Cond.static y).before args s = true) (hp : PreS s H Pc As)
    (hg : g.method = m) (hn : As.length = n) (hsize : g.locals.size = nL) (hstack : g.stack = As.reverse ++ rest) (hW : 2 * g.monitorRoom + (rest.map fun v => v.category).sum ≤ 8) (hdg : decode cc g.pc = .ok (.invokestatic index, 3)) (hf : cells + mc ≤ R.cells ∧ slots + ms ≤ R.slots) :
    vx_Run p l e R s m args below meth c H locs cells slots mc ms g rest (Qc As.toArray) XC free := by
  have hK : vx_Back l R p e below s args y 3 8 (PreOf R mc ms Pc) (PostOf Qc mc ms free) (vx_Post XC mc ms free) := vx_callBack cw.1 hM hp.1
  obtain ⟨⟨-, -, -, -, -, -, hcode, hini, hy, hlen, hl⟩, hstt⟩ := cw
  obtain ⟨hx, hb, hml, ho, -⟩ := S
  intro T hT X
  rcases vx_callS X hx (bytes := bytes) (maxL := maxL) (ret := ret) ho hl hstt hini hcode hy hK hg (hsize.trans hml.symm) (argsL := As) (rest := rest) (fun sig h => hn.trans (hlen sig h)) hstack hW (by rw [hb]; exact hdg)
    (fun vm₁ hW₁ => ⟨hf.1, hf.2, hp.2 (T.setVm vm₁) hT hW₁⟩) with ⟨v, vm₁, ⟨U', l2, c2, s2⟩, hW₁, X', ⟨g', mk, t, L, e1, e2, hq, h1, hL, h2, h3⟩, st⟩ | ⟨q, vm₁, ⟨U', l2, c2, s2⟩, hW₁, X', ⟨g', mk, t, L, E, ce, e1, e2, hq, hce, hcv, hcl, h1, hL, h2, h3⟩, st⟩
  · dsimp only [Pt.U, Pt.locs, Pt.cells, Pt.slots] at X' e1 e2 h1 h2 h3 st
    subst h1; subst h2; subst h3
    exact Or.inl ⟨v, (T.setVm vm₁).calling g' mk As.toArray, t, U', L, hT, X', hL, e1, e2, hq, st⟩
  · dsimp only [Pt.U, Pt.locs, Pt.cells, Pt.slots] at X' e1 e2 h1 h2 h3 st hcl
    subst h1; subst h2; subst h3
    exact Or.inr ⟨q, (T.setVm vm₁).calling g' mk As.toArray, t, U', L, E, ce, hT, X', hL, e1, e2, hq, hce, hcv, vx_cls hW₁ hcl, st⟩
end Runs
section Rows
variable {p : Program} {l : Launch} {e : Env} {R : Room} {s : State} {m : MethodId} {args : Array Value} {below : List Frame} {meth : Method} {c : Code} {H : Heap} {locs : List Loc} {cells slots : Nat} {Q : State → Prop}
variable {mc ms : Nat} {free : Addr → Prop} {A0 A1 : Nat → Prop} {H0 : Heap} {a : Array Value} {pc : Nat} {ls : Array Slot} {st0 rest : List Value}
theorem vx_keep {st₀ t T' : State} {L : List Loc} (h0 : st₀.heap = H) (e1 : T'.heap = t.heap) (hS : va_S A0 H0 H locs) (hA : ∀ q, q < H.size → A1 q → A0 q) (hf : ∀ q, free q → A0 q) (hL : ∀ q ∈ L, free q.base) (hF : va_F A1 st₀ t) :
    H.size ≤ T'.heap.size ∧ (∀ q : Nat, q < H.size → ¬ A1 q → T'.heap[q]? = H[q]?) ∧ va_S A0 H0 T'.heap (locs ++ L) := by
  obtain ⟨hz, hk⟩ := hF
  rw [h0] at hz hk
  exact ⟨by rw [e1]; exact hz, fun q h1 h2 => by rw [e1]; exact hk q h1 h2,
    ⟨Nat.le_trans hS.1 (by rw [e1]; exact hz), fun q h1 h2 => by rw [e1, hk q (Nat.lt_of_lt_of_le h1 hS.1) (fun z => h2 (hA q (Nat.lt_of_lt_of_le h1 hS.1) z))]; exact hS.2.1 q h1 h2, fun q hq => by
      rcases List.mem_append.mp hq with h | h
      · exact hS.2.2 q h
      · exact hf _ (hL q h)⟩⟩
theorem vx_calli {S SX : Type} {post : Int32 → S → Prop} {px : SX → Prop} {B : S → State → Prop} {BX : String → SX → State → Prop} {AX : Nat → Prop} (hr : vx_Run p l e R s m args below meth c H locs cells slots mc ms (F0 m pc ls st0) rest (va_Qi post B A1 a) (vx_X px BX AX) free) (hS : va_S A0 H0 H locs) (hA : ∀ q, q < H.size → A1 q → A0 q) (hf : ∀ q, free q → A0 q) (hAX : ∀ q, q < H.size → AX q → A0 q)
    (kx : ∀ (E : String) (ce : Cell) (q9 : Addr) (u : SX) (t : State) (H1 : Heap) (locs1 : List Loc), t.heap = H1 → s.vm.Alike t.vm → px u → BX E u t → H.size ≤ H1.size → (∀ q : Nat, q < H.size → ¬ AX q → H1[q]? = H[q]?) → va_S A0 H0 H1 locs1 → H1[q9]? = some ce → ce.vm = .none → s.vm.findClass E = some ce.cls → vx_W p l e R s m args below meth c H1 locs1 (cells + mc) (slots + ms) Q (F0 m pc ls rest) q9)
    (kk : ∀ (r : Int32) (u : S) (t : State) (H1 : Heap) (locs1 : List Loc), t.heap = H1 → s.vm.Alike t.vm → post r u → B u t → H.size ≤ H1.size → (∀ q : Nat, q < H.size → ¬ A1 q → H1[q]? = H[q]?) → va_S A0 H0 H1 locs1 → W p l e R s m args below meth c H1 locs1 (cells + mc) (slots + ms) Q (F0 m (pc + 3) ls (.int r :: rest))) : W p l e R s m args below meth c H locs cells slots Q (F0 m pc ls st0) := by
  intro T hT X
  rcases hr T hT X with ⟨v, st₀, t, T', L, h0, X', hL, e1, e2, ⟨⟨r, u, hv, hp, hb⟩, hF⟩, st⟩ | ⟨q, st₀, t, T', L, E, ce, h0, X', hL, e1, e2, ⟨u, hp, hb, hF⟩, hce, hcv, hcl, st⟩
  · cases hv
    obtain ⟨k1, k2, k3⟩ := vx_keep h0 e1 hS hA hf hL hF
    obtain ⟨t2, a1, b1⟩ := kk r u t T'.heap (locs ++ L) e1.symm (by rw [← e2]; exact X'.warmed.alike) hp hb k1 k2 k3 T' rfl X'
    exact ⟨t2, st t2 a1, b1⟩
  · obtain ⟨k1, k2, k3⟩ := vx_keep h0 e1 hS hAX hf hL hF
    obtain ⟨t2, a1, b1⟩ := kx E ce q u t T'.heap (locs ++ L) e1.symm (by rw [← e2]; exact X'.warmed.alike) hp hb k1 k2 k3 (by rw [e1]; exact hce) hcv hcl T' rfl X'
    exact ⟨t2, st.trans a1, b1⟩
theorem vx_calll {S SX : Type} {post : Int64 → S → Prop} {px : SX → Prop} {B : S → State → Prop} {BX : String → SX → State → Prop} {AX : Nat → Prop} (hr : vx_Run p l e R s m args below meth c H locs cells slots mc ms (F0 m pc ls st0) rest (va_Ql post B A1 a) (vx_X px BX AX) free) (hS : va_S A0 H0 H locs) (hA : ∀ q, q < H.size → A1 q → A0 q) (hf : ∀ q, free q → A0 q) (hAX : ∀ q, q < H.size → AX q → A0 q)
    (kx : ∀ (E : String) (ce : Cell) (q9 : Addr) (u : SX) (t : State) (H1 : Heap) (locs1 : List Loc), t.heap = H1 → s.vm.Alike t.vm → px u → BX E u t → H.size ≤ H1.size → (∀ q : Nat, q < H.size → ¬ AX q → H1[q]? = H[q]?) → va_S A0 H0 H1 locs1 → H1[q9]? = some ce → ce.vm = .none → s.vm.findClass E = some ce.cls → vx_W p l e R s m args below meth c H1 locs1 (cells + mc) (slots + ms) Q (F0 m pc ls rest) q9)
    (kk : ∀ (r : Int64) (u : S) (t : State) (H1 : Heap) (locs1 : List Loc), t.heap = H1 → s.vm.Alike t.vm → post r u → B u t → H.size ≤ H1.size → (∀ q : Nat, q < H.size → ¬ A1 q → H1[q]? = H[q]?) → va_S A0 H0 H1 locs1 → W p l e R s m args below meth c H1 locs1 (cells + mc) (slots + ms) Q (F0 m (pc + 3) ls (.long r :: rest))) : W p l e R s m args below meth c H locs cells slots Q (F0 m pc ls st0) := by
  intro T hT X
  rcases hr T hT X with ⟨v, st₀, t, T', L, h0, X', hL, e1, e2, ⟨⟨r, u, hv, hp, hb⟩, hF⟩, st⟩ | ⟨q, st₀, t, T', L, E, ce, h0, X', hL, e1, e2, ⟨u, hp, hb, hF⟩, hce, hcv, hcl, st⟩
  · cases hv
    obtain ⟨k1, k2, k3⟩ := vx_keep h0 e1 hS hA hf hL hF
    obtain ⟨t2, a1, b1⟩ := kk r u t T'.heap (locs ++ L) e1.symm (by rw [← e2]; exact X'.warmed.alike) hp hb k1 k2 k3 T' rfl X'
    exact ⟨t2, st t2 a1, b1⟩
  · obtain ⟨k1, k2, k3⟩ := vx_keep h0 e1 hS hAX hf hL hF
    obtain ⟨t2, a1, b1⟩ := kx E ce q u t T'.heap (locs ++ L) e1.symm (by rw [← e2]; exact X'.warmed.alike) hp hb k1 k2 k3 (by rw [e1]; exact hce) hcv hcl T' rfl X'
    exact ⟨t2, st.trans a1, b1⟩
theorem vx_callf {S SX : Type} {post : UInt32 → S → Prop} {px : SX → Prop} {B : S → State → Prop} {BX : String → SX → State → Prop} {AX : Nat → Prop} (hr : vx_Run p l e R s m args below meth c H locs cells slots mc ms (F0 m pc ls st0) rest (va_Qf post B A1 a) (vx_X px BX AX) free) (hS : va_S A0 H0 H locs) (hA : ∀ q, q < H.size → A1 q → A0 q) (hf : ∀ q, free q → A0 q) (hAX : ∀ q, q < H.size → AX q → A0 q)
    (kx : ∀ (E : String) (ce : Cell) (q9 : Addr) (u : SX) (t : State) (H1 : Heap) (locs1 : List Loc), t.heap = H1 → s.vm.Alike t.vm → px u → BX E u t → H.size ≤ H1.size → (∀ q : Nat, q < H.size → ¬ AX q → H1[q]? = H[q]?) → va_S A0 H0 H1 locs1 → H1[q9]? = some ce → ce.vm = .none → s.vm.findClass E = some ce.cls → vx_W p l e R s m args below meth c H1 locs1 (cells + mc) (slots + ms) Q (F0 m pc ls rest) q9)
    (kk : ∀ (r : UInt32) (u : S) (t : State) (H1 : Heap) (locs1 : List Loc), t.heap = H1 → s.vm.Alike t.vm → post r u → B u t → H.size ≤ H1.size → (∀ q : Nat, q < H.size → ¬ A1 q → H1[q]? = H[q]?) → va_S A0 H0 H1 locs1 → W p l e R s m args below meth c H1 locs1 (cells + mc) (slots + ms) Q (F0 m (pc + 3) ls (.float r :: rest))) : W p l e R s m args below meth c H locs cells slots Q (F0 m pc ls st0) := by
  intro T hT X
  rcases hr T hT X with ⟨v, st₀, t, T', L, h0, X', hL, e1, e2, ⟨⟨r, u, hv, hp, hb⟩, hF⟩, st⟩ | ⟨q, st₀, t, T', L, E, ce, h0, X', hL, e1, e2, ⟨u, hp, hb, hF⟩, hce, hcv, hcl, st⟩
  · cases hv
    obtain ⟨k1, k2, k3⟩ := vx_keep h0 e1 hS hA hf hL hF
    obtain ⟨t2, a1, b1⟩ := kk r u t T'.heap (locs ++ L) e1.symm (by rw [← e2]; exact X'.warmed.alike) hp hb k1 k2 k3 T' rfl X'
    exact ⟨t2, st t2 a1, b1⟩
  · obtain ⟨k1, k2, k3⟩ := vx_keep h0 e1 hS hAX hf hL hF
    obtain ⟨t2, a1, b1⟩ := kx E ce q u t T'.heap (locs ++ L) e1.symm (by rw [← e2]; exact X'.warmed.alike) hp hb k1 k2 k3 (by rw [e1]; exact hce) hcv hcl T' rfl X'
    exact ⟨t2, st.trans a1, b1⟩
theorem vx_calld {S SX : Type} {post : UInt64 → S → Prop} {px : SX → Prop} {B : S → State → Prop} {BX : String → SX → State → Prop} {AX : Nat → Prop} (hr : vx_Run p l e R s m args below meth c H locs cells slots mc ms (F0 m pc ls st0) rest (va_Qd post B A1 a) (vx_X px BX AX) free) (hS : va_S A0 H0 H locs) (hA : ∀ q, q < H.size → A1 q → A0 q) (hf : ∀ q, free q → A0 q) (hAX : ∀ q, q < H.size → AX q → A0 q)
    (kx : ∀ (E : String) (ce : Cell) (q9 : Addr) (u : SX) (t : State) (H1 : Heap) (locs1 : List Loc), t.heap = H1 → s.vm.Alike t.vm → px u → BX E u t → H.size ≤ H1.size → (∀ q : Nat, q < H.size → ¬ AX q → H1[q]? = H[q]?) → va_S A0 H0 H1 locs1 → H1[q9]? = some ce → ce.vm = .none → s.vm.findClass E = some ce.cls → vx_W p l e R s m args below meth c H1 locs1 (cells + mc) (slots + ms) Q (F0 m pc ls rest) q9)
    (kk : ∀ (r : UInt64) (u : S) (t : State) (H1 : Heap) (locs1 : List Loc), t.heap = H1 → s.vm.Alike t.vm → post r u → B u t → H.size ≤ H1.size → (∀ q : Nat, q < H.size → ¬ A1 q → H1[q]? = H[q]?) → va_S A0 H0 H1 locs1 → W p l e R s m args below meth c H1 locs1 (cells + mc) (slots + ms) Q (F0 m (pc + 3) ls (.double r :: rest))) : W p l e R s m args below meth c H locs cells slots Q (F0 m pc ls st0) := by
  intro T hT X
  rcases hr T hT X with ⟨v, st₀, t, T', L, h0, X', hL, e1, e2, ⟨⟨r, u, hv, hp, hb⟩, hF⟩, st⟩ | ⟨q, st₀, t, T', L, E, ce, h0, X', hL, e1, e2, ⟨u, hp, hb, hF⟩, hce, hcv, hcl, st⟩
  · cases hv
    obtain ⟨k1, k2, k3⟩ := vx_keep h0 e1 hS hA hf hL hF
    obtain ⟨t2, a1, b1⟩ := kk r u t T'.heap (locs ++ L) e1.symm (by rw [← e2]; exact X'.warmed.alike) hp hb k1 k2 k3 T' rfl X'
    exact ⟨t2, st t2 a1, b1⟩
  · obtain ⟨k1, k2, k3⟩ := vx_keep h0 e1 hS hAX hf hL hF
    obtain ⟨t2, a1, b1⟩ := kx E ce q u t T'.heap (locs ++ L) e1.symm (by rw [← e2]; exact X'.warmed.alike) hp hb k1 k2 k3 (by rw [e1]; exact hce) hcv hcl T' rfl X'
    exact ⟨t2, st.trans a1, b1⟩
theorem vx_callv {S SX : Type} {post : S → Prop} {px : SX → Prop} {B : S → State → Prop} {BX : String → SX → State → Prop} {AX : Nat → Prop} (hr : vx_Run p l e R s m args below meth c H locs cells slots mc ms (F0 m pc ls st0) rest (va_Qv post B A1 a) (vx_X px BX AX) free) (hS : va_S A0 H0 H locs) (hA : ∀ q, q < H.size → A1 q → A0 q) (hf : ∀ q, free q → A0 q) (hAX : ∀ q, q < H.size → AX q → A0 q)
    (kx : ∀ (E : String) (ce : Cell) (q9 : Addr) (u : SX) (t : State) (H1 : Heap) (locs1 : List Loc), t.heap = H1 → s.vm.Alike t.vm → px u → BX E u t → H.size ≤ H1.size → (∀ q : Nat, q < H.size → ¬ AX q → H1[q]? = H[q]?) → va_S A0 H0 H1 locs1 → H1[q9]? = some ce → ce.vm = .none → s.vm.findClass E = some ce.cls → vx_W p l e R s m args below meth c H1 locs1 (cells + mc) (slots + ms) Q (F0 m pc ls rest) q9)
    (kk : ∀ (u : S) (t : State) (H1 : Heap) (locs1 : List Loc), t.heap = H1 → s.vm.Alike t.vm → post u → B u t → H.size ≤ H1.size → (∀ q : Nat, q < H.size → ¬ A1 q → H1[q]? = H[q]?) → va_S A0 H0 H1 locs1 → W p l e R s m args below meth c H1 locs1 (cells + mc) (slots + ms) Q (F0 m (pc + 3) ls (rest))) : W p l e R s m args below meth c H locs cells slots Q (F0 m pc ls st0) := by
  intro T hT X
  rcases hr T hT X with ⟨v, st₀, t, T', L, h0, X', hL, e1, e2, ⟨⟨u, hv, hp, hb⟩, hF⟩, st⟩ | ⟨q, st₀, t, T', L, E, ce, h0, X', hL, e1, e2, ⟨u, hp, hb, hF⟩, hce, hcv, hcl, st⟩
  · cases hv
    obtain ⟨k1, k2, k3⟩ := vx_keep h0 e1 hS hA hf hL hF
    obtain ⟨t2, a1, b1⟩ := kk u t T'.heap (locs ++ L) e1.symm (by rw [← e2]; exact X'.warmed.alike) hp hb k1 k2 k3 T' rfl X'
    exact ⟨t2, st t2 a1, b1⟩
  · obtain ⟨k1, k2, k3⟩ := vx_keep h0 e1 hS hAX hf hL hF
    obtain ⟨t2, a1, b1⟩ := kx E ce q u t T'.heap (locs ++ L) e1.symm (by rw [← e2]; exact X'.warmed.alike) hp hb k1 k2 k3 (by rw [e1]; exact hce) hcv hcl T' rfl X'
    exact ⟨t2, st.trans a1, b1⟩
/-- caught by the row x of this method's table; the rows ahead don't take it -/
theorem vx_catch {own name : String} {E : String} {ce : Cell} {q : Addr} (hown : s.vm.findClass own = some m.cls) (pre : List ExceptionTableEntry) (x : ExceptionTableEntry) (suf : List ExceptionTableEntry) (hsplit : c.exceptionTable.toList = pre ++ x :: suf)
    (hpass : ∀ z ∈ pre, covers z pc = false ∨ (z.catchType ≠ 0 ∧ ∃ nm : String, (Cond.classLink own z.catchType nm).before args s = true ∧ va_Nc E nm s)) (hx : covers x pc = true) (h0 : x.catchType ≠ 0)
    (hlink : (Cond.classLink own x.catchType name).before args s = true) (hcast : (Cond.castable E name).before args s = true) (hcell : H[q]? = some ce) (hv : ce.vm = .none) (hcl : s.vm.findClass E = some ce.cls)
    (kk : W p l e R s m args below meth c H locs cells slots Q (F0 m x.handlerPc ls [.ref q])) : vx_W p l e R s m args below meth c H locs cells slots Q (F0 m pc ls rest) q := by
  intro T hT X
  have hpl : e.platform.magicAccessors = ({} : Platform).magicAccessors := by rw [X.admits.platform]
  obtain ⟨c3, c4, hc3, hc4, hasg⟩ := Cond.castable_spec hcast
  cases Option.some.inj (hc3.symm.trans hcl)
  obtain ⟨c5, hc5, hcl5⟩ := Cond.classLink_spec hown hlink e.platform hpl
  cases Option.some.inj (hc4.symm.trans hc5)
  obtain ⟨vm', X', st⟩ := X.thenCaughtThrough q (g := F0 m pc ls rest) rfl (Steps.refl _) (by rw [hT]; exact hcell) (by rw [hv]; rfl) (by obtain ⟨k9, h9, -⟩ := Vm.findClass_spec hcl; exact ⟨k9, h9⟩) pre x suf hsplit
    (fun z hz => by
      rcases hpass z hz with h | ⟨hz0, nm, hl1, hn1⟩
      · exact Or.inl h
      · obtain ⟨c6, hc6, hcl6⟩ := Cond.classLink_spec hown hl1 e.platform hpl
        obtain ⟨a8, b8, h1, h2, h3⟩ := hn1
        cases Option.some.inj (h1.symm.trans hcl)
        cases Option.some.inj (h2.symm.trans hc6)
        exact Or.inr ⟨hz0, _, hcl6, h3⟩) hx (Or.inr ⟨h0, c4, hcl5, hasg⟩)
  obtain ⟨t, a1, b1⟩ := kk (T.setVm vm') hT X'
  exact ⟨t, st.trans a1, b1⟩
end Rows
section Ends
variable {p : Program} {l : Launch} {e : Env} {R : Room} {s : State} {m : MethodId} {args : Array Value} {below : List Frame} {meth : Method} {c : Code} {H : Heap} {locs : List Loc} {cells slots : Nat} {Q : State → Prop}
variable {mc ms : Nat} {free : Addr → Prop} {A0 A1 : Nat → Prop} {H0 : Heap} {a : Array Value} {ls : Array Slot} {st0 rest : List Value}
variable {Qc : Array Value → State → Outcome → State → Prop} {XC : String → State → State → Prop}
/-- what a body that may throw owes at its end -/
def vx_MQ (below : List Frame) (Qc : Array Value → State → Outcome → State → Prop) (XC : String → State → State → Prop) (a : Array Value) (s : State) (mc ms : Nat) (free : Addr → Prop) : State → Prop := fun t =>
  ∃ o, t.status = .running ∧ Ended t below o ∧ vx_Q Qc XC mc ms free a s o t
theorem vx_ret {g : JFrame} {mc ms : Nat} (k : W p l e R s m args below meth c H locs cells slots (MQ below Qc args s mc ms free) g) : W p l e R s m args below meth c H locs cells slots (vx_MQ below Qc XC args s mc ms free) g := by
  intro T hT X
  obtain ⟨t, a1, o, b1, b2, b3, b4⟩ := k T hT X
  exact ⟨t, a1, o, b1, b2, Or.inl ⟨b3, b4⟩⟩
/-- not caught here: it goes on to the caller -/
theorem vx_widen {g : JFrame} {q : Addr} {k n : Nat} (h1 : cells ≤ k) (h2 : slots ≤ n) (kk : vx_W p l e R s m args below meth c H locs k n Q g q) : vx_W p l e R s m args below meth c H locs cells slots Q g q := fun T hT X => kk T hT (stand_widen X h1 h2)
theorem vx_out {pc : Nat} {E : String} {ce : Cell} {q : Addr} {mc ms : Nat} (hout : ∀ x ∈ c.exceptionTable.toList, covers x pc = false) (hlocks : meth.locks = false) (hcell : H[q]? = some ce) (hv : ce.vm = .none) (hcl : s.vm.findClass E = some ce.cls)
    (hx : ∀ t : State, t.heap = H → s.vm.Alike t.vm → XC E s t) (hf : ∀ z ∈ locs, free z.base) (hc : cells ≤ mc) (hs : slots ≤ ms) :
    vx_W p l e R s m args below meth c H locs cells slots (vx_MQ below Qc XC args s mc ms free) (F0 m pc ls rest) q := by
  intro T hT X
  obtain ⟨st1, hrun, hend, hW, hsm⟩ := X.leaveThrown q (g := F0 m pc ls rest) rfl rfl rfl hout hlocks
  have hcell9 : (T.setFrames (.throwing q :: below)).heap[q]? = some ce := by
    show T.heap[q]? = some ce
    rw [hT]; exact hcell
  exact ⟨_, st1, .threw q, hrun, hend, Or.inr ⟨q, rfl, E, ce, locs, hx _ hT hW.alike, hcell9, hv, hcl, hW, hsm.mono hc hs, hf⟩⟩
theorem vx_frame {U : State} {k n : Nat} (h : s.sameButNew ({ U with vm := s.vm } : State) locs k n) : s.heap.size ≤ U.heap.size ∧ ∀ q : Nat, q < s.heap.size → (∀ z ∈ locs, z.base ≠ q) → U.heap[q]? = s.heap[q]? := by
  obtain ⟨-, h2, -, -, -, h6⟩ := h
  refine ⟨h2, fun q hq hz => ?_⟩
  obtain ⟨c9, e1, e2, e3, e4⟩ := h6 q _ (Array.getElem?_eq_getElem hq)
  have hs : c9.slots = (s.heap[q]).slots := Array.ext_getElem? fun i => e4 i fun hm => hz _ hm rfl
  have h9 : c9 = s.heap[q] := by
    rw [hs] at e2
    exact e2
  have e5 : U.heap[q]? = some c9 := e1
  rw [e5, h9, Array.getElem?_eq_getElem hq]
/-- the words of a throw but the four that speak of the heap -/
def vx_no (w : Cond) : Bool := decide (w ≠ .isRef (.static Bundle.tN "UNASSIGNED_STACK" Bundle.steD)) && decide (w ≠ .isRef (.static Bundle.tN "SUPPRESSED_SENTINEL" Bundle.listD)) && decide (w ≠ .laysStatic Bundle.tN "UNASSIGNED_STACK" Bundle.steD) && decide (w ≠ .laysStatic Bundle.tN "SUPPRESSED_SENTINEL" Bundle.listD)
def vx_at0 (own : String) (ic : Nat) (X : String) (names : List String) : List Cond := (Bundle.ownAtoms0 own ic X names).filter vx_no
def vx_atS (own : String) (ic : Nat) (X : String) (names : List String) : List Cond := (Bundle.ownAtoms own ic X names).filter vx_no
/-- a word that the tables alone decide, or a good one -/
def vx_ot (w : Cond) : Bool := w.onTables || goodWord w
theorem vx_ot_at {args a' : Array Value} {s U : State} {w : Cond} (hW : s.WarmedH U.vm) (hvm : s.vm = U.vm) (hg : vx_ot w = true) (h : w.before args s = true) : w.before a' U = true := by
  simp only [vx_ot, Bool.or_eq_true] at hg
  rcases hg with hg | hg
  · exact va_tabs hg hvm h
  · exact word_at hW (good_of_word hg) h
/-- a list's words: the good ones out of the method's own list, the others by premises of their own -/
theorem vx_hat {args : Array Value} {s : State} {L B : List Cond} (h1 : ∀ w ∈ L.filter goodWord, w.before args s = true) (h2 : ∀ w ∈ L.filter (fun w => !goodWord w), w ∈ B) (h3 : ∀ w ∈ B, w.before args s = true) : ∀ w ∈ L, w.before args s = true := by
  intro w hw
  by_cases g : goodWord w = true
  · exact h1 w (List.mem_filter.mpr ⟨hw, g⟩)
  · refine h3 w (h2 w (List.mem_filter.mpr ⟨hw, ?_⟩))
    show (!goodWord w) = true
    cases hgw : goodWord w
    · rfl
    · exact absurd hgw g
theorem vx_c {args : Array Value} {s : State} {w : Cond} {B : List Cond} (h : w.before args s = true) (t : ∀ w ∈ B, w.before args s = true) : ∀ w' ∈ w :: B, w'.before args s = true := fun w' h' => (List.mem_cons.mp h').elim (fun e => by rw [e]; exact h) (t w')
theorem vx_n {args : Array Value} {s : State} : ∀ w ∈ ([] : List Cond), w.before args s = true := fun _ h => nomatch h
theorem vx_own {args : Array Value} {s : State} {L : List Cond} (h1 : ∀ w ∈ L.filter vx_no, w.before args s = true)
    (hU : (Cond.isRef (.static Bundle.tN "UNASSIGNED_STACK" Bundle.steD)).before args s = true) (hN : (Cond.isRef (.static Bundle.tN "SUPPRESSED_SENTINEL" Bundle.listD)).before args s = true)
    (lU : (Cond.laysStatic Bundle.tN "UNASSIGNED_STACK" Bundle.steD).before args s = true) (lN : (Cond.laysStatic Bundle.tN "SUPPRESSED_SENTINEL" Bundle.listD).before args s = true) : ∀ w ∈ L, w.before args s = true := by
  intro w hw
  by_cases e1 : w = .isRef (.static Bundle.tN "UNASSIGNED_STACK" Bundle.steD)
  · rw [e1]; exact hU
  · by_cases e2 : w = .isRef (.static Bundle.tN "SUPPRESSED_SENTINEL" Bundle.listD)
    · rw [e2]; exact hN
    · by_cases e3 : w = .laysStatic Bundle.tN "UNASSIGNED_STACK" Bundle.steD
      · rw [e3]; exact lU
      · by_cases e4 : w = .laysStatic Bundle.tN "SUPPRESSED_SENTINEL" Bundle.listD
        · rw [e4]; exact lN
        · exact h1 w (List.mem_filter.mpr ⟨hw, by unfold vx_no; rw [decide_eq_true e1, decide_eq_true e2, decide_eq_true e3, decide_eq_true e4]; rfl⟩)
/-- where a static field lies, its class's statics cell in H -/
def vx_L (C n d : String) (A : Nat → Prop) (U : State) (H : Heap) : Prop := ∃ (c : ClassId) (k : Class) (i : Nat) (f : Field) (a : Nat) (cell : Cell), U.vm.findClass C = some c ∧ U.fieldFound? C n d = some (c, k, i, f) ∧ f.isStatic = true ∧ k.statics = some a ∧ H[a]? = some cell ∧ cell.vm.isStatics = true ∧ cell.cls = c ∧ f.slot < cell.slots.size ∧ k.staticTypes[f.slot]? = some f.type ∧ ¬ A a
theorem vx_L.moved {C n d : String} {A : Nat → Prop} {u U : State} {H : Heap} (hvm : u.vm.Alike U.vm) (h : vx_L C n d A u H) : vx_L C n d A U H := by
  obtain ⟨c, k, i, f, a, cell, h1, h2, h3, h4, h5, h6, h7, h8, h9, h10⟩ := h
  obtain ⟨k', hi', he⟩ := State.fieldFound?_setVm hvm h2
  exact ⟨c, k', i, f, a, cell, by rw [hvm.findClass]; exact h1, hi', h3, by rw [he]; exact h4, h5, h6, h7, h8, by rw [he]; exact h9, h10⟩
theorem vx_L.kept {C n d : String} {A : Nat → Prop} {U : State} {H H1 : Heap} (h : vx_L C n d A U H) (hq : ∀ a : Nat, a < H.size → ¬ A a → H1[a]? = H[a]?) : vx_L C n d A U H1 := by
  obtain ⟨c, k, i, f, a, cell, h1, h2, h3, h4, h5, h6, h7, h8, h9, h10⟩ := h
  exact ⟨c, k, i, f, a, cell, h1, h2, h3, h4, by rw [hq a (Array.getElem?_eq_some_iff.mp h5).1 h10]; exact h5, h6, h7, h8, h9, h10⟩
theorem vx_L.narrow {C n d : String} {A B : Nat → Prop} {U : State} {H : Heap} (h : vx_L C n d A U H) (hAB : ∀ q, B q → A q) : vx_L C n d B U H := by
  obtain ⟨c, k, i, f, a, cell, h1, h2, h3, h4, h5, h6, h7, h8, h9, h10⟩ := h
  exact ⟨c, k, i, f, a, cell, h1, h2, h3, h4, h5, h6, h7, h8, h9, fun z => h10 (hAB _ z)⟩
theorem vx_L.word {C n d : String} {A : Nat → Prop} {s : State} {args : Array Value} (h : vx_L C n d A s s.heap) : (Cond.laysStatic C n d).before args s = true := by
  obtain ⟨c, k, i, f, a, cell, h1, h2, h3, h4, h5, h6, h7, h8, h9, -⟩ := h
  show (Cond.laysStatic C n d).holds args s none s [] = true
  exact Cond.laysStatic_of h1 h2 h3 h4 h5 h6 h7 h8 h9
/-- .. and what it holds: null or some reference -/
def vx_Zq (C n d : String) (A : Nat → Prop) (U : State) (H : Heap) : Prop := va_Zq C n d A U H ∧ vx_L C n d A U H
theorem vx_Zq.moved {C n d : String} {A : Nat → Prop} {u U : State} {H : Heap} (hvm : u.vm.Alike U.vm) (h : vx_Zq C n d A u H) : vx_Zq C n d A U H := ⟨va_Zq.moved hvm h.1, vx_L.moved hvm h.2⟩
theorem vx_Zq.kept {C n d : String} {A : Nat → Prop} {U : State} {H H1 : Heap} (h : vx_Zq C n d A U H) (hq : ∀ a : Nat, a < H.size → ¬ A a → H1[a]? = H[a]?) : vx_Zq C n d A U H1 := ⟨va_Zq.kept h.1 hq, vx_L.kept h.2 hq⟩
theorem vx_Zq.narrow {C n d : String} {A B : Nat → Prop} {U : State} {H : Heap} (h : vx_Zq C n d A U H) (hAB : ∀ q, B q → A q) : vx_Zq C n d B U H := ⟨va_Zq.narrow h.1 hAB, vx_L.narrow h.2 hAB⟩
theorem vx_Zqof {args : Array Value} {s : State} {C n d : String} {A : Nat → Prop} (hl : (Cond.laysStatic C n d).before args s = true) (hini : (Cond.initialized C).before args s = true) (h : (Cond.isRef (.static C n d)).before args s = true) (hA : ∀ a : Nat, a < s.heap.size → ¬ A a) : vx_Zq C n d A s s.heap := by
  refine ⟨va_Zqof hl hini h hA, ?_⟩
  obtain ⟨c, k, i, f, a, cell, h1, h2, h3, h4, h5, h6, h7, h8, h9⟩ := Cond.laysStatic_spec hl
  exact ⟨c, k, i, f, a, cell, h1, h2, h3, h4, h5, h6, h7, h8, h9, hA a (Array.getElem?_eq_some_iff.mp h5).1⟩
theorem vx_isRef {C n d : String} {v : Value} {A : Nat → Prop} {s : State} {args : Array Value} (h : va_Z C n d v A s s.heap) (hv : v.isRef = true) : (Cond.isRef (.static C n d)).before args s = true := by
  obtain ⟨cf, kf, fi, f, a, cell, h1, h2, h3, h4, h5, h6, h7, -⟩ := h
  have he : (Term.static C n d).eval args s none [] s = some v := by
    simp [Term.eval, State.fieldNamed?, h1, h2, h4, h5, h6, h7]
  simp only [Cond.before, Cond.holds, Cond.value, he]
  cases v <;> simp_all [Value.isRef]
theorem vx_isRefq {C n d : String} {A : Nat → Prop} {s : State} {args : Array Value} (h : va_Zq C n d A s s.heap) : (Cond.isRef (.static C n d)).before args s = true := by
  rcases h with h | ⟨t, h⟩
  · exact vx_isRef h rfl
  · exact vx_isRef h rfl
/-- the same frame, seen from here: as if the method were called anew in this heap -/
theorem vx_rebase {T : State} (X : Stand p l e R s m args below meth c T locs cells slots) {R' : Room} (hf : R'.frames ≤ R.frames) (hl : R'.locals ≤ R.locals) (hc : cells + R'.cells ≤ R.cells) (hs : slots + R'.slots ≤ R.slots) :
    Stand p l e R' ((T.setVm s.vm).setFrames (.invoking m args :: below)) m args below meth c T [] 0 0 := by
  have htop : (T.setVm s.vm).topJava?.isSome := X.here.top
  have hF : ((T.setVm s.vm).setFrames (.invoking m args :: below)).frames = .invoking m args :: below := State.frames_setFrames _ (State.cur_lt_of_top htop)
  obtain ⟨g₀, hg0⟩ := Option.isSome_iff_exists.mp htop
  obtain ⟨r, hr⟩ := State.topJava?_eq_some.mp hg0
  have hl9 : e.platform.stackLimits (T.setVm s.vm).me = e.platform.stackLimits s.me := X.limits
  have hb9 : (T.setVm s.vm).me.stackBytes = s.me.stackBytes := X.bytes
  refine ⟨X.admits, X.cas, X.clock, hF, ?_, X.hears, X.method, X.code, X.here, X.tail, X.warmed, ?_, ?_, ?_⟩
  · have h := X.room
    have hU : ((T.setVm s.vm).setFrames (.invoking m args :: below)).localsInUse = s.localsInUse := by
      rw [State.localsInUse_invoking hF (meth := meth) (c := c) X.method X.code, State.localsInUse_invoking X.frames X.method X.code]
    simp only [State.hasRoom, Bool.and_eq_true, decide_eq_true_eq] at h ⊢
    obtain ⟨⟨⟨⟨h1, h2, h3, h4, h5, h6⟩, h7⟩, h8⟩, h9⟩ := h
    rw [X.frames, List.length_cons] at h2 h3
    have q1 := X.heapSize
    have q2 := X.used
    simp only [hF, hU, List.length_cons, State.stackLimits_setFrames, State.stackBytes_setFrames, hl9, hb9]
    refine ⟨⟨⟨⟨by omega, by omega, by omega, by omega, by omega, h6⟩, ?_⟩, ?_⟩, X.book⟩
    · show T.heap.size + R'.cells ≤ e.platform.maxCells
      omega
    · show T.slotsUsed + R'.slots ≤ e.platform.maxSlots
      omega
  · rw [State.stackLimits_setFrames]; rfl
  · rw [State.stackBytes_setFrames]; rfl
  · refine ⟨?_, Nat.le_refl _, Nat.le_refl _, ?_, ?_, fun a c9 h9 => ⟨c9, h9, rfl, rfl, fun _ _ => rfl⟩⟩
    · obtain ⟨t, ht, -⟩ := State.frames_cons hr
      show T.setVm s.vm = { ((T.setVm s.vm).setFrames (.invoking m args :: below)).setFrames (T.setVm s.vm).frames with heap := T.heap, slotsUsed := T.slotsUsed }
      rw [State.setFrames_setFrames, State.setFrames_self ht]
      rfl
    · show T.slotsUsed = T.slotsUsed + ((T.heap.toList.drop T.heap.size).map (·.slots.size)).sum
      rw [List.drop_eq_nil_of_le (Nat.le_of_eq Array.length_toList)]
      rfl
    · show ((T.heap.toList.drop T.heap.size).map (·.slots.size)).sum ≤ 0
      rw [List.drop_eq_nil_of_le (Nat.le_of_eq Array.length_toList)]
      exact Nat.le_refl _
/-- 'throw new E()': new; dup; invokespecial; athrow -/
theorem vx_throw0 {cc : ByteArray} {pc : Nat} (hexec : p.tables.exec = Jvm.exec) (hb : c.code = cc) (hl : l.stackTraces = false) {own cls : String} {names : List String} {ik ic mc ms : Nat} {A : Nat → Prop}
    (hown : s.vm.findClass own = some m.cls) (hcls : Bundle.fit cls = true) (hnames : ∀ n ∈ names, Bundle.fit n = true)
    (hk : (Cond.classLink own ik cls).before args s = true) (hini : (Cond.initialized cls).before args s = true) (hat : ∀ w ∈ vx_at0 own ic cls names, w.before args s = true)
    (hgood : ∀ w ∈ Cond.classLink own ik cls :: Cond.initialized cls :: vx_at0 own ic cls names, vx_ot w = true)
    (hU : vx_Zq Bundle.tN "UNASSIGNED_STACK" Bundle.steD A s s.heap) (hN : vx_Zq Bundle.tN "SUPPRESSED_SENTINEL" Bundle.listD A s s.heap) (hS : va_S A s.heap H locs) (hsize : ls.size = c.maxLocals)
    (d0 : decode cc pc = .ok (.new ik, 3)) (d3 : decode cc (pc + 3) = .ok (.dup, 1)) (d4 : decode cc (pc + 4) = .ok (.invokespecial ic, 3)) (d7 : decode cc (pc + 7) = .ok (.athrow, 1))
    (hout : ∀ x ∈ c.exceptionTable.toList, covers x (pc + 7) = false)
    (hRframes : names.length + 3 < R.frames) (hRlocals : (rest.map fun v => v.category).sum + (13 * (names.length + 1) + 42) ≤ R.locals) (hRcells : cells + 1 ≤ R.cells) (hRslots : slots + 6 ≤ R.slots) (hlocks : meth.locks = false)
    (hx : ∀ t : State, s.vm.Alike t.vm → H.size ≤ t.heap.size → (∀ q : Nat, q < H.size → t.heap[q]? = H[q]?) → XC cls s t)
    (hf : ∀ z ∈ locs, free z.base) (hc : cells + 1 ≤ mc) (hs : slots + 6 ≤ ms) :
    W p l e R s m args below meth c H locs cells slots (vx_MQ below Qc XC args s mc ms free) (F0 m pc ls rest) := by
  intro T hT X
  have htr : e.platform.stackTraces = false := (show e.platform.stackTraces = l.stackTraces by rw [X.admits.platform]).trans hl
  have Y := vx_rebase X (R' := { frames := R.frames, locals := R.locals, cells := 1, slots := 6 }) (Nat.le_refl _) (Nat.le_refl _) hRcells hRslots
  obtain ⟨s', hA⟩ : ∃ z, z = (T.setVm s.vm).setFrames (.invoking m args :: below) := ⟨_, rfl⟩
  rw [← hA] at Y
  have hvm : s'.vm = s.vm := by rw [hA]; rfl
  have hhp : s'.heap = H := by rw [hA]; exact hT
  have hW0 : s.WarmedH s'.vm := by rw [hvm]; exact State.WarmedH.refl s
  have hat' : ∀ w ∈ vx_at0 own ic cls names, w.before args s' = true := fun w hw => vx_ot_at hW0 hvm.symm (hgood w (List.mem_cons_of_mem _ (List.mem_cons_of_mem _ hw))) (hat w hw)
  have hk' : (Cond.classLink own ik cls).before args s' = true := vx_ot_at hW0 hvm.symm (hgood _ List.mem_cons_self) hk
  have hini' : (Cond.initialized cls).before args s' = true := vx_ot_at hW0 hvm.symm (hgood _ (List.mem_cons_of_mem _ List.mem_cons_self)) hini
  have hU' : vx_Zq Bundle.tN "UNASSIGNED_STACK" Bundle.steD A s' s'.heap := by rw [hhp]; exact vx_Zq.moved hW0.alike (hU.kept hS.2.1)
  have hN' : vx_Zq Bundle.tN "SUPPRESSED_SENTINEL" Bundle.listD A s' s'.heap := by rw [hhp]; exact vx_Zq.moved hW0.alike (hN.kept hS.2.1)
  have h : ∀ w ∈ Bundle.ownAtoms0 own ic cls names, w.before args s' = true := vx_own hat' (vx_isRefq hU'.1) (vx_isRefq hN'.1) hU'.2.word hN'.2.word
  have hown' : s'.vm.findClass own = some m.cls := by rw [hvm]; exact hown
  have hins : (Cond.instantiable cls 6).before args s' = true := h _ (by simp [Bundle.ownAtoms0])
  obtain ⟨vm₁, cX, kX, hfX, hkX, -, -, X₁, st1⟩ := Y.newCold hexec (own := own) (C := cls) (index := ik) (n := 6) hown' hk' hins hini'
    (g := F0 m pc ls rest) rfl (by rw [hb]; exact d0) (Nat.le_refl _) (Nat.le_refl _)
  generalize hT1 : (T.setVm vm₁).pushCell { cls := cX, slots := kX.instanceTypes.map defaultValue, vm := .none } = T1 at X₁ st1
  have hcat : (Value.ref T.heap.size).category = 1 := rfl
  have hcellA : T1.heap[T.heap.size]? = some (freshCell cX kX) := by rw [← hT1]; exact State.heap_pushCell_size _ _
  have d3' : decode c.code (pc + 3) = .ok (.dup, 1) := by rw [hb]; exact d3
  obtain ⟨U, hsteps, hrun, hend, hW, hsame, ce, hce, hO⟩ := X₁.ctorThrow0 hexec htr (own := own) (cls := cls) (names := names) (ic := ic) hown' hcls hnames h (fun x hx => nomatch hx) hfX hkX hcellA (by rw [hhp, hT]; exact Nat.le_refl _)
    (g := { method := m, pc := pc + 4, locals := ls, stack := .ref T.heap.size :: .ref T.heap.size :: rest, locked := none }) rfl hsize rfl rfl (rest := rest) rfl
    (by rw [hb]; exact d4) (by rw [hb]; exact d7) hout hRframes (by simp only [List.map_cons, List.sum_cons, hcat]; omega) hlocks
  obtain ⟨f1, f2⟩ := vx_frame hsame
  rw [hhp] at f1 f2
  have hWs : s.WarmedH U.vm := State.WarmedH.trans hW0 hW
  have hcl : s.vm.findClass cls = some ce.cls := by
    have h9 := hO.cls
    rw [hvm] at h9
    exact h9
  have hall : s.sameButNew ({ U with vm := s.vm } : State) locs mc ms := by
    subst hA
    obtain ⟨e1, e2⟩ := hsame
    rw [State.setFrames_setFrames] at e1
    have h2 : (T.setVm s.vm).sameButNew ({ U with vm := s.vm } : State) [] (0 + 1) (0 + 6) := ⟨e1, e2⟩
    have h3 := X.same.trans h2
    rw [List.append_nil] at h3
    exact h3.mono hc hs
  refine ⟨U, ?_, .threw T.heap.size, hrun, hend, Or.inr ⟨T.heap.size, rfl, cls, ce, locs, hx U hWs.alike f1 (fun q hq => f2 q hq (fun z hz => nomatch hz)), hce, hO.vm, hcl, hWs, hall, hf⟩⟩
  refine st1 _ ?_
  show Steps p.tables e below (T1.setTop { method := m, pc := pc + 3, locals := ls, stack := .ref T.heap.size :: rest, locked := none }) _
  jvm_step X₁.here [X₁.here.top, hexec, d3', Value.category]
  exact hsteps
/-- 'throw new E("text")': new; dup; ldc; invokespecial; athrow -/
theorem vx_throwS {cc : ByteArray} {pc : Nat} (hexec : p.tables.exec = Jvm.exec) (hb : c.code = cc) (hl : l.stackTraces = false) {own cls text : String} {names : List String} {ik is ic mc ms sa : Nat} {A : Nat → Prop}
    (hown : s.vm.findClass own = some m.cls) (hcls : Bundle.fit cls = true) (hnames : ∀ n ∈ names, Bundle.fit n = true)
    (hk : (Cond.classLink own ik cls).before args s = true) (hini : (Cond.initialized cls).before args s = true) (hstr : vk_R own is text sa s) (hat : ∀ w ∈ vx_atS own ic cls names, w.before args s = true)
    (hgood : ∀ w ∈ Cond.classLink own ik cls :: Cond.initialized cls :: vx_atS own ic cls names, vx_ot w = true)
    (hU : vx_Zq Bundle.tN "UNASSIGNED_STACK" Bundle.steD A s s.heap) (hN : vx_Zq Bundle.tN "SUPPRESSED_SENTINEL" Bundle.listD A s s.heap) (hS : va_S A s.heap H locs) (hsize : ls.size = c.maxLocals)
    (d0 : decode cc pc = .ok (.new ik, 3)) (d3 : decode cc (pc + 3) = .ok (.dup, 1)) (d4 : decode cc (pc + 4) = .ok (.ldc is, 2)) (d6 : decode cc (pc + 6) = .ok (.invokespecial ic, 3)) (d9 : decode cc (pc + 9) = .ok (.athrow, 1))
    (hout : ∀ x ∈ c.exceptionTable.toList, covers x (pc + 9) = false)
    (hRframes : names.length + 3 < R.frames) (hRlocals : (rest.map fun v => v.category).sum + (13 * (names.length + 1) + 43) ≤ R.locals) (hRcells : cells + 1 ≤ R.cells) (hRslots : slots + 6 ≤ R.slots) (hlocks : meth.locks = false)
    (hx : ∀ t : State, s.vm.Alike t.vm → H.size ≤ t.heap.size → (∀ q : Nat, q < H.size → t.heap[q]? = H[q]?) → XC cls s t)
    (hf : ∀ z ∈ locs, free z.base) (hc : cells + 1 ≤ mc) (hs : slots + 6 ≤ ms) :
    W p l e R s m args below meth c H locs cells slots (vx_MQ below Qc XC args s mc ms free) (F0 m pc ls rest) := by
  intro T hT X
  have htr : e.platform.stackTraces = false := (show e.platform.stackTraces = l.stackTraces by rw [X.admits.platform]).trans hl
  have Y := vx_rebase X (R' := { frames := R.frames, locals := R.locals, cells := 1, slots := 6 }) (Nat.le_refl _) (Nat.le_refl _) hRcells hRslots
  obtain ⟨s', hA⟩ : ∃ z, z = (T.setVm s.vm).setFrames (.invoking m args :: below) := ⟨_, rfl⟩
  rw [← hA] at Y
  have hvm : s'.vm = s.vm := by rw [hA]; rfl
  have hhp : s'.heap = H := by rw [hA]; exact hT
  have hW0 : s.WarmedH s'.vm := by rw [hvm]; exact State.WarmedH.refl s
  have hat' : ∀ w ∈ vx_atS own ic cls names, w.before args s' = true := fun w hw => vx_ot_at hW0 hvm.symm (hgood w (List.mem_cons_of_mem _ (List.mem_cons_of_mem _ hw))) (hat w hw)
  have hk' : (Cond.classLink own ik cls).before args s' = true := vx_ot_at hW0 hvm.symm (hgood _ List.mem_cons_self) hk
  have hini' : (Cond.initialized cls).before args s' = true := vx_ot_at hW0 hvm.symm (hgood _ (List.mem_cons_of_mem _ List.mem_cons_self)) hini
  have hU' : vx_Zq Bundle.tN "UNASSIGNED_STACK" Bundle.steD A s' s'.heap := by rw [hhp]; exact vx_Zq.moved hW0.alike (hU.kept hS.2.1)
  have hN' : vx_Zq Bundle.tN "SUPPRESSED_SENTINEL" Bundle.listD A s' s'.heap := by rw [hhp]; exact vx_Zq.moved hW0.alike (hN.kept hS.2.1)
  have h : ∀ w ∈ Bundle.ownAtoms own ic cls names, w.before args s' = true := vx_own hat' (vx_isRefq hU'.1) (vx_isRefq hN'.1) hU'.2.word hN'.2.word
  have hown' : s'.vm.findClass own = some m.cls := by rw [hvm]; exact hown
  have hins : (Cond.instantiable cls 6).before args s' = true := h _ (by simp [Bundle.ownAtoms])
  obtain ⟨vm₁, cX, kX, hfX, hkX, -, -, X₁, st1⟩ := Y.newCold hexec (own := own) (C := cls) (index := ik) (n := 6) hown' hk' hins hini'
    (g := F0 m pc ls rest) rfl (by rw [hb]; exact d0) (Nat.le_refl _) (Nat.le_refl _)
  generalize hT1 : (T.setVm vm₁).pushCell { cls := cX, slots := kX.instanceTypes.map defaultValue, vm := .none } = T1 at X₁ st1
  have hcat : (Value.ref T.heap.size).category = 1 := rfl
  have hcellA : T1.heap[T.heap.size]? = some (freshCell cX kX) := by rw [← hT1]; exact State.heap_pushCell_size _ _
  have d3' : decode c.code (pc + 3) = .ok (.dup, 1) := by rw [hb]; exact d3
  have d4' : decode c.code (pc + 4) = .ok (.ldc is, 2) := by rw [hb]; exact d4
  have hstr' : vk_R own is text sa s' := vk_R.warm hW0 hstr
  obtain ⟨U, hsteps, hrun, hend, hW, hsame, ce, hce, hO⟩ := X₁.ctorThrowS hexec htr (own := own) (cls := cls) (names := names) (ic := ic) hown' hcls hnames h (fun x hx => nomatch hx) hfX hkX hcellA (by rw [hhp, hT]; exact Nat.le_refl _) (msg := .ref sa) rfl
    (g := { method := m, pc := pc + 6, locals := ls, stack := .ref sa :: .ref T.heap.size :: .ref T.heap.size :: rest, locked := none }) rfl hsize rfl rfl (rest := rest) rfl
    (by rw [hb]; exact d6) (by rw [hb]; exact d9) hout hRframes (by simp only [List.map_cons, List.sum_cons, hcat]; omega) hlocks
  obtain ⟨f1, f2⟩ := vx_frame hsame
  rw [hhp] at f1 f2
  have hWs : s.WarmedH U.vm := State.WarmedH.trans hW0 hW
  have hcl : s.vm.findClass cls = some ce.cls := by
    have h9 := hO.cls
    rw [hvm] at h9
    exact h9
  have hall : s.sameButNew ({ U with vm := s.vm } : State) locs mc ms := by
    subst hA
    obtain ⟨e1, e2⟩ := hsame
    rw [State.setFrames_setFrames] at e1
    have h2 : (T.setVm s.vm).sameButNew ({ U with vm := s.vm } : State) [] (0 + 1) (0 + 6) := ⟨e1, e2⟩
    have h3 := X.same.trans h2
    rw [List.append_nil] at h3
    exact h3.mono hc hs
  refine ⟨U, ?_, .threw T.heap.size, hrun, hend, Or.inr ⟨T.heap.size, rfl, cls, ce, locs, hx U hWs.alike f1 (fun q hq => f2 q hq (fun z hz => nomatch hz)), hce, hO.vm, hcl, hWs, hall, hf⟩⟩
  refine st1 _ ?_
  show Steps p.tables e below (T1.setTop { method := m, pc := pc + 3, locals := ls, stack := .ref T.heap.size :: rest, locked := none }) _
  jvm_step X₁.here [X₁.here.top, hexec, d3', Value.category]
  exact X₁.ldcString hexec (own := own) (text := text) (index := is) (a := sa) hown' hstr'.1 hstr'.2
    (g := { method := m, pc := pc + 4, locals := ls, stack := .ref T.heap.size :: .ref T.heap.size :: rest, locked := none }) rfl d4' _ hsteps
/-- 'throw new E("text")', the text by a wide index -/
theorem vx_throwSW {cc : ByteArray} {pc : Nat} (hexec : p.tables.exec = Jvm.exec) (hb : c.code = cc) (hl : l.stackTraces = false) {own cls text : String} {names : List String} {ik is ic mc ms sa : Nat} {A : Nat → Prop}
    (hown : s.vm.findClass own = some m.cls) (hcls : Bundle.fit cls = true) (hnames : ∀ n ∈ names, Bundle.fit n = true)
    (hk : (Cond.classLink own ik cls).before args s = true) (hini : (Cond.initialized cls).before args s = true) (hstr : vk_R own is text sa s) (hat : ∀ w ∈ vx_atS own ic cls names, w.before args s = true)
    (hgood : ∀ w ∈ Cond.classLink own ik cls :: Cond.initialized cls :: vx_atS own ic cls names, vx_ot w = true)
    (hU : vx_Zq Bundle.tN "UNASSIGNED_STACK" Bundle.steD A s s.heap) (hN : vx_Zq Bundle.tN "SUPPRESSED_SENTINEL" Bundle.listD A s s.heap) (hS : va_S A s.heap H locs) (hsize : ls.size = c.maxLocals)
    (d0 : decode cc pc = .ok (.new ik, 3)) (d3 : decode cc (pc + 3) = .ok (.dup, 1)) (d4 : decode cc (pc + 4) = .ok (.ldc_w is, 3)) (d7 : decode cc (pc + 7) = .ok (.invokespecial ic, 3)) (d10 : decode cc (pc + 10) = .ok (.athrow, 1))
    (hout : ∀ x ∈ c.exceptionTable.toList, covers x (pc + 10) = false)
    (hRframes : names.length + 3 < R.frames) (hRlocals : (rest.map fun v => v.category).sum + (13 * (names.length + 1) + 43) ≤ R.locals) (hRcells : cells + 1 ≤ R.cells) (hRslots : slots + 6 ≤ R.slots) (hlocks : meth.locks = false)
    (hx : ∀ t : State, s.vm.Alike t.vm → H.size ≤ t.heap.size → (∀ q : Nat, q < H.size → t.heap[q]? = H[q]?) → XC cls s t)
    (hf : ∀ z ∈ locs, free z.base) (hc : cells + 1 ≤ mc) (hs : slots + 6 ≤ ms) :
    W p l e R s m args below meth c H locs cells slots (vx_MQ below Qc XC args s mc ms free) (F0 m pc ls rest) := by
  intro T hT X
  have htr : e.platform.stackTraces = false := (show e.platform.stackTraces = l.stackTraces by rw [X.admits.platform]).trans hl
  have Y := vx_rebase X (R' := { frames := R.frames, locals := R.locals, cells := 1, slots := 6 }) (Nat.le_refl _) (Nat.le_refl _) hRcells hRslots
  obtain ⟨s', hA⟩ : ∃ z, z = (T.setVm s.vm).setFrames (.invoking m args :: below) := ⟨_, rfl⟩
  rw [← hA] at Y
  have hvm : s'.vm = s.vm := by rw [hA]; rfl
  have hhp : s'.heap = H := by rw [hA]; exact hT
  have hW0 : s.WarmedH s'.vm := by rw [hvm]; exact State.WarmedH.refl s
  have hat' : ∀ w ∈ vx_atS own ic cls names, w.before args s' = true := fun w hw => vx_ot_at hW0 hvm.symm (hgood w (List.mem_cons_of_mem _ (List.mem_cons_of_mem _ hw))) (hat w hw)
  have hk' : (Cond.classLink own ik cls).before args s' = true := vx_ot_at hW0 hvm.symm (hgood _ List.mem_cons_self) hk
  have hini' : (Cond.initialized cls).before args s' = true := vx_ot_at hW0 hvm.symm (hgood _ (List.mem_cons_of_mem _ List.mem_cons_self)) hini
  have hU' : vx_Zq Bundle.tN "UNASSIGNED_STACK" Bundle.steD A s' s'.heap := by rw [hhp]; exact vx_Zq.moved hW0.alike (hU.kept hS.2.1)
  have hN' : vx_Zq Bundle.tN "SUPPRESSED_SENTINEL" Bundle.listD A s' s'.heap := by rw [hhp]; exact vx_Zq.moved hW0.alike (hN.kept hS.2.1)
  have h : ∀ w ∈ Bundle.ownAtoms own ic cls names, w.before args s' = true := vx_own hat' (vx_isRefq hU'.1) (vx_isRefq hN'.1) hU'.2.word hN'.2.word
  have hown' : s'.vm.findClass own = some m.cls := by rw [hvm]; exact hown
  have hins : (Cond.instantiable cls 6).before args s' = true := h _ (by simp [Bundle.ownAtoms])
  obtain ⟨vm₁, cX, kX, hfX, hkX, -, -, X₁, st1⟩ := Y.newCold hexec (own := own) (C := cls) (index := ik) (n := 6) hown' hk' hins hini'
    (g := F0 m pc ls rest) rfl (by rw [hb]; exact d0) (Nat.le_refl _) (Nat.le_refl _)
  generalize hT1 : (T.setVm vm₁).pushCell { cls := cX, slots := kX.instanceTypes.map defaultValue, vm := .none } = T1 at X₁ st1
  have hcat : (Value.ref T.heap.size).category = 1 := rfl
  have hcellA : T1.heap[T.heap.size]? = some (freshCell cX kX) := by rw [← hT1]; exact State.heap_pushCell_size _ _
  have d3' : decode c.code (pc + 3) = .ok (.dup, 1) := by rw [hb]; exact d3
  have d4' : decode c.code (pc + 4) = .ok (.ldc_w is, 3) := by rw [hb]; exact d4
  have hstr' : vk_R own is text sa s' := vk_R.warm hW0 hstr
  obtain ⟨U, hsteps, hrun, hend, hW, hsame, ce, hce, hO⟩ := X₁.ctorThrowS hexec htr (own := own) (cls := cls) (names := names) (ic := ic) hown' hcls hnames h (fun x hx => nomatch hx) hfX hkX hcellA (by rw [hhp, hT]; exact Nat.le_refl _) (msg := .ref sa) rfl
    (g := { method := m, pc := pc + 7, locals := ls, stack := .ref sa :: .ref T.heap.size :: .ref T.heap.size :: rest, locked := none }) rfl hsize rfl rfl (rest := rest) rfl
    (by rw [hb]; exact d7) (by rw [hb]; exact d10) hout hRframes (by simp only [List.map_cons, List.sum_cons, hcat]; omega) hlocks
  obtain ⟨f1, f2⟩ := vx_frame hsame
  rw [hhp] at f1 f2
  have hWs : s.WarmedH U.vm := State.WarmedH.trans hW0 hW
  have hcl : s.vm.findClass cls = some ce.cls := by
    have h9 := hO.cls
    rw [hvm] at h9
    exact h9
  have hall : s.sameButNew ({ U with vm := s.vm } : State) locs mc ms := by
    subst hA
    obtain ⟨e1, e2⟩ := hsame
    rw [State.setFrames_setFrames] at e1
    have h2 : (T.setVm s.vm).sameButNew ({ U with vm := s.vm } : State) [] (0 + 1) (0 + 6) := ⟨e1, e2⟩
    have h3 := X.same.trans h2
    rw [List.append_nil] at h3
    exact h3.mono hc hs
  refine ⟨U, ?_, .threw T.heap.size, hrun, hend, Or.inr ⟨T.heap.size, rfl, cls, ce, locs, hx U hWs.alike f1 (fun q hq => f2 q hq (fun z hz => nomatch hz)), hce, hO.vm, hcl, hWs, hall, hf⟩⟩
  refine st1 _ ?_
  show Steps p.tables e below (T1.setTop { method := m, pc := pc + 3, locals := ls, stack := .ref T.heap.size :: rest, locked := none }) _
  jvm_step X₁.here [X₁.here.top, hexec, d3', Value.category]
  exact X₁.ldcStringW hexec (own := own) (text := text) (index := is) (a := sa) hown' hstr'.1 hstr'.2
    (g := { method := m, pc := pc + 4, locals := ls, stack := .ref T.heap.size :: .ref T.heap.size :: rest, locked := none }) rfl d4' _ hsteps
end Ends
section Bodies
variable {l : Launch}
theorem vx_ofW {y : MethodName} {ws ws' : List Cond} {rm : Room} {Pc : Array Value → State → Prop} {Qc : Array Value → State → Outcome → State → Prop} {XC : String → State → State → Prop} {mc ms : Nat} {free : Addr → Prop} {cc : ByteArray} {maxL : Nat} {ret : Option FieldType}
    (hy : plainName y.cls = true) (hw : ws = Cond.code y cc maxL ret :: ws')
    (body : ∀ p e s m args below meth c s₁, BodyLoose p l y (headSpec ws rm) cc maxL ret e s m args below meth c s₁ → c.maxLocals = maxL → (∀ x ∈ c.exceptionTable.toList, False) → Pc args s →
      W p l e (headSpec ws rm).room s m args below meth c s.heap [] 0 0 (vx_MQ below Qc XC args s mc ms free) (entryFrame m args maxL)) : vx_Met l y ws rm Pc Qc XC mc ms free := by
  refine MetFree.of_bodyS (code := cc) (maxLocals := maxL) (ret := ret) hy ?_ ?_
  · intro args s m h hn
    obtain ⟨meth, c, h1, h2, h3, h4, h5, h6, -, -⟩ := Cond.code_spec hn (atoms_spec (ws := ws) h _ (by rw [hw]; exact List.mem_cons_self))
    exact ⟨meth, c, h1, h2, h3, h4, h5, h6⟩
  · intro p e s m args below meth c s₁ B hml hP _
    have hh0 : s₁.heap = s.heap := by rw [B.state]; rfl
    have ht : ∀ x ∈ c.exceptionTable.toList, False := by
      obtain ⟨meth9, c9, h1, h2, -, -, -, -, h7, -⟩ := Cond.code_spec B.named (atoms_spec (ws := ws) B.pre _ (by rw [hw]; exact List.mem_cons_self))
      cases Option.some.inj (h1.symm.trans B.method)
      cases Option.some.inj (h2.symm.trans (Stand.of_body B).code)
      intro x hx
      rw [Array.isEmpty_iff.mp h7] at hx
      cases hx
    obtain ⟨t, a1, o, b1, b2, b3⟩ := body p e s m args below meth c s₁ B hml ht hP s₁ hh0 (Stand.of_body B)
    exact ⟨t, o, a1, b1, b2, b3⟩
/-- the table of a body with handlers -/
theorem vx_table {p : Program} {x y : MethodName} {S : Spec} {cc bytes : ByteArray} {maxL maxL' : Nat} {ret ret' : Option FieldType} {e : Env} {s s₁ : State} {m : MethodId} {args : Array Value} {below : List Frame} {meth : Method} {c : Code} {hh : List (Nat × Nat × Nat × Nat)}
    (B : BodyLoose p l y S cc maxL ret e s m args below meth c s₁) (h : (Cond.codeWith y bytes maxL' ret' hh).before args s = true) : c.exceptionTable.toList = tableOf hh := by
  obtain ⟨m9, meth9, c9, hn9, h1, h2, -, -, h6, -⟩ := Cond.codeWith_spec h
  cases Option.some.inj (hn9.symm.trans B.named)
  cases Option.some.inj (h1.symm.trans B.method)
  cases Option.some.inj (h2.symm.trans (Stand.of_body B).code)
  rw [← h6, table_eq]
end Bodies
end VXA
/-! ===== END ===== -/
/-! ===== BEGIN a static call of a method with an exception table ===== -/
section VXS
variable {p : Program} {l : Launch} {e : Env} {R : Room} {s : State} {m : MethodId} {args : Array Value} {below : List Frame} {meth : Method} {c : Code} {T : State} {H : Heap} {locs : List Loc} {cells slots : Nat}
abbrev vx_CSW (R : Room) (s : State) (args : Array Value) (own : String) (index : Nat) (y : MethodName) (bytes : ByteArray) (maxL : Nat) (ret : Option FieldType) (hh : List (Nat × Nat × Nat × Nat)) (ws : List Cond) (rm : Room) (mc ms n : Nat) : Prop :=
  (rm.cells = mc ∧ rm.slots = ms ∧ rm.frames + 1 ≤ R.frames ∧ 8 + (maxL + 11) + rm.locals ≤ R.locals ∧ (∀ w ∈ ws, ∀ (a' : Array Value) (U : State), s.WarmedH U.vm → w.before a' U = true) ∧ Cond.codeWith y bytes maxL ret hh ∈ ws) ∧
  (Cond.codeWith y bytes maxL ret hh).before args s = true ∧ (Cond.initialized y.cls).before args s = true ∧ (y.cls ≠ "java/lang/invoke/MethodHandle" ∧ y.cls ≠ "java/lang/invoke/VarHandle") ∧
  (∀ sig, parseMethodDescriptor y.desc = some sig → n = sig.parameters.length) ∧ (Cond.methodLink own index y).before args s = true ∧ (Cond.static y).before args s = true
theorem vx_cwSW {own : String} {index maxL mc ms : Nat} {y : MethodName} {bytes : ByteArray} {ret : Option FieldType} {hh : List (Nat × Nat × Nat × Nat)} {Ts ws ws' : List Cond} {rm : Room} (n : Nat) (ht : ∀ w ∈ Ts, w.before args s = true) (hT : GoodIn Ts (va_wsS own index y ws)) (hw : ws = Cond.codeWith y bytes maxL ret hh :: ws') (hrc : rm.cells = mc) (hrs : rm.slots = ms)
    (hd : y.cls ≠ "java/lang/invoke/MethodHandle" ∧ y.cls ≠ "java/lang/invoke/VarHandle" ∧ (parseMethodDescriptor y.desc).map (fun d => d.parameters.length) = some n) (hR : rm.frames + 1 ≤ R.frames ∧ 8 + (maxL + 11) + rm.locals ≤ R.locals) :
    vx_CSW R s args own index y bytes maxL ret hh ws rm mc ms n := by
  have ok : ∀ w ∈ va_wsS own index y ws, w.before args s = true := fun w h => ht w (hT w h).1
  have hG : GoodIn Ts ws := fun w h => hT w (by unfold va_wsS; exact List.mem_append_right _ h)
  have hc : Cond.codeWith y bytes maxL ret hh ∈ ws := by rw [hw]; exact List.mem_cons_self
  refine ⟨⟨hrc, hrs, hR.1, hR.2, pay_in ht hG, hc⟩, ht _ (hG _ hc).1, ok _ (by simp [va_wsS]), ⟨hd.1, hd.2.1⟩, fun sig h => ?_, ok _ (by simp [va_wsS]), ok _ (by simp [va_wsS])⟩
  have h2 := hd.2.2
  rw [h] at h2
  exact (Option.some.inj h2).symm
theorem vx_callSW (X : Stand p l e R s m args below meth c T locs cells slots) (hexec : p.tables.exec = Jvm.exec) {own : String} {index : Nat} {y : MethodName} {bytes : ByteArray} {maxL : Nat} {ret : Option FieldType} {hh : List (Nat × Nat × Nat × Nat)}
    (hown : s.vm.findClass own = some m.cls) (hlink : (Cond.methodLink own index y).before args s = true) (hstat : (Cond.static y).before args s = true) (hinit : (Cond.initialized y.cls).before args s = true)
    (hcode : (Cond.codeWith y bytes maxL ret hh).before args s = true) (hy : y.cls ≠ "java/lang/invoke/MethodHandle" ∧ y.cls ≠ "java/lang/invoke/VarHandle")
    {W9 : Nat} {Pre : Pt → Array Value → Prop} {Post : Pt → Array Value → Option Value → Pt → Prop} (hK : Back l R p e below s args y 3 W9 Pre Post)
    {g : JFrame} (hg : g.method = m) (hsize : g.locals.size = c.maxLocals) {argsL rest : List Value} (hlen : ∀ sig, parseMethodDescriptor y.desc = some sig → argsL.length = sig.parameters.length)
    (hstack : g.stack = argsL.reverse ++ rest) (hW : 2 * g.monitorRoom + (rest.map fun v => v.category).sum ≤ W9) (hdg : decode c.code g.pc = .ok (.invokestatic index, 3))
    (hpre : ∀ vm₁, s.WarmedH vm₁ → Pre ⟨T.setVm vm₁, locs, cells, slots⟩ argsL.toArray) :
    ∃ (v : Option Value) (vm₁ : Vm) (B : Pt), s.WarmedH vm₁ ∧ Stand p l e R s m args below meth c B.U B.locs B.cells B.slots ∧ Post ⟨T.setVm vm₁, locs, cells, slots⟩ argsL.toArray v B ∧
      ∀ target, Steps p.tables e below (B.U.setTop { g with pc := g.pc + 3, stack := v.toList ++ rest }) target → Steps p.tables e below (T.setTop g) target := by
  obtain ⟨mk, methM, cM, hnamed, hmethM, -, -, -, -, -, -, hsigM⟩ := Cond.codeWith_spec hcode
  have hstatic : methM.isStatic = true := Cond.static_spec hnamed hmethM hstat
  obtain ⟨kP, hkP, -⟩ := className_of_methodNamed hnamed
  have hinitP : kP.init = .initialized := Cond.initialized_spec (findClass_of_methodNamed hnamed) hkP hinit
  obtain ⟨vm₁, X₁, hstep₁⟩ := X.invokestatic hexec hown hlink hnamed hmethM hstatic hkP hinitP hy (g := g) hg (argsL := argsL) (rest := rest) (hlen _ hsigM) hstack hdg
  obtain ⟨v, B, X', hpost, hsteps⟩ := hK m meth c ⟨T.setVm vm₁, locs, cells, slots⟩ { g with stack := rest } (.invokestatic index) mk argsL.toArray X₁ hg hsize hdg hW (X₁.named hnamed) (hpre vm₁ X₁.warmed)
  exact ⟨v, vm₁, B, X₁.warmed, X', hpost, fun target h => hstep₁ _ fun acts => by rw [doInvoke_state]; exact hsteps.trans h⟩
theorem vx_runSW {y : MethodName} {bytes cc : ByteArray} {maxL nL mc ms n index : Nat} {ret : Option FieldType} {hh : List (Nat × Nat × Nat × Nat)} {ws : List Cond} {rm : Room} {Pc : Array Value → State → Prop} {Qc : Array Value → State → Outcome → State → Prop} {free : Addr → Prop} {Ts : List Cond} {own : String} {As rest : List Value} {g : JFrame}
    (S : CallFix p m c cc nL s args Ts own) (hM : Met l y ws rm Pc Qc mc ms free) (cw : vx_CSW R s args own index y bytes maxL ret hh ws rm mc ms n) (hp : PreS s H Pc As)
    (hg : g.method = m) (hn : As.length = n) (hsize : g.locals.size = nL) (hstack : g.stack = As.reverse ++ rest) (hW : 2 * g.monitorRoom + (rest.map fun v => v.category).sum ≤ 8) (hdg : decode cc g.pc = .ok (.invokestatic index, 3)) (hf : cells + mc ≤ R.cells ∧ slots + ms ≤ R.slots) :
    va_Run p l e R s m args below meth c H locs cells slots mc ms g rest (Qc As.toArray) (free) := by
  obtain ⟨⟨hrc, hrs, hfr, hlo, hws, hcw⟩, hcode, hini, hy, hlen, hl, hstt⟩ := cw
  have hK : Back l R p e below s args y 3 8 (PreOf R mc ms Pc) (PostOf Qc mc ms free) := va_backW (hh := hh) (bytes := bytes) (maxL := maxL) (ret := ret) hM hp.1 hrc hrs hfr hlo hws hcw (fun a' U hW => word_at hW (Or.inl (by first | rfl | simp [Cond.onTables, Cond.keeps, Cond.steady])) hini)
  obtain ⟨hx, hb, hml, ho, -⟩ := S
  intro T hT X
  obtain ⟨v, vm₁, ⟨U', l2, c2, s2⟩, hW₁, X', ⟨g', mk, t, L, e1, e2, hq, h1, hL, h2, h3⟩, st⟩ := vx_callSW X hx (hh := hh) (bytes := bytes) (maxL := maxL) (ret := ret) ho hl hstt hini hcode hy hK hg (hsize.trans hml.symm) (argsL := As) (rest := rest) (fun sig h => hn.trans (hlen sig h)) hstack hW (by rw [hb]; exact hdg)
    (fun vm₁ hW₁ => ⟨hf.1, hf.2, hp.2 (T.setVm vm₁) hT hW₁⟩)
  dsimp only [Pt.U, Pt.locs, Pt.cells, Pt.slots] at X' e1 e2 h1 h2 h3 st
  subst h1; subst h2; subst h3
  exact ⟨v, (T.setVm vm₁).calling g' mk As.toArray, t, U', L, hT, X', hL, e1, e2, hq, st⟩
/-- not caught here, past rows that name other classes: it goes on to the caller -/
theorem vx_outP {p : Program} {l : Launch} {e : Env} {R : Room} {s : State} {m : MethodId} {args : Array Value} {below : List Frame} {meth : Method} {c : Code} {H : Heap} {locs : List Loc} {cells slots : Nat} {free : Addr → Prop} {ls : Array Slot} {rest : List Value} {Qc : Array Value → State → Outcome → State → Prop} {XC : String → State → State → Prop}
    {pc : Nat} {own E : String} {ce : Cell} {q : Addr} {mc ms : Nat} (hown : s.vm.findClass own = some m.cls) (hlocks : meth.locks = false)
    (hpass : ∀ z ∈ c.exceptionTable.toList, covers z pc = false ∨ (z.catchType ≠ 0 ∧ ∃ nm : String, (Cond.classLink own z.catchType nm).before args s = true ∧ va_Nc E nm s)) (hcell : H[q]? = some ce) (hv : ce.vm = .none) (hcl : s.vm.findClass E = some ce.cls)
    (hx : ∀ t : State, t.heap = H → s.vm.Alike t.vm → XC E s t) (hf : ∀ z ∈ locs, free z.base) (hc : cells ≤ mc) (hs : slots ≤ ms) :
    vx_W p l e R s m args below meth c H locs cells slots (vx_MQ below Qc XC args s mc ms free) (F0 m pc ls rest) q := by
  intro T hT X
  have hpl : e.platform.magicAccessors = ({} : Platform).magicAccessors := by rw [X.admits.platform]
  obtain ⟨vm', hW', X', st⟩ := X.outThrough hlocks q (g := F0 m pc ls rest) rfl rfl rfl (cell := ce) (by rw [hT]; exact hcell) (by rw [hv]; rfl)
    (by obtain ⟨k9, h9, -⟩ := Vm.findClass_spec hcl; exact ⟨k9, h9⟩) (fun z hz => by
      rcases hpass z hz with h | ⟨hz0, nm, hl1, hn1⟩
      · exact Or.inl h
      · obtain ⟨c6, hc6, hcl6⟩ := Cond.classLink_spec hown hl1 e.platform hpl
        obtain ⟨a8, b8, h1, h2, h3⟩ := hn1
        cases Option.some.inj (h1.symm.trans hcl)
        cases Option.some.inj (h2.symm.trans hc6)
        exact Or.inr ⟨hz0, _, hcl6, h3⟩)
  obtain ⟨g₀, hfr⟩ := X'.frames_eq
  have hcell9 : ((T.setVm vm').setFrames (.throwing q :: below)).heap[q]? = some ce := by
    show T.heap[q]? = some ce
    rw [hT]; exact hcell
  have hend : Ended ((T.setVm vm').setFrames (.throwing q :: below)) below (.threw q) := State.frames_setFrames _ (State.cur_lt_of_frames hfr)
  refine ⟨(T.setVm vm').setFrames (.throwing q :: below), ?_, .threw q, X'.here.running, hend, Or.inr ⟨q, rfl, E, ce, locs, hx _ hT (X'.ends _).1.alike, hcell9, hv, hcl, (X'.ends _).1, (X'.ends _).2.mono hc hs, hf⟩⟩
  rw [X.pushThrowing_eq]
  exact st
/-- a thing of a world lies in the heap -/
theorem vx_lt {D : va_G} {cl : List vw_C} {ws : va_W} {H1 : Heap} (h : va_P D cl ws H1) {k : Nat} {q : Nat × va_E} (hk : ws[k]? = some q) : q.1 < H1.size := (h k q hk).lt
end VXS
/-! ===== END ===== -/
/-! ===== BEGIN methods with a table of their own: called by a name, returning or throwing ===== -/
section VXH
/-! vx_backW, vx_callVX, vx_callSX, vx_callVW, vx_runVW, vx_runVX, vx_runSX, vx_ofWH follow the same proofs as their sisters above (Free/Laws.lean, Shelf42/LK1.lean); vx_outP calls Shelf42/NT130.lean (outThrough). -/
section
variable {l : Launch} {R : Room} {p : Program} {e : Env} {below : List Frame} {s : State} {sargs : Array Value} {y : MethodName} {len W9 : Nat}
theorem vx_backW {ws : List Cond} {rm : Room} {Pc : Array Value → State → Prop} {Qc : Array Value → State → Outcome → State → Prop} {XC : String → State → State → Prop} {mc ms : Nat} {free : Addr → Prop} {bytes : ByteArray} {maxL : Nat} {ret : Option FieldType} {hh : List (Nat × Nat × Nat × Nat)}
    (hM : vx_Met l y ws rm Pc Qc XC mc ms free) (hblind : FrameBlind Pc) (hrc : rm.cells = mc) (hrs : rm.slots = ms)
    (hframes : rm.frames + 1 ≤ R.frames) (hlocals : W9 + (maxL + 11) + rm.locals ≤ R.locals)
    (hws : ∀ w ∈ ws, ∀ a' U, s.WarmedH U.vm → w.before a' U = true) (hcode : Cond.codeWith y bytes maxL ret hh ∈ ws) (hinit : ∀ a' U, s.WarmedH U.vm → (Cond.initialized y.cls).before a' U = true) :
    vx_Back l R p e below s sargs y len W9 (PreOf R mc ms Pc) (PostOf Qc mc ms free) (vx_Post XC mc ms free) := by
  intro m meth c A g ig mk a X hg hsize hdg hW hn hp
  have h1 : (headSpec ws rm).pre.before a A.U = true := atoms_intro fun w hw => hws w hw _ _ X.warmed
  have h2 : (Cond.codeWith y bytes maxL ret hh).before a A.U = true := hws _ hcode _ _ X.warmed
  have h3 : (Cond.initialized y.cls).before a A.U = true := hinit _ _ X.warmed
  have h4 : A.cells + (headSpec ws rm).room.cells ≤ R.cells := by rw [show (headSpec ws rm).room.cells = mc from hrc]; exact hp.1
  have h5 : A.slots + (headSpec ws rm).room.slots ≤ R.slots := by rw [show (headSpec ws rm).room.slots = ms from hrs]; exact hp.2.1
  have hPc : Pc a (A.U.calling g mk a) := hblind _ _ _ _ hp.2.2
  obtain ⟨U, Ls, c0, s0⟩ := A
  dsimp only [Pt.U, Pt.locs, Pt.cells, Pt.slots] at h1 h2 h3 h4 h5 X hn hPc ⊢
  obtain ⟨m9, methY, cY, hn9, hmY, hcY, -, hlY, -⟩ := Cond.codeWith_spec h2
  cases Option.some.inj (hn9.symm.trans hn)
  obtain ⟨kY, hkY, -⟩ := className_of_methodNamed hn
  have hinitY : kY.init = .initialized := Cond.initialized_spec (findClass_of_methodNamed hn) hkY h3
  have h : At U g.method c below := by rw [hg]; exact X.here
  have hlocals9 : W9 + (maxL + 11) + (headSpec ws rm).room.locals ≤ R.locals := hlocals
  have happ : (headSpec ws rm).appliesLoose y e.platform (U.calling g mk a) = true :=
    Spec.appliesLoose_calling (g := g) h hdg hn hkY hinitY
      (X.room_calling (g := g) (R' := (headSpec ws rm).room) hsize hmY hcY hframes (by rw [hlY]; omega) h4 h5) h1
  obtain ⟨mid, hmid⟩ := h.above
  have hfr : (U.setTop g).frames = (.java g :: mid) ++ below := by rw [State.frames_setTop' g h.top, hmid]; rfl
  obtain ⟨o, s₂, hsteps, -, hend, hq⟩ := Steps.callFree hM p X.admits X.cas X.clock (acts := []) hfr happ hPc trivial
  have hq' : vx_Q Qc XC mc ms free a (U.calling g mk a) o s₂ := hq
  rw [State.frames_setTop' g h.top] at hend
  obtain ⟨g₀, hg0⟩ := Option.isSome_iff_exists.mp h.top
  obtain ⟨r, hr⟩ := State.topJava?_eq_some.mp hg0
  have hr' : (({ U with heap := s₂.heap, slotsUsed := s₂.slotsUsed } : State).setVm s₂.vm).frames = .java g₀ :: r := hr
  rcases hq' with ⟨hqc, L, hfe, hL⟩ | ⟨q, rfl, E, ce, L, hx, hce, hcv, hcl, hW₂, hsm, hL⟩
  · obtain ⟨⟨v, rfl⟩, hW₂, e2, q2, q3, q4, q5, q6⟩ := id hfe
    have e3 : s₂ = ({ (U.calling g mk a).setFrames s₂.frames with heap := s₂.heap, slotsUsed := s₂.slotsUsed } : State).setVm s₂.vm := by
      have : s₂ = ({ s₂ with vm := (U.calling g mk a).vm } : State).setVm s₂.vm := rfl
      rw [e2] at this
      exact this
    obtain ⟨c₂, i₂, len₂, hc₂, hd₂, hf₂⟩ := hend
    have hW' : U.WarmedH s₂.vm := hW₂
    have hcc : c₂ = c := by
      have h1 : s₂.code? g.method = U.code? g.method := by
        rw [State.code?_eq, State.code?_eq, hW'.alike.method?]
      exact Option.some.inj (hc₂.symm.trans (h1.trans h.code))
    subst hcc
    have hlen : len₂ = len := by rw [hdg] at hd₂; cases hd₂; rfl
    subst hlen
    have hs₂ : s₂ = (({ U with heap := s₂.heap, slotsUsed := s₂.slotsUsed } : State).setVm s₂.vm).setTop { g with pc := g.pc + len₂, stack := v.toList ++ g.stack } := by
      refine e3.trans ?_
      rw [hf₂, State.calling_eq h.top, State.setFrames_setFrames, State.setTop_of_frames _ hr', hr]
      rfl
    have hsame : U.sameButNew ({ U with heap := s₂.heap, slotsUsed := s₂.slotsUsed } : State) L mc ms := by
      refine ⟨?_, q2, q3, q4, q5, q6⟩
      obtain ⟨t, ht, -⟩ := State.frames_cons hr
      show ({ U with heap := s₂.heap, slotsUsed := s₂.slotsUsed } : State) = { U.setFrames U.frames with heap := s₂.heap, slotsUsed := s₂.slotsUsed }
      rw [State.setFrames_self ht]
    subst hg
    refine Or.inl ⟨v, ⟨(({ U with heap := s₂.heap, slotsUsed := s₂.slotsUsed } : State).setVm s₂.vm), Ls ++ L, c0 + mc, s0 + ms⟩,
      ⟨X.admits, X.cas, X.clock, X.frames, X.room, X.hears, X.method, X.code, (X.here.setHeapUsed s₂.heap s₂.slotsUsed).setVm hW'.alike, X.tail, State.WarmedH.trans X.warmed hW', X.limits, X.bytes, X.same.trans (hsame.setVm s.vm)⟩,
      ⟨g, mk, s₂, L, rfl, rfl, hqc, rfl, hL, rfl, rfl⟩, ?_⟩
    show Steps p.tables e below _ ((({ U with heap := s₂.heap, slotsUsed := s₂.slotsUsed } : State).setVm s₂.vm).setTop { g with pc := g.pc + len₂, stack := v.toList ++ g.stack })
    rw [← hs₂]
    exact hsteps
  · obtain ⟨e2, q2, q3, q4, q5, q6⟩ := id hsm
    have e3 : s₂ = ({ (U.calling g mk a).setFrames s₂.frames with heap := s₂.heap, slotsUsed := s₂.slotsUsed } : State).setVm s₂.vm := by
      have : s₂ = ({ s₂ with vm := (U.calling g mk a).vm } : State).setVm s₂.vm := rfl
      rw [e2] at this
      exact this
    have hf₂ : s₂.frames = .throwing q :: .java g :: U.frames.tail := hend
    have hW' : U.WarmedH s₂.vm := hW₂
    have hs₂ : s₂ = ((({ U with heap := s₂.heap, slotsUsed := s₂.slotsUsed } : State).setVm s₂.vm).setTop g).pushFrame (.throwing q) := by
      refine e3.trans ?_
      rw [hf₂, State.calling_eq h.top, State.setFrames_setFrames, State.pushFrame, State.frames_setTop _ hr', State.setTop_of_frames _ hr', State.setFrames_setFrames, hr]
      rfl
    have hsame : U.sameButNew ({ U with heap := s₂.heap, slotsUsed := s₂.slotsUsed } : State) L mc ms := by
      refine ⟨?_, q2, q3, q4, q5, q6⟩
      obtain ⟨t, ht, -⟩ := State.frames_cons hr
      show ({ U with heap := s₂.heap, slotsUsed := s₂.slotsUsed } : State) = { U.setFrames U.frames with heap := s₂.heap, slotsUsed := s₂.slotsUsed }
      rw [State.setFrames_self ht]
    subst hg
    refine Or.inr ⟨q, ⟨(({ U with heap := s₂.heap, slotsUsed := s₂.slotsUsed } : State).setVm s₂.vm), Ls ++ L, c0 + mc, s0 + ms⟩,
      ⟨X.admits, X.cas, X.clock, X.frames, X.room, X.hears, X.method, X.code, (X.here.setHeapUsed s₂.heap s₂.slotsUsed).setVm hW'.alike, X.tail, State.WarmedH.trans X.warmed hW', X.limits, X.bytes, X.same.trans (hsame.setVm s.vm)⟩,
      ⟨g, mk, s₂, L, E, ce, rfl, rfl, hx, hce, hcv, hcl, rfl, hL, rfl, rfl⟩, ?_⟩
    show Steps p.tables e below _ (((({ U with heap := s₂.heap, slotsUsed := s₂.slotsUsed } : State).setVm s₂.vm).setTop g).pushFrame (.throwing q))
    rw [← hs₂]
    exact hsteps
end
variable {p : Program} {l : Launch} {e : Env} {R : Room} {s : State} {m : MethodId} {args : Array Value} {below : List Frame} {meth : Method} {c : Code} {T : State} {H : Heap} {locs : List Loc} {cells slots : Nat}
theorem vx_callVX (X : Stand p l e R s m args below meth c T locs cells slots) (hexec : p.tables.exec = Jvm.exec) {own C : String} {index : Nat} {y : MethodName} {bytes : ByteArray} {maxL : Nat} {ret : Option FieldType} {hh : List (Nat × Nat × Nat × Nat)}
    (hown : s.vm.findClass own = some m.cls) (hlink : (Cond.methodLink own index y).before args s = true) (hinst : (Cond.instanceMethod y).before args s = true) (hsel : (Cond.selects C y y).before args s = true)
    (hcode : (Cond.codeWith y bytes maxL ret hh).before args s = true) (hy : y.cls ≠ "java/lang/invoke/MethodHandle" ∧ y.cls ≠ "java/lang/invoke/VarHandle")
    {W9 : Nat} {Pre : Pt → Array Value → Prop} {Post : Pt → Array Value → Option Value → Pt → Prop} {PostX : Pt → Array Value → Addr → Pt → Prop} (hK : vx_Back l R p e below s args y 3 W9 Pre Post PostX)
    {b : Addr} {cellB : Cell} (hcell : T.heap[b]? = some cellB) (hobj : cellB.vm.isStatics = false) (hcls : s.vm.findClass C = some cellB.cls)
    {g : JFrame} (hg : g.method = m) (hsize : g.locals.size = c.maxLocals) {argsL rest : List Value} (hlen : ∀ sig, parseMethodDescriptor y.desc = some sig → argsL.length = sig.parameters.length)
    (hstack : g.stack = argsL.reverse ++ .ref b :: rest) (hW : 2 * g.monitorRoom + (rest.map fun v => v.category).sum ≤ W9) (hdg : decode c.code g.pc = .ok (.invokevirtual index, 3))
    (hpre : ∀ vm₁, s.WarmedH vm₁ → Pre ⟨T.setVm vm₁, locs, cells, slots⟩ (Value.ref b :: argsL).toArray) :
    (∃ (v : Option Value) (vm₁ : Vm) (B : Pt), s.WarmedH vm₁ ∧ Stand p l e R s m args below meth c B.U B.locs B.cells B.slots ∧ Post ⟨T.setVm vm₁, locs, cells, slots⟩ (Value.ref b :: argsL).toArray v B ∧
      ∀ target, Steps p.tables e below (B.U.setTop { g with pc := g.pc + 3, stack := v.toList ++ rest }) target → Steps p.tables e below (T.setTop g) target) ∨
    (∃ (q : Addr) (vm₁ : Vm) (B : Pt), s.WarmedH vm₁ ∧ Stand p l e R s m args below meth c B.U B.locs B.cells B.slots ∧ PostX ⟨T.setVm vm₁, locs, cells, slots⟩ (Value.ref b :: argsL).toArray q B ∧
      Steps p.tables e below (T.setTop g) ((B.U.setTop { g with stack := rest }).pushFrame (.throwing q))) := by
  obtain ⟨mk, methM, hnamed, hmethM, hstM, habM⟩ := Cond.instanceMethod_spec hinst
  obtain ⟨m8, methM', cM, hn8, hmethM', -, -, -, -, -, -, hsigM⟩ := Cond.codeWith_spec hcode
  cases Option.some.inj (hn8.symm.trans hnamed)
  cases hmethM.symm.trans hmethM'
  obtain ⟨c2, r2, m2, q1, q2, q3, q4, kP, hkP, hkPi⟩ := Cond.selects_spec hsel
  cases hcls.symm.trans q1
  cases (State.methodFound?_of_named hnamed hy).symm.trans q2
  cases hnamed.symm.trans q3
  have hselP : selectMethod e.platform s.vm cellB.cls mk = .method mk := by rw [Launch.admits_selectMethod X.admits]; exact q4
  obtain ⟨vm₁, X₁, hstep₁⟩ := X.invokevirtual hexec hown hlink hnamed hmethM hstM hkP hkPi hy (a := b) (cell := cellB) hcell
    (fun z h => by rw [h] at hobj; cases hobj) hselP hmethM habM hkP hkPi (g := g) hg (argsL := argsL) (rest := rest) (hlen _ hsigM) hstack hdg
  rcases hK m meth c ⟨T.setVm vm₁, locs, cells, slots⟩ { g with stack := rest } (.invokevirtual index) mk (Value.ref b :: argsL).toArray X₁ hg hsize hdg hW (X₁.named hnamed) (hpre vm₁ X₁.warmed) with ⟨v, B, X', hpost, hsteps⟩ | ⟨q, B, X', hpost, hsteps⟩
  · exact Or.inl ⟨v, vm₁, B, X₁.warmed, X', hpost, fun target h => hstep₁ _ fun acts => by rw [doInvoke_state]; exact hsteps.trans h⟩
  · exact Or.inr ⟨q, vm₁, B, X₁.warmed, X', hpost, hstep₁ _ fun acts => by rw [doInvoke_state]; exact hsteps⟩
theorem vx_callSX (X : Stand p l e R s m args below meth c T locs cells slots) (hexec : p.tables.exec = Jvm.exec) {own : String} {index : Nat} {y : MethodName} {bytes : ByteArray} {maxL : Nat} {ret : Option FieldType} {hh : List (Nat × Nat × Nat × Nat)}
    (hown : s.vm.findClass own = some m.cls) (hlink : (Cond.methodLink own index y).before args s = true) (hstat : (Cond.static y).before args s = true) (hinit : (Cond.initialized y.cls).before args s = true)
    (hcode : (Cond.codeWith y bytes maxL ret hh).before args s = true) (hy : y.cls ≠ "java/lang/invoke/MethodHandle" ∧ y.cls ≠ "java/lang/invoke/VarHandle")
    {W9 : Nat} {Pre : Pt → Array Value → Prop} {Post : Pt → Array Value → Option Value → Pt → Prop} {PostX : Pt → Array Value → Addr → Pt → Prop} (hK : vx_Back l R p e below s args y 3 W9 Pre Post PostX)
    {g : JFrame} (hg : g.method = m) (hsize : g.locals.size = c.maxLocals) {argsL rest : List Value} (hlen : ∀ sig, parseMethodDescriptor y.desc = some sig → argsL.length = sig.parameters.length)
    (hstack : g.stack = argsL.reverse ++ rest) (hW : 2 * g.monitorRoom + (rest.map fun v => v.category).sum ≤ W9) (hdg : decode c.code g.pc = .ok (.invokestatic index, 3))
    (hpre : ∀ vm₁, s.WarmedH vm₁ → Pre ⟨T.setVm vm₁, locs, cells, slots⟩ argsL.toArray) :
    (∃ (v : Option Value) (vm₁ : Vm) (B : Pt), s.WarmedH vm₁ ∧ Stand p l e R s m args below meth c B.U B.locs B.cells B.slots ∧ Post ⟨T.setVm vm₁, locs, cells, slots⟩ argsL.toArray v B ∧
      ∀ target, Steps p.tables e below (B.U.setTop { g with pc := g.pc + 3, stack := v.toList ++ rest }) target → Steps p.tables e below (T.setTop g) target) ∨
    (∃ (q : Addr) (vm₁ : Vm) (B : Pt), s.WarmedH vm₁ ∧ Stand p l e R s m args below meth c B.U B.locs B.cells B.slots ∧ PostX ⟨T.setVm vm₁, locs, cells, slots⟩ argsL.toArray q B ∧
      Steps p.tables e below (T.setTop g) ((B.U.setTop { g with stack := rest }).pushFrame (.throwing q))) := by
  obtain ⟨mk, methM, cM, hnamed, hmethM, -, -, -, -, -, -, hsigM⟩ := Cond.codeWith_spec hcode
  have hstatic : methM.isStatic = true := Cond.static_spec hnamed hmethM hstat
  obtain ⟨kP, hkP, -⟩ := className_of_methodNamed hnamed
  have hinitP : kP.init = .initialized := Cond.initialized_spec (findClass_of_methodNamed hnamed) hkP hinit
  obtain ⟨vm₁, X₁, hstep₁⟩ := X.invokestatic hexec hown hlink hnamed hmethM hstatic hkP hinitP hy (g := g) hg (argsL := argsL) (rest := rest) (hlen _ hsigM) hstack hdg
  rcases hK m meth c ⟨T.setVm vm₁, locs, cells, slots⟩ { g with stack := rest } (.invokestatic index) mk argsL.toArray X₁ hg hsize hdg hW (X₁.named hnamed) (hpre vm₁ X₁.warmed) with ⟨v, B, X', hpost, hsteps⟩ | ⟨q, B, X', hpost, hsteps⟩
  · exact Or.inl ⟨v, vm₁, B, X₁.warmed, X', hpost, fun target h => hstep₁ _ fun acts => by rw [doInvoke_state]; exact hsteps.trans h⟩
  · exact Or.inr ⟨q, vm₁, B, X₁.warmed, X', hpost, hstep₁ _ fun acts => by rw [doInvoke_state]; exact hsteps⟩
theorem vx_callVW (X : Stand p l e R s m args below meth c T locs cells slots) (hexec : p.tables.exec = Jvm.exec) {own C : String} {index : Nat} {y : MethodName} {bytes : ByteArray} {maxL : Nat} {ret : Option FieldType} {hh : List (Nat × Nat × Nat × Nat)}
    (hown : s.vm.findClass own = some m.cls) (hlink : (Cond.methodLink own index y).before args s = true) (hinst : (Cond.instanceMethod y).before args s = true) (hsel : (Cond.selects C y y).before args s = true)
    (hcode : (Cond.codeWith y bytes maxL ret hh).before args s = true) (hy : y.cls ≠ "java/lang/invoke/MethodHandle" ∧ y.cls ≠ "java/lang/invoke/VarHandle")
    {W9 : Nat} {Pre : Pt → Array Value → Prop} {Post : Pt → Array Value → Option Value → Pt → Prop} (hK : Back l R p e below s args y 3 W9 Pre Post)
    {b : Addr} {cellB : Cell} (hcell : T.heap[b]? = some cellB) (hobj : cellB.vm.isStatics = false) (hcls : s.vm.findClass C = some cellB.cls)
    {g : JFrame} (hg : g.method = m) (hsize : g.locals.size = c.maxLocals) {argsL rest : List Value} (hlen : ∀ sig, parseMethodDescriptor y.desc = some sig → argsL.length = sig.parameters.length)
    (hstack : g.stack = argsL.reverse ++ .ref b :: rest) (hW : 2 * g.monitorRoom + (rest.map fun v => v.category).sum ≤ W9) (hdg : decode c.code g.pc = .ok (.invokevirtual index, 3))
    (hpre : ∀ vm₁, s.WarmedH vm₁ → Pre ⟨T.setVm vm₁, locs, cells, slots⟩ (Value.ref b :: argsL).toArray) :
    ∃ (v : Option Value) (vm₁ : Vm) (B : Pt), s.WarmedH vm₁ ∧ Stand p l e R s m args below meth c B.U B.locs B.cells B.slots ∧ Post ⟨T.setVm vm₁, locs, cells, slots⟩ (Value.ref b :: argsL).toArray v B ∧
      ∀ target, Steps p.tables e below (B.U.setTop { g with pc := g.pc + 3, stack := v.toList ++ rest }) target → Steps p.tables e below (T.setTop g) target := by
  obtain ⟨mk, methM, hnamed, hmethM, hstM, habM⟩ := Cond.instanceMethod_spec hinst
  obtain ⟨m8, methM', cM, hn8, hmethM', -, -, -, -, -, -, hsigM⟩ := Cond.codeWith_spec hcode
  cases Option.some.inj (hn8.symm.trans hnamed)
  cases hmethM.symm.trans hmethM'
  obtain ⟨c2, r2, m2, q1, q2, q3, q4, kP, hkP, hkPi⟩ := Cond.selects_spec hsel
  cases hcls.symm.trans q1
  cases (State.methodFound?_of_named hnamed hy).symm.trans q2
  cases hnamed.symm.trans q3
  have hselP : selectMethod e.platform s.vm cellB.cls mk = .method mk := by rw [Launch.admits_selectMethod X.admits]; exact q4
  obtain ⟨vm₁, X₁, hstep₁⟩ := X.invokevirtual hexec hown hlink hnamed hmethM hstM hkP hkPi hy (a := b) (cell := cellB) hcell
    (fun z h => by rw [h] at hobj; cases hobj) hselP hmethM habM hkP hkPi (g := g) hg (argsL := argsL) (rest := rest) (hlen _ hsigM) hstack hdg
  obtain ⟨v, B, X', hpost, hsteps⟩ := hK m meth c ⟨T.setVm vm₁, locs, cells, slots⟩ { g with stack := rest } (.invokevirtual index) mk (Value.ref b :: argsL).toArray X₁ hg hsize hdg hW (X₁.named hnamed) (hpre vm₁ X₁.warmed)
  exact ⟨v, vm₁, B, X₁.warmed, X', hpost, fun target h => hstep₁ _ fun acts => by rw [doInvoke_state]; exact hsteps.trans h⟩
abbrev vx_CVW (R : Room) (s : State) (args : Array Value) (own C : String) (index : Nat) (y : MethodName) (bytes : ByteArray) (maxL : Nat) (ret : Option FieldType) (hh : List (Nat × Nat × Nat × Nat)) (ws : List Cond) (rm : Room) (mc ms n : Nat) : Prop :=
  (rm.cells = mc ∧ rm.slots = ms ∧ rm.frames + 1 ≤ R.frames ∧ 8 + (maxL + 11) + rm.locals ≤ R.locals ∧ (∀ w ∈ ws, ∀ (a' : Array Value) (U : State), s.WarmedH U.vm → w.before a' U = true) ∧ Cond.codeWith y bytes maxL ret hh ∈ ws) ∧
  (Cond.codeWith y bytes maxL ret hh).before args s = true ∧ (Cond.initialized y.cls).before args s = true ∧ (y.cls ≠ "java/lang/invoke/MethodHandle" ∧ y.cls ≠ "java/lang/invoke/VarHandle") ∧
  (∀ sig, parseMethodDescriptor y.desc = some sig → n = sig.parameters.length) ∧ (Cond.methodLink own index y).before args s = true ∧ (Cond.instanceMethod y).before args s = true ∧ (Cond.selects C y y).before args s = true
theorem vx_cwVW {own C : String} {index maxL mc ms : Nat} {y : MethodName} {bytes : ByteArray} {ret : Option FieldType} {hh : List (Nat × Nat × Nat × Nat)} {Ts ws ws' : List Cond} {rm : Room} (n : Nat) (ht : ∀ w ∈ Ts, w.before args s = true) (hT : GoodIn Ts (wsV own index C y ws)) (hw : ws = Cond.codeWith y bytes maxL ret hh :: ws') (hrc : rm.cells = mc) (hrs : rm.slots = ms)
    (hd : y.cls = C ∧ y.cls ≠ "java/lang/invoke/MethodHandle" ∧ y.cls ≠ "java/lang/invoke/VarHandle" ∧ (parseMethodDescriptor y.desc).map (fun d => d.parameters.length) = some n) (hR : rm.frames + 1 ≤ R.frames ∧ 8 + (maxL + 11) + rm.locals ≤ R.locals) :
    vx_CVW R s args own C index y bytes maxL ret hh ws rm mc ms n := by
  obtain ⟨hC, hd⟩ := hd
  subst hC
  have ok : ∀ w ∈ wsV own index y.cls y ws, w.before args s = true := fun w h => ht w (hT w h).1
  have hG : GoodIn Ts ws := fun w h => hT w (by unfold wsV; exact List.mem_append_right _ h)
  have hc : Cond.codeWith y bytes maxL ret hh ∈ ws := by rw [hw]; exact List.mem_cons_self
  refine ⟨⟨hrc, hrs, hR.1, hR.2, pay_in ht hG, hc⟩, ht _ (hG _ hc).1, ok _ (by simp [wsV]), ⟨hd.1, hd.2.1⟩, fun sig h => ?_, ok _ (by simp [wsV]), ok _ (by simp [wsV]), ok _ (by simp [wsV])⟩
  have h2 := hd.2.2
  rw [h] at h2
  exact (Option.some.inj h2).symm
theorem vx_runVW {y : MethodName} {bytes cc : ByteArray} {maxL nL mc ms n index : Nat} {ret : Option FieldType} {hh : List (Nat × Nat × Nat × Nat)} {ws : List Cond} {rm : Room} {Pc : Array Value → State → Prop} {Qc : Array Value → State → Outcome → State → Prop} {free : Addr → Prop} {Ts : List Cond} {own C : String} {b : Addr} {As rest : List Value} {g : JFrame}
    (S : CallFix p m c cc nL s args Ts own) (hM : Met l y ws rm Pc Qc mc ms free) (cw : vx_CVW R s args own C index y bytes maxL ret hh ws rm mc ms n) (hp : PreV s H C b Pc As)
    (hg : g.method = m) (hn : As.length = n) (hsize : g.locals.size = nL) (hstack : g.stack = As.reverse ++ .ref b :: rest) (hW : 2 * g.monitorRoom + (rest.map fun v => v.category).sum ≤ 8) (hdg : decode cc g.pc = .ok (.invokevirtual index, 3)) (hf : cells + mc ≤ R.cells ∧ slots + ms ≤ R.slots) :
    va_Run p l e R s m args below meth c H locs cells slots mc ms g rest (Qc (Value.ref b :: As).toArray) free := by
  obtain ⟨⟨hrc, hrs, hfr, hlo, hws, hcw⟩, hcode, hini, hy, hlen, hl, hin, hse⟩ := cw
  have hK : Back l R p e below s args y 3 8 (PreOf R mc ms Pc) (PostOf Qc mc ms free) := va_backW (hh := hh) (bytes := bytes) (maxL := maxL) (ret := ret) hM hp.1 hrc hrs hfr hlo hws hcw (fun a' U hW => word_at hW (Or.inl (by first | rfl | simp [Cond.onTables, Cond.keeps, Cond.steady])) hini)
  obtain ⟨hx, hb, hml, ho, -⟩ := S
  obtain ⟨-, ⟨cellB, hcB, hoB, hclB⟩, hPc⟩ := hp
  intro T hT X
  obtain ⟨v, vm₁, ⟨U', l2, c2, s2⟩, hW₁, X', ⟨g', mk, t, L, e1, e2, hq, h1, hL, h2, h3⟩, st⟩ := vx_callVW X hx (C := C) (hh := hh) (bytes := bytes) (maxL := maxL) (ret := ret) ho hl hin hse hcode hy hK (by rw [hT]; exact hcB) hoB hclB hg (hsize.trans hml.symm) (argsL := As) (rest := rest) (fun sig h => hn.trans (hlen sig h)) hstack hW (by rw [hb]; exact hdg)
    (fun vm₁ hW₁ => ⟨hf.1, hf.2, hPc (T.setVm vm₁) hT hW₁⟩)
  dsimp only [Pt.U, Pt.locs, Pt.cells, Pt.slots] at X' e1 e2 h1 h2 h3 st
  subst h1; subst h2; subst h3
  exact ⟨v, (T.setVm vm₁).calling g' mk (Value.ref b :: As).toArray, t, U', L, hT, X', hL, e1, e2, hq, st⟩
section
variable {y : MethodName} {bytes cc : ByteArray} {maxL nL mc ms n index : Nat} {ret : Option FieldType} {ws : List Cond} {rm : Room} {Pc : Array Value → State → Prop} {Qc : Array Value → State → Outcome → State → Prop} {XC : String → State → State → Prop} {free : Addr → Prop} {Ts : List Cond} {own C : String} {b : Addr} {As rest : List Value} {g : JFrame}
theorem vx_runVX {hh : List (Nat × Nat × Nat × Nat)} (S : CallFix p m c cc nL s args Ts own) (hM : vx_Met l y ws rm Pc Qc XC mc ms free) (cw : vx_CVW R s args own C index y bytes maxL ret hh ws rm mc ms n) (hp : PreV s H C b Pc As)
    (hg : g.method = m) (hn : As.length = n) (hsize : g.locals.size = nL) (hstack : g.stack = As.reverse ++ .ref b :: rest) (hW : 2 * g.monitorRoom + (rest.map fun v => v.category).sum ≤ 8) (hdg : decode cc g.pc = .ok (.invokevirtual index, 3)) (hf : cells + mc ≤ R.cells ∧ slots + ms ≤ R.slots) :
    vx_Run p l e R s m args below meth c H locs cells slots mc ms g rest (Qc (Value.ref b :: As).toArray) XC free := by
  obtain ⟨⟨hrc, hrs, hfr, hlo, hws, hcw⟩, hcode, hini, hy, hlen, hl, hin, hse⟩ := cw
  have hK : vx_Back l R p e below s args y 3 8 (PreOf R mc ms Pc) (PostOf Qc mc ms free) (vx_Post XC mc ms free) := vx_backW (hh := hh) (bytes := bytes) (maxL := maxL) (ret := ret) hM hp.1 hrc hrs hfr hlo hws hcw (fun a' U hW => word_at hW (Or.inl (by first | rfl | simp [Cond.onTables, Cond.keeps, Cond.steady])) hini)
  obtain ⟨hx, hb, hml, ho, -⟩ := S
  obtain ⟨-, ⟨cellB, hcB, hoB, hclB⟩, hPc⟩ := hp
  intro T hT X
  rcases vx_callVX X hx (C := C) (hh := hh) (bytes := bytes) (maxL := maxL) (ret := ret) ho hl hin hse hcode hy hK (by rw [hT]; exact hcB) hoB hclB hg (hsize.trans hml.symm) (argsL := As) (rest := rest) (fun sig h => hn.trans (hlen sig h)) hstack hW (by rw [hb]; exact hdg)
    (fun vm₁ hW₁ => ⟨hf.1, hf.2, hPc (T.setVm vm₁) hT hW₁⟩) with ⟨v, vm₁, ⟨U', l2, c2, s2⟩, hW₁, X', ⟨g', mk, t, L, e1, e2, hq, h1, hL, h2, h3⟩, st⟩ | ⟨q, vm₁, ⟨U', l2, c2, s2⟩, hW₁, X', ⟨g', mk, t, L, E, ce, e1, e2, hq, hce, hcv, hcl, h1, hL, h2, h3⟩, st⟩
  · dsimp only [Pt.U, Pt.locs, Pt.cells, Pt.slots] at X' e1 e2 h1 h2 h3 st
    subst h1; subst h2; subst h3
    exact Or.inl ⟨v, (T.setVm vm₁).calling g' mk (Value.ref b :: As).toArray, t, U', L, hT, X', hL, e1, e2, hq, st⟩
  · dsimp only [Pt.U, Pt.locs, Pt.cells, Pt.slots] at X' e1 e2 h1 h2 h3 st hcl
    subst h1; subst h2; subst h3
    exact Or.inr ⟨q, (T.setVm vm₁).calling g' mk (Value.ref b :: As).toArray, t, U', L, E, ce, hT, X', hL, e1, e2, hq, hce, hcv, vx_cls hW₁ hcl, st⟩
theorem vx_runSX {hh : List (Nat × Nat × Nat × Nat)} (S : CallFix p m c cc nL s args Ts own) (hM : vx_Met l y ws rm Pc Qc XC mc ms free) (cw : vx_CSW R s args own index y bytes maxL ret hh ws rm mc ms n) (hp : PreS s H Pc As)
    (hg : g.method = m) (hn : As.length = n) (hsize : g.locals.size = nL) (hstack : g.stack = As.reverse ++ rest) (hW : 2 * g.monitorRoom + (rest.map fun v => v.category).sum ≤ 8) (hdg : decode cc g.pc = .ok (.invokestatic index, 3)) (hf : cells + mc ≤ R.cells ∧ slots + ms ≤ R.slots) :
    vx_Run p l e R s m args below meth c H locs cells slots mc ms g rest (Qc As.toArray) XC free := by
  obtain ⟨⟨hrc, hrs, hfr, hlo, hws, hcw⟩, hcode, hini, hy, hlen, hl, hstt⟩ := cw
  have hK : vx_Back l R p e below s args y 3 8 (PreOf R mc ms Pc) (PostOf Qc mc ms free) (vx_Post XC mc ms free) := vx_backW (hh := hh) (bytes := bytes) (maxL := maxL) (ret := ret) hM hp.1 hrc hrs hfr hlo hws hcw (fun a' U hW => word_at hW (Or.inl (by first | rfl | simp [Cond.onTables, Cond.keeps, Cond.steady])) hini)
  obtain ⟨hx, hb, hml, ho, -⟩ := S
  intro T hT X
  rcases vx_callSX X hx (hh := hh) (bytes := bytes) (maxL := maxL) (ret := ret) ho hl hstt hini hcode hy hK hg (hsize.trans hml.symm) (argsL := As) (rest := rest) (fun sig h => hn.trans (hlen sig h)) hstack hW (by rw [hb]; exact hdg)
    (fun vm₁ hW₁ => ⟨hf.1, hf.2, hp.2 (T.setVm vm₁) hT hW₁⟩) with ⟨v, vm₁, ⟨U', l2, c2, s2⟩, hW₁, X', ⟨g', mk, t, L, e1, e2, hq, h1, hL, h2, h3⟩, st⟩ | ⟨q, vm₁, ⟨U', l2, c2, s2⟩, hW₁, X', ⟨g', mk, t, L, E, ce, e1, e2, hq, hce, hcv, hcl, h1, hL, h2, h3⟩, st⟩
  · dsimp only [Pt.U, Pt.locs, Pt.cells, Pt.slots] at X' e1 e2 h1 h2 h3 st
    subst h1; subst h2; subst h3
    exact Or.inl ⟨v, (T.setVm vm₁).calling g' mk As.toArray, t, U', L, hT, X', hL, e1, e2, hq, st⟩
  · dsimp only [Pt.U, Pt.locs, Pt.cells, Pt.slots] at X' e1 e2 h1 h2 h3 st hcl
    subst h1; subst h2; subst h3
    exact Or.inr ⟨q, (T.setVm vm₁).calling g' mk As.toArray, t, U', L, E, ce, hT, X', hL, e1, e2, hq, hce, hcv, vx_cls hW₁ hcl, st⟩
end
end VXH
theorem vx_ofWH {l : Launch} {y : MethodName} {ws ws' : List Cond} {rm : Room} {Pc : Array Value → State → Prop} {Qc : Array Value → State → Outcome → State → Prop} {XC : String → State → State → Prop} {mc ms : Nat} {free : Addr → Prop} {cc : ByteArray} {maxL : Nat} {ret : Option FieldType} {hh : List (Nat × Nat × Nat × Nat)}
    (hy : plainName y.cls = true) (hw : ws = Cond.codeWith y cc maxL ret hh :: ws')
    (body : ∀ p e s m args below meth c s₁, BodyLoose p l y (headSpec ws rm) cc maxL ret e s m args below meth c s₁ → c.maxLocals = maxL → Pc args s →
      W p l e (headSpec ws rm).room s m args below meth c s.heap [] 0 0 (vx_MQ below Qc XC args s mc ms free) (entryFrame m args maxL)) : vx_Met l y ws rm Pc Qc XC mc ms free := by
  refine MetFree.of_bodyS (code := cc) (maxLocals := maxL) (ret := ret) hy ?_ ?_
  · intro args s m h hn
    obtain ⟨m9, meth, c, hn9, h1, h2, h3, h4, -, h5, h6, -⟩ := Cond.codeWith_spec (atoms_spec (ws := ws) h _ (by rw [hw]; exact List.mem_cons_self))
    cases hn.symm.trans hn9
    exact ⟨meth, c, h1, h2, h3, h4, h5, h6⟩
  · intro p e s m args below meth c s₁ B hml hP _
    have hh0 : s₁.heap = s.heap := by rw [B.state]; rfl
    obtain ⟨t, a1, o, b1, b2, b3⟩ := body p e s m args below meth c s₁ B hml hP s₁ hh0 (Stand.of_body B)
    exact ⟨t, o, a1, b1, b2, b3⟩
/-! ===== END ===== -/

/-! ===== BEGIN what the machine throws by itself, no traces kept ===== -/
section VXM
set_option maxHeartbeats 1000000 in
/-- the machine throws cls with the message text, no traces kept: from its note over the frame g to 'throwing' over the same frame (follows the proofs of Stand.vmThrowsMessage, Shelf/KitTracedVmS.lean, and Stand.throwsMessageColdBareV, StandMessageColdV.lean, without the step out of the frame) -/
theorem vx_vmAt {p : Program} {l : Launch} {e : Env} {R : Room} {s : State} {m₀ : MethodId} {args : Array Value} {below : List Frame} {meth : Method} {c : Code} {W : State} {locs : List Loc} {cells slots : Nat}
    (X : Stand p l e R s m₀ args below meth c W locs cells slots) (hexec : p.tables.exec = Jvm.exec) (htr : e.platform.stackTraces = false) {cls : String} {names : List String} {text : String}
    (hcls : Bundle.fit cls = true) (hnames : ∀ n ∈ names, Bundle.fit n = true) (hsoe : (cls == "java/lang/StackOverflowError") = false) (hoom : (cls == "java/lang/OutOfMemoryError") = false)
    (h : ∀ a ∈ Bundle.messageArmAtoms cls names, a.before args s = true)
    (hlocs : ∀ x ∈ locs, ∀ cell, s.heap[x.base]? = some cell → cell.vm.isStatics = false)
    (htext : (text == notModelled) = false) (hlimit : ¬ (stringBytes (stringToUtf16 text)).size > e.platform.arrayLengthLimit) (hheap : ¬ (stringBytes (stringToUtf16 text)).size * componentBytes .byte > e.platform.maxHeapBytes)
    {g : JFrame} (hg : g.method = m₀) (hsize : g.locals.size = c.maxLocals)
    (hRframes : names.length + 4 < R.frames) (hRlocals : 2 * g.monitorRoom + (g.stack.map fun v => v.category).sum + 10240 ≤ R.locals) (hshort : 13 * names.length + 55 ≤ 10240)
    (hRcells : cells + 3 ≤ R.cells) (hRslots : slots + ((stringBytes (stringToUtf16 text)).size + 4 + 6) ≤ R.slots) (hlocks : meth.locks = false) :
    ∃ (S : State) (q : Addr) (ce : Cell), (∀ target, Steps p.tables e below ((S.setTop g).pushFrame (.throwing q)) target → Steps p.tables e below ((W.setTop g).pushFrame (.throwNew cls (some text) none)) target) ∧
      Stand p l e R s m₀ args below meth c S locs (cells + 3) (slots + ((stringBytes (stringToUtf16 text)).size + 4 + 6)) ∧ S.heap[q]? = some ce ∧ s.vm.findClass cls = some ce.cls ∧ ce.vm = .none := by
  have howns : e.platform.frameOwnsMonitors = true := by rw [X.admits.platform]
  have hfin : e.platform.finalization = false := by rw [X.admits.platform]
  have hpl : e.platform.magicAccessors = ({} : Platform).magicAccessors := by rw [X.admits.platform]
  have a : ∀ x, x ∈ Bundle.messageArmAtoms cls names → x.holds args s none s [] = true := fun x hx => h x hx
  obtain ⟨T, Z0, L, -, Y⟩ := ThrowableC.of_atoms (args := args) howns hfin hpl (fun x hx => h x (by simp [Bundle.messageArmAtoms, hx]))
  obtain ⟨Z, M, LZ, LM, hnZ⟩ := Init0T.ofS_atoms (args := args) hpl L Y (fun x hx => h x (by simp [Bundle.messageArmAtoms, hx]))
  obtain ⟨P1, Ps, hlen, L1, hL, hP1m, hlink1, hlink⟩ := Bundle.chainS (args := args) hpl hnZ names cls hcls hnames (fun x hx => h x (by simp [Bundle.messageArmAtoms, hx]))
  obtain ⟨Zs, LZs, hn4, hfitv, hfitc⟩ := StringT.of_atoms (args := args) (fun x hx => h x (by simp [Bundle.messageArmAtoms, hx]))
  have hfound : s.vm.findClass cls = some P1.m.cls := findClass_of_methodNamed hP1m
  obtain ⟨c1, kX, hc1, hk, hord, -, -, hn6⟩ := Cond.instantiable_spec (a (.instantiable cls 6) (by simp [Bundle.messageArmAtoms]))
  cases Option.some.inj (hc1.symm.trans hfound)
  have hinit := Cond.initialized_spec hfound hk (a (.initialized cls) (by simp [Bundle.messageArmAtoms]))
  have hctor : kX.findMethod "<init>" "(Ljava/lang/String;)V" = some P1.m.idx := findMethod_of_methodNamed hP1m hk
  have hsel0 : selectMethod e.platform s.vm P1.m.cls T.fill0 = .method T.fill0 := by
    obtain ⟨c2, r2, m2, q1, q2, q3, q4, -⟩ := Cond.selects_spec (a (.selects cls Bundle.tFill0 Bundle.tFill0) (by simp [Bundle.messageArmAtoms]))
    cases Option.some.inj (q1.symm.trans hfound)
    cases Option.some.inj (q2.symm.trans (State.methodFound?_of_named Y.fill0 (by decide)))
    cases Option.some.inj (q3.symm.trans Y.fill0)
    rw [Launch.admits_selectMethod X.admits]; exact q4
  have hselF : selectMethod e.platform s.vm P1.m.cls T.fill = .method T.fill := by
    obtain ⟨c2, r2, m2, q1, q2, q3, q4, -⟩ := Cond.selects_spec (a (.selects cls Bundle.tFill Bundle.tFill) (by simp [Bundle.messageArmAtoms]))
    cases Option.some.inj (q1.symm.trans hfound)
    cases Option.some.inj (q2.symm.trans (State.methodFound?_of_named Y.fill (by decide)))
    cases Option.some.inj (q3.symm.trans Y.fill)
    rw [Launch.admits_selectMethod X.admits]; exact q4
  obtain ⟨cellS0, hcS0, hiss⟩ := Y.statics
  obtain ⟨u0, hu0⟩ := Cond.staticRefV Y.unassigned L.unassignedStatic L.statics hcS0 hiss (a (.isRef (.static Bundle.tN "UNASSIGNED_STACK" Bundle.steD)) (by simp [Bundle.messageArmAtoms]))
  obtain ⟨sen, hsen⟩ := Cond.staticRefV Y.sentinel L.sentinelStatic L.statics hcS0 hiss (a (.isRef (.static Bundle.tN "SUPPRESSED_SENTINEL" Bundle.listD)) (by simp [Bundle.messageArmAtoms]))
  obtain ⟨ci198, i198, fB, hk198, hg198, ha198, hsB, -, hnB, htB, hffB⟩ := Cond.ownField (t := .object "java/lang/Object") Y.found L.cls (by decide +kernel) (a (.fieldLink Bundle.tN 198 Bundle.tN "backtrace" "Ljava/lang/Object;") (by simp [Bundle.messageArmAtoms])) (a (.lays Bundle.tN Bundle.tN "backtrace" "Ljava/lang/Object;") (by simp [Bundle.messageArmAtoms])) e.platform hpl
  obtain ⟨cellS, hcS', heS, -, hkeep⟩ := X.same.2.2.2.2.2 T.aS cellS0 hcS0
  have hcellS : W.heap[T.aS]? = some cellS := hcS'
  have hout' : ∀ i, (⟨T.aS, i⟩ : Loc) ∉ locs := fun i hmem => by
    have := hlocs _ hmem cellS0 hcS0
    rw [hiss] at this; cases this
  have hknownS : cellS.vm ≠ .unknown := by
    rw [heS]; intro hu
    rw [show cellS0.vm = .unknown from hu] at hiss
    cases hiss
  have hvU : cellS.slots[T.fUnassigned.slot]? = some u0.v := by rw [hkeep _ (hout' _)]; exact hu0
  have hvSen : cellS.slots[T.fSentinel.slot]? = some sen.v := by rw [hkeep _ (hout' _)]; exact hsen
  obtain ⟨iM, hffM⟩ := Y.msg
  obtain ⟨tyC, dC, hdC, hdnC⟩ := Cond.laysAt hfound hk Y.cause (a (.lays cls Bundle.tN "cause" "Ljava/lang/Throwable;") (by simp [Bundle.messageArmAtoms]))
  obtain ⟨tyS, dS, hdS, hdnS⟩ := Cond.laysAt hfound hk Y.stack (a (.lays cls Bundle.tN "stackTrace" Bundle.steD) (by simp [Bundle.messageArmAtoms]))
  obtain ⟨tyP, dP, hdP, hdnP⟩ := Cond.laysAt hfound hk Y.supp (a (.lays cls Bundle.tN "suppressedExceptions" Bundle.listD) (by simp [Bundle.messageArmAtoms]))
  obtain ⟨tyM, dM, hdM, hdnM⟩ := Cond.laysAt hfound hk hffM (a (.lays cls Bundle.tN "detailMessage" "Ljava/lang/String;") (by simp [Bundle.messageArmAtoms]))
  obtain ⟨tyB, dB, hdB, hdnB⟩ := Cond.laysAt hfound hk hffB (a (.lays cls Bundle.tN "backtrace" "Ljava/lang/Object;") (by simp [Bundle.messageArmAtoms]))
  have bC := Cond.laysApart hdB hdC hdnB hdnC (by rw [hnB, Y.causeName]; decide)
  have bS := Cond.laysApart hdB hdS hdnB hdnS (by rw [hnB, Y.stackName]; decide)
  have bP := Cond.laysApart hdB hdP hdnB hdnP (by rw [hnB, Y.suppName]; decide)
  have hbk : ((preparedCellV T.toThrowableT (freshCell P1.m.cls kX) (W.heap.size + 2) u0 sen).withEntry W.cur).slots[fB.slot]? = some .null := by
    have := fresh_default (c := P1.m.cls) tyB
    rw [htB] at this
    simpa [preparedCellV, Cell.setSlot, Cell.withEntry, Array.getElem?_setIfInBounds, bC, bS, bP, bC.symm, bS.symm, bP.symm, defaultValue] using this
  have tkC := Takes.of_laid (v := .ref (W.heap.size + 2)) hk hord tyC (by rw [Y.causeType]; rfl)
  have tkS := Takes.of_laid (v := u0.v) hk hord tyS (by rw [Y.stackType]; exact fits_refV_array _ u0)
  have tkP := Takes.of_laid (v := sen.v) hk hord tyP (by rw [Y.suppType]; exact fits_refV_object _ sen)
  have tkM := Takes.of_laid (v := .ref (W.heap.size + 1)) hk hord tyM (by rw [Y.msgType]; rfl)
  have hskip : SkipFacts T e.platform s (fun u => u) u0 ((preparedCellV T.toThrowableT (freshCell P1.m.cls kX) (W.heap.size + 2) u0 sen).withEntry W.cur) := ⟨{ ci198 := ci198, i198 := i198, fBack := fB }, ⟨hk198, hg198, ha198, hsB⟩, hbk, fun _ _ => rfl⟩
  have h0 : At W g.method c below := by rw [hg]; exact X.here
  obtain ⟨hbeyond, hfreeW⟩ := X.vmMayThrow hsize (.throwNew cls (some text) none) (fun f hf => by cases hf) rfl hRlocals
  have hfr' : W.frames.length + Ps.length + 4 < (e.platform.stackLimits W.me).1 := by have := X.framesAbove hRframes; omega
  have hwd' : (stackUse (.java g :: W.frames.tail)).2 + 13 * Ps.length + 55 ≤ (e.platform.stackLimits W.me).2 := by have := X.stackAbove hsize (K := 13 * Ps.length + 55) (by omega); omega
  have hslots : W.slotsUsed + (stringBytes (stringToUtf16 text)).size + Zs.kS.instanceTypes.size + kX.instanceTypes.size ≤ e.platform.maxSlots := by
    have := X.slotsAbove hRslots
    rw [hn4, hn6]
    omega
  obtain ⟨vm', hW', st⟩ := Steps.vmThrowsMessageColdByV p (s₀ := s) (S := W) (g := g) h0 hexec T L Z LZ M LM X.warmed (t := W.cur) rfl Zs LZs P1 L1 Ps hL hlink1 hlink hsoe hoom hfound hk hinit hord hctor
    (Launch.admits_hotImplicitExceptions X.admits) hbeyond hfreeW htext hlimit hheap (X.cellsAbove hRcells) hslots (hfitv _) (hfitc _)
    (Nn := fun u => u) heapOnly_id (fun _ _ => rfl) (fun _ => rfl) (fun u x y => setCell_twice _ _ _ _) (fun _ => Nat.le_refl _) (cN := ((preparedCellV T.toThrowableT (freshCell P1.m.cls kX) (W.heap.size + 2) u0 sen).withEntry W.cur))
    hsel0 hcellS hknownS hvU tkS (fun _ hu => hu) (fun _ hu => hu) rfl rfl rfl (by simp [preparedCellV, Cell.setSlot, Cell.withEntry]) hskip (fun _ _ hA hW _ hroom _ hrest => L.nativeOff p htr hA hW hroom hrest) hselF hvSen tkC tkP tkM Y.objLocals rfl hfr' hwd'
  rw [plainBareV_eq T.toThrowableT (W.heap.size + 2) u0 sen (.ref (W.heap.size + 1)) W.cur rfl rfl] at st
  obtain ⟨-, -, w3, w4, -, -, -⟩ := withThrown_facts e.platform W Zs text P1.m.cls kX
  have X3 := ((X.pushed (bytesOf Zs.cB (stringToUtf16 text))).pushed (stringAt Zs.cS Zs.kS Zs.fv Zs.fc (stringToUtf16 text) W.heap.size)).pushed (freshCell P1.m.cls kX)
  rw [← withString_eq] at X3
  have X4 := X3.noted hW'
  have ha : (W.heap.size + 2) < ((withThrown W Zs text P1.m.cls kX).setVm vm').heap.size := by show _ < (withThrown W Zs text P1.m.cls kX).heap.size; rw [w3]; omega
  have hcell : ((withThrown W Zs text P1.m.cls kX).setVm vm').heap[(W.heap.size + 2)]? = some (freshCell P1.m.cls kX) := w4
  have X5 := ((((X4.stored hcell T.fCause.slot (.ref (W.heap.size + 2))).storedAgain ha T.fStack.slot u0.v).storedAgain ha T.fSupp.slot sen.v).storedAgain ha T.fStack.slot u0.v).storedAgain ha T.fMsg.slot (.ref (W.heap.size + 1))
  obtain ⟨g₁, hfrM⟩ := X5.frames_eq
  have hU : ((((withThrown W Zs text P1.m.cls kX).setVm vm').setCell (W.heap.size + 2) (plainBareV T.toThrowableT (freshCell P1.m.cls kX) (W.heap.size + 2) u0 sen (.ref (W.heap.size + 1)))).setTop g).pushFrame (.throwing (W.heap.size + 2)) = (((withThrown W Zs text P1.m.cls kX).setVm vm').setCell (W.heap.size + 2) (plainBareV T.toThrowableT (freshCell P1.m.cls kX) (W.heap.size + 2) u0 sen (.ref (W.heap.size + 1)))).setFrames (.throwing (W.heap.size + 2) :: .java g :: below) := by
    rw [State.pushFrame, State.frames_setTop _ hfrM, State.setTop_of_frames _ hfrM, State.setFrames_setFrames]
  have b1 : (bytesOf Zs.cB (stringToUtf16 text)).slots.size = (stringBytes (stringToUtf16 text)).size := by
    rw [(Cell.writeAll_facts _ _).2.2]; simp [bytes0]
  have b2 : (stringAt Zs.cS Zs.kS Zs.fv Zs.fc (stringToUtf16 text) W.heap.size).slots.size = 4 := by simp [string0, Cell.setSlot, hn4]
  have b3 : (freshCell P1.m.cls kX).slots.size = 6 := by simp [hn6]
  rw [b1, b2, b3] at X5
  have e9 : slots + (stringBytes (stringToUtf16 text)).size + 4 + 6 = slots + ((stringBytes (stringToUtf16 text)).size + 4 + 6) := by omega
  rw [e9] at X5
  simp only [List.append_assoc, List.cons_append, List.nil_append] at X5
  refine ⟨((withThrown W Zs text P1.m.cls kX).setVm vm').setCell (W.heap.size + 2) (plainBareV T.toThrowableT (freshCell P1.m.cls kX) (W.heap.size + 2) u0 sen (.ref (W.heap.size + 1))), W.heap.size + 2, _, fun target ht => st _ (by rw [X.tail, ← hU]; exact ht),
    X5.forget (fun y hy => ?_), heapAt_setCell_self _ ha, hfound, rfl⟩
  simp only [List.mem_cons, List.not_mem_nil, or_false] at hy
  have hge : s.heap.size ≤ W.heap.size := X.same.2.1
  rcases hy with rfl | rfl | rfl | rfl | rfl <;> exact Nat.le_trans hge (Nat.le_add_right _ 2)
set_option maxHeartbeats 1000000 in
/-- the machine throws NullPointerException, no traces kept: from its note over the frame g to 'throwing' over the same frame (follows the proof of Stand.vmThrowsNpe, Shelf42/KT2.lean; throwsNpeColdBareVAt, Shelf42/NT91.lean, called) -/
theorem vx_npeAt {p : Program} {l : Launch} {e : Env} {R : Room} {s : State} {m₀ : MethodId} {args : Array Value} {below : List Frame} {meth : Method} {c : Code} {W : State} {locs : List Loc} {cells slots : Nat}
    (X : Stand p l e R s m₀ args below meth c W locs cells slots) (hexec : p.tables.exec = Jvm.exec) (htr : e.platform.stackTraces = false) {n : Nat}
    (h : ∀ a ∈ Bundle.npeArmAtoms n, a.before args s = true)
    (hlocs : ∀ x ∈ locs, ∀ cell, s.heap[x.base]? = some cell → cell.vm.isStatics = false)
    {g : JFrame} (hg : g.method = m₀) (hsize : g.locals.size = c.maxLocals)
    (hRframes : 7 < R.frames) (hRlocals : 2 * g.monitorRoom + (g.stack.map fun v => v.category).sum + 10240 ≤ R.locals)
    (hRcells : cells + 1 ≤ R.cells) (hRslots : slots + n ≤ R.slots) (hlocks : meth.locks = false) :
    ∃ (S : State) (q : Addr) (ce : Cell), (∀ target, Steps p.tables e below ((S.setTop g).pushFrame (.throwing q)) target → Steps p.tables e below ((W.setTop g).pushFrame (.throwNew "java/lang/NullPointerException" none none)) target) ∧
      Stand p l e R s m₀ args below meth c S locs (cells + 1) (slots + n) ∧ S.heap[q]? = some ce ∧ s.vm.findClass "java/lang/NullPointerException" = some ce.cls ∧ ce.vm = .none := by
  have howns : e.platform.frameOwnsMonitors = true := by rw [X.admits.platform]
  have hfin : e.platform.finalization = false := by rw [X.admits.platform]
  have hpl : e.platform.magicAccessors = ({} : Platform).magicAccessors := by rw [X.admits.platform]
  have hpl2 : e.platform.arrayCloneIsPublic = true := by rw [X.admits.platform]
  have a' : ∀ x, x ∈ Bundle.npeArmAtoms n → x.holds args s none s [] = true := fun x hx => h x hx
  obtain ⟨T, Z, L, LZ, Y⟩ := ThrowableC.of_atoms (args := args) howns hfin hpl (fun x hx => h x (by simp [Bundle.npeArmAtoms, hx]))
  obtain ⟨N, LN, hcN, hnNF, hordN, hffS⟩ := NpeC.of_atoms (args := args) hpl hpl2 L Y (fun x hx => h x (by simp [Bundle.npeArmAtoms, hx]))
  obtain ⟨P1, L1, hP1m, hP1s⟩ := PassC.of_atoms (args := args) (s := s) hpl (X := Bundle.nN) (Y := Bundle.rN) (by decide) (by decide) LibCode.NullPointerException.Init0.at_0 LibCode.NullPointerException.Init0.at_1 LibCode.NullPointerException.Init0.at_4 (fun x hx => h x (by simp [Bundle.npeArmAtoms, hx]))
  obtain ⟨PR, LR, hPRm, hPRs⟩ := PassC.of_atoms (args := args) (s := s) hpl (X := Bundle.rN) (Y := Bundle.eN) (by decide) (by decide) LibCode.RuntimeException.Init0.at_0 LibCode.RuntimeException.Init0.at_1 LibCode.RuntimeException.Init0.at_4 (fun x hx => h x (by simp [Bundle.npeArmAtoms, hx]))
  obtain ⟨PE, LEx, hPEm, hPEs⟩ := PassC.of_atoms (args := args) (s := s) hpl (X := Bundle.eN) (Y := Bundle.tN) (by decide) (by decide) LibCode.Exception.Init0.at_0 LibCode.Exception.Init0.at_1 LibCode.Exception.Init0.at_4 (fun x hx => h x (by simp [Bundle.npeArmAtoms, hx]))
  have hfound : s.vm.findClass Bundle.nN = some P1.m.cls := findClass_of_methodNamed hP1m
  have ecls : N.cN = P1.m.cls := Option.some.inj (hcN.symm.trans hfound)
  have hk : s.vm.classes[P1.m.cls]? = some N.kN := by rw [← ecls]; exact LN.cls
  have hinit := Cond.initialized_spec hfound hk (a' (.initialized Bundle.nN) (by simp [Bundle.npeArmAtoms]))
  have hctor : N.kN.findMethod "<init>" "()V" = some P1.m.idx := findMethod_of_methodNamed hP1m hk
  obtain ⟨c1, k1, hc1, hk1, -, -, -, hn⟩ := Cond.instantiable_spec (a' (.instantiable Bundle.nN n) (by simp [Bundle.npeArmAtoms]))
  cases Option.some.inj (hc1.symm.trans hfound)
  cases Option.some.inj (hk1.symm.trans hk)
  have hfsz : (freshCell P1.m.cls N.kN).slots.size = n := by simp [hn]
  have hlink1 : P1.sup = PR.m := Option.some.inj (hP1s.symm.trans hPRm)
  have hlinkR : PR.sup = PE.m := Option.some.inj (hPRs.symm.trans hPEm)
  have hlinkE : PE.sup = Z.m T.toThrowableT := Option.some.inj (hPEs.symm.trans Y.init0)
  have hLs : ∀ P, P ∈ [PR, PE] → P.Links0 e.platform s := fun P hP => by
    simp only [List.mem_cons, List.not_mem_nil, or_false] at hP
    rcases hP with rfl | rfl
    · exact LR
    · exact LEx
  have hsel0 : selectMethod e.platform s.vm P1.m.cls T.fill0 = .method T.fill0 := by
    obtain ⟨c2, r2, m2, q1, q2, q3, q4, -⟩ := Cond.selects_spec (a' (.selects Bundle.nN Bundle.tFill0 Bundle.tFill0) (by simp [Bundle.npeArmAtoms]))
    cases Option.some.inj (q1.symm.trans hfound)
    cases Option.some.inj (q2.symm.trans (State.methodFound?_of_named Y.fill0 (by decide)))
    cases Option.some.inj (q3.symm.trans Y.fill0)
    rw [Launch.admits_selectMethod X.admits]; exact q4
  have hselF : selectMethod e.platform s.vm P1.m.cls T.fill = .method N.fill := by
    obtain ⟨c2, r2, m2, q1, q2, q3, q4, -⟩ := Cond.selects_spec (a' (.selects Bundle.nN Bundle.tFill Bundle.nFill) (by simp [Bundle.npeArmAtoms]))
    cases Option.some.inj (q1.symm.trans hfound)
    cases Option.some.inj (q2.symm.trans (State.methodFound?_of_named Y.fill (by decide)))
    cases Option.some.inj (q3.symm.trans hnNF)
    rw [Launch.admits_selectMethod X.admits]; exact q4
  obtain ⟨cellS0, hcS0, hiss⟩ := Y.statics
  obtain ⟨u0, hu0⟩ := Cond.staticRefV Y.unassigned L.unassignedStatic L.statics hcS0 hiss (a' (.isRef (.static Bundle.tN "UNASSIGNED_STACK" Bundle.steD)) (by simp [Bundle.npeArmAtoms]))
  obtain ⟨sen, hsen⟩ := Cond.staticRefV Y.sentinel L.sentinelStatic L.statics hcS0 hiss (a' (.isRef (.static Bundle.tN "SUPPRESSED_SENTINEL" Bundle.listD)) (by simp [Bundle.npeArmAtoms]))
  obtain ⟨ci198, i198, fB, hk198, hg198, ha198, hsB, -, hnB, htB, hffB⟩ := Cond.ownField (t := .object "java/lang/Object") Y.found L.cls (by decide +kernel) (a' (.fieldLink Bundle.tN 198 Bundle.tN "backtrace" Bundle.objD) (by simp [Bundle.npeArmAtoms])) (a' (.lays Bundle.tN Bundle.tN "backtrace" Bundle.objD) (by simp [Bundle.npeArmAtoms])) e.platform hpl
  obtain ⟨cellS, hcS', heS, -, hkeep⟩ := X.same.2.2.2.2.2 T.aS cellS0 hcS0
  have hcellS : W.heap[T.aS]? = some cellS := hcS'
  have hout' : ∀ i, (⟨T.aS, i⟩ : Loc) ∉ locs := fun i hmem => by
    have := hlocs _ hmem cellS0 hcS0
    rw [hiss] at this; cases this
  have hknownS : cellS.vm ≠ .unknown := by
    rw [heS]; intro hu
    rw [show cellS0.vm = .unknown from hu] at hiss
    cases hiss
  have hvU : cellS.slots[T.fUnassigned.slot]? = some u0.v := by rw [hkeep _ (hout' _)]; exact hu0
  have hvSen : cellS.slots[T.fSentinel.slot]? = some sen.v := by rw [hkeep _ (hout' _)]; exact hsen
  obtain ⟨tyC, dC, hdC, hdnC⟩ := Cond.laysAt hfound hk Y.cause (a' (.lays Bundle.nN Bundle.tN "cause" "Ljava/lang/Throwable;") (by simp [Bundle.npeArmAtoms]))
  obtain ⟨tyS, dS, hdS, hdnS⟩ := Cond.laysAt hfound hk Y.stack (a' (.lays Bundle.nN Bundle.tN "stackTrace" Bundle.steD) (by simp [Bundle.npeArmAtoms]))
  obtain ⟨tyP, dP, hdP, hdnP⟩ := Cond.laysAt hfound hk Y.supp (a' (.lays Bundle.nN Bundle.tN "suppressedExceptions" Bundle.listD) (by simp [Bundle.npeArmAtoms]))
  obtain ⟨tyX, dX, hdX, hdnX⟩ := Cond.laysAt hfound hk hffS (a' (.lays Bundle.nN Bundle.nN "extendedMessageState" "I") (by simp [Bundle.npeArmAtoms, Bundle.npeAtoms]))
  obtain ⟨hnX, htX⟩ := State.fieldFound?_type hffS (t := .int) (by decide +kernel)
  have xC := Cond.laysApart hdC hdX hdnC hdnX (by rw [hnX, Y.causeName]; decide)
  have xS := Cond.laysApart hdS hdX hdnS hdnX (by rw [hnX, Y.stackName]; decide)
  have xP := Cond.laysApart hdP hdX hdnP hdnX (by rw [hnX, Y.suppName]; decide)
  have hv0 : (freshCell P1.m.cls N.kN).slots[N.fState.slot]? = some (.int 0) := by
    have := fresh_default (c := P1.m.cls) tyX
    rw [htX] at this; exact this
  obtain ⟨tyB, dB, hdB, hdnB⟩ := Cond.laysAt hfound hk hffB (a' (.lays Bundle.nN Bundle.tN "backtrace" Bundle.objD) (by simp [Bundle.npeArmAtoms]))
  have bC := Cond.laysApart hdB hdC hdnB hdnC (by rw [hnB, Y.causeName]; decide)
  have bS := Cond.laysApart hdB hdS hdnB hdnS (by rw [hnB, Y.stackName]; decide)
  have bP := Cond.laysApart hdB hdP hdnB hdnP (by rw [hnB, Y.suppName]; decide)
  have bX := Cond.laysApart hdB hdX hdnB hdnX (by rw [hnB, hnX]; decide)
  have hbk : ((npeCell N.toNpeT (preparedCellV T.toThrowableT (freshCell P1.m.cls N.kN) W.heap.size u0 sen) W.cur).withEntry W.cur).slots[fB.slot]? = some .null := by
    have := fresh_default (c := P1.m.cls) tyB
    rw [htB] at this
    simpa [npeCell, preparedCellV, Cell.setSlot, Cell.withEntry, Array.getElem?_setIfInBounds, bC, bS, bP, bX, bC.symm, bS.symm, bP.symm, bX.symm, defaultValue] using this
  have tkC := Takes.of_laid (v := .ref W.heap.size) hk hordN tyC (by rw [Y.causeType]; rfl)
  have tkS := Takes.of_laid (v := u0.v) hk hordN tyS (by rw [Y.stackType]; exact fits_refV_array _ u0)
  have tkP := Takes.of_laid (v := sen.v) hk hordN tyP (by rw [Y.suppType]; exact fits_refV_object _ sen)
  have tkX := Takes.of_laid (v := .int 1) hk hordN tyX (by rw [htX]; rfl)
  have hskip : SkipFacts T e.platform s (fun u => u) u0 ((npeCell N.toNpeT (preparedCellV T.toThrowableT (freshCell P1.m.cls N.kN) W.heap.size u0 sen) W.cur).withEntry W.cur) := ⟨{ ci198 := ci198, i198 := i198, fBack := fB }, ⟨hk198, hg198, ha198, hsB⟩, hbk, fun _ _ => rfl⟩
  obtain ⟨vm', X3, st, -⟩ := X.throwsNpeColdBareVAt hexec hg hsize T L Z LZ N LN P1 L1 [PR, PE] hLs hlink1 ⟨hlinkR, hlinkE, trivial⟩ hfound hk hinit hordN hctor hsel0 hselF hcellS hknownS hvU hvSen
    hv0 xC xS xP tkC tkS tkP tkX Y.objLocals hskip (fun _ _ hA hW _ hroom _ hrest => L.nativeOff p htr hA hW hroom hrest) (by simpa using hRframes) hRlocals (by simp) hRcells (by rw [hn]; exact hRslots)
  have hlt : W.heap.size < ((W.pushCell (freshCell P1.m.cls N.kN)).setVm vm').heap.size := by
    show W.heap.size < (W.pushCell (freshCell P1.m.cls N.kN)).heap.size
    rw [State.heap_size_pushCell]; omega
  rw [hfsz] at X3
  obtain ⟨g₁, hfrM⟩ := X3.frames_eq
  have hU : ((((W.pushCell (freshCell P1.m.cls N.kN)).setVm vm').setCell W.heap.size (npeBareV T.toThrowableT N.toNpeT (freshCell P1.m.cls N.kN) W.heap.size u0 sen)).setTop g).pushFrame (.throwing W.heap.size) = (((W.pushCell (freshCell P1.m.cls N.kN)).setVm vm').setCell W.heap.size (npeBareV T.toThrowableT N.toNpeT (freshCell P1.m.cls N.kN) W.heap.size u0 sen)).setFrames (.throwing W.heap.size :: .java g :: below) := by
    rw [State.pushFrame, State.frames_setTop _ hfrM, State.setTop_of_frames _ hfrM, State.setFrames_setFrames]
  refine ⟨_, W.heap.size, _, fun target ht => st.trans (by rw [← hU]; exact ht), X3.forget (fun y hy => ?_), heapAt_setCell_self _ hlt, hfound, rfl⟩
  simp only [List.mem_cons, List.not_mem_nil, or_false] at hy
  have hge : s.heap.size ≤ W.heap.size := X.same.2.1
  rcases hy with rfl | rfl | rfl | rfl | rfl <;> exact hge
/-- the words of a machine's NullPointerException, but the four that speak of the heap -/
def vx_atN (n : Nat) : List Cond := (Bundle.npeArmAtoms n).filter vx_no
/-- the words of a machine's throw with a message, but the four that speak of the heap -/
def vx_atM (X : String) (names : List String) : List Cond := (Bundle.messageArmAtoms X names).filter vx_no
section
variable {p : Program} {l : Launch} {e : Env} {R : Room} {s : State} {m : MethodId} {args : Array Value} {below : List Frame} {meth : Method} {c : Code} {H : Heap} {locs : List Loc} {cells slots : Nat}
/-- a frame seen from a rebased start, seen from the first start again -/
theorem vx_back9 {T S : State} {R' : Room} {k n : Nat} (X : Stand p l e R s m args below meth c T locs cells slots) (Y : Stand p l e R' ((T.setVm s.vm).setFrames (.invoking m args :: below)) m args below meth c T [] 0 0) (Z : Stand p l e R' ((T.setVm s.vm).setFrames (.invoking m args :: below)) m args below meth c S [] k n) :
    Stand p l e R s m args below meth c S locs (cells + k) (slots + n) := by
  have hW0 : s.WarmedH ((T.setVm s.vm).setFrames (.invoking m args :: below)).vm := State.WarmedH.refl s
  refine { admits := X.admits, cas := X.cas, clock := X.clock, frames := X.frames, room := X.room, hears := X.hears, method := X.method, code := X.code, here := Z.here, tail := Z.tail, warmed := State.WarmedH.trans hW0 Z.warmed, limits := Z.limits.trans (Y.limits.symm.trans X.limits), bytes := Z.bytes.trans (Y.bytes.symm.trans X.bytes), same := ?_ }
  obtain ⟨e1, e2⟩ := Z.same
  rw [State.setFrames_setFrames] at e1
  have h2 : (T.setVm s.vm).sameButNew (S.setVm s.vm) [] k n := ⟨e1, e2⟩
  have h3 := X.same.trans h2
  rw [List.append_nil] at h3
  exact h3
/-- from the machine's note that E is thrown here with this text -/
def vx_Note (p : Program) (l : Launch) (e : Env) (R : Room) (s : State) (m : MethodId) (args : Array Value) (below : List Frame) (meth : Method) (c : Code) (H : Heap) (locs : List Loc) (cells slots : Nat) (Q : State → Prop) (g : JFrame) (E text : String) : Prop :=
  ∀ T : State, T.heap = H → Stand p l e R s m args below meth c T locs cells slots → ∃ t, Steps p.tables e below ((T.setTop g).pushFrame (.throwNew E (some text) none)) t ∧ Q t
theorem vx_vm {pc : Nat} {ls : Array Slot} {rest : List Value} {Q : State → Prop} (hexec : p.tables.exec = Jvm.exec) (hl : l.stackTraces = false) {cls text : String} {names : List String} {nb : Nat} {A : Nat → Prop}
    (hcls : Bundle.fit cls = true) (hnames : ∀ n ∈ names, Bundle.fit n = true) (hsoe : (cls == "java/lang/StackOverflowError") = false) (hoom : (cls == "java/lang/OutOfMemoryError") = false)
    (hat : ∀ w ∈ vx_atM cls names, w.before args s = true) (hgood : ∀ w ∈ vx_atM cls names, vx_ot w = true)
    (hU : vx_Zq Bundle.tN "UNASSIGNED_STACK" Bundle.steD A s s.heap) (hN : vx_Zq Bundle.tN "SUPPRESSED_SENTINEL" Bundle.listD A s s.heap) (hS : va_S A s.heap H locs) (hsize : ls.size = c.maxLocals)
    (htext : (text == notModelled) = false) (hnb : (stringBytes (stringToUtf16 text)).size ≤ nb) (hnb1 : nb ≤ 1000)
    (hRframes : names.length + 4 < R.frames) (hRlocals : (rest.map fun v => v.category).sum + 10240 ≤ R.locals) (hshort : 13 * names.length + 55 ≤ 10240) (hRcells : cells + 3 ≤ R.cells) (hRslots : slots + (nb + 10) ≤ R.slots) (hlocks : meth.locks = false)
    (k : ∀ (H1 : Heap) (q9 : Addr) (ce : Cell), H.size ≤ H1.size → (∀ q : Nat, q < H.size → H1[q]? = H[q]?) → va_S A s.heap H1 locs → H1[q9]? = some ce → ce.vm = .none → s.vm.findClass cls = some ce.cls → vx_W p l e R s m args below meth c H1 locs (cells + 3) (slots + (nb + 10)) Q (F0 m pc ls rest) q9) :
    vx_Note p l e R s m args below meth c H locs cells slots Q (F0 m pc ls rest) cls text := by
  intro T hT X
  have htr : e.platform.stackTraces = false := (show e.platform.stackTraces = l.stackTraces by rw [X.admits.platform]).trans hl
  have Y := vx_rebase X (R' := { frames := R.frames, locals := R.locals, cells := 3, slots := nb + 10 }) (Nat.le_refl _) (Nat.le_refl _) hRcells hRslots
  have hhp : ((T.setVm s.vm).setFrames (.invoking m args :: below)).heap = H := hT
  have hW0 : s.WarmedH ((T.setVm s.vm).setFrames (.invoking m args :: below)).vm := State.WarmedH.refl s
  have hat' : ∀ w ∈ vx_atM cls names, w.before args ((T.setVm s.vm).setFrames (.invoking m args :: below)) = true := fun w hw => vx_ot_at hW0 rfl (hgood w hw) (hat w hw)
  have hU' : vx_Zq Bundle.tN "UNASSIGNED_STACK" Bundle.steD A ((T.setVm s.vm).setFrames (.invoking m args :: below)) ((T.setVm s.vm).setFrames (.invoking m args :: below)).heap := by rw [hhp]; exact vx_Zq.moved hW0.alike (hU.kept hS.2.1)
  have hN' : vx_Zq Bundle.tN "SUPPRESSED_SENTINEL" Bundle.listD A ((T.setVm s.vm).setFrames (.invoking m args :: below)) ((T.setVm s.vm).setFrames (.invoking m args :: below)).heap := by rw [hhp]; exact vx_Zq.moved hW0.alike (hN.kept hS.2.1)
  obtain ⟨S, q, ce, st, Z, hce, hcl', hv⟩ := vx_vmAt Y hexec htr (cls := cls) (names := names) (text := text) hcls hnames hsoe hoom (vx_own hat' (vx_isRefq hU'.1) (vx_isRefq hN'.1) hU'.2.word hN'.2.word) (fun x hx => nomatch hx) htext
    (by rw [Launch.admits_arrayLengthLimit X.admits]; omega) (by rw [Launch.admits_maxHeapBytes X.admits]; simp only [componentBytes]; omega)
    (g := F0 m pc ls rest) rfl hsize hRframes (by show 2 * 0 + (rest.map fun v => v.category).sum + 10240 ≤ R.locals; omega) hshort (by show 0 + 3 ≤ 3; omega) (by show 0 + (_ + 4 + 6) ≤ nb + 10; omega) hlocks
  obtain ⟨f1, f2⟩ := vx_frame Z.same
  have f1' : H.size ≤ S.heap.size := by rw [← hT]; exact f1
  have f2' : ∀ q : Nat, q < H.size → S.heap[q]? = H[q]? := fun q hq => by
    rw [← hT]
    exact f2 q (by rw [← hT] at hq; exact hq) (fun z hz => nomatch hz)
  have X5 := vx_back9 X Y Z
  have X6 : Stand p l e R s m args below meth c S locs (cells + 3) (slots + (nb + 10)) := { X5 with same := X5.same.mono (by omega) (by omega) }
  obtain ⟨t, a1, b1⟩ := k S.heap q ce f1' f2' ⟨Nat.le_trans hS.1 f1', fun q h1 h2 => (f2' q (Nat.lt_of_lt_of_le h1 hS.1)).trans (hS.2.1 q h1 h2), hS.2.2⟩ hce hv hcl' S rfl X6
  exact ⟨t, st t a1, b1⟩
/-- from the machine's note that NullPointerException is thrown here -/
def vx_NoteN (p : Program) (l : Launch) (e : Env) (R : Room) (s : State) (m : MethodId) (args : Array Value) (below : List Frame) (meth : Method) (c : Code) (H : Heap) (locs : List Loc) (cells slots : Nat) (Q : State → Prop) (g : JFrame) : Prop :=
  ∀ T : State, T.heap = H → Stand p l e R s m args below meth c T locs cells slots → ∃ t, Steps p.tables e below ((T.setTop g).pushFrame (.throwNew "java/lang/NullPointerException" none none)) t ∧ Q t
theorem vx_npe {pc : Nat} {ls : Array Slot} {rest : List Value} {Q : State → Prop} (hexec : p.tables.exec = Jvm.exec) (hl : l.stackTraces = false) {nb : Nat} {A : Nat → Prop}
    (hat : ∀ w ∈ vx_atN nb, w.before args s = true) (hgood : ∀ w ∈ vx_atN nb, vx_ot w = true)
    (hU : vx_Zq Bundle.tN "UNASSIGNED_STACK" Bundle.steD A s s.heap) (hN : vx_Zq Bundle.tN "SUPPRESSED_SENTINEL" Bundle.listD A s s.heap) (hS : va_S A s.heap H locs) (hsize : ls.size = c.maxLocals)
    (hRframes : 7 < R.frames) (hRlocals : (rest.map fun v => v.category).sum + 10240 ≤ R.locals) (hRcells : cells + 1 ≤ R.cells) (hRslots : slots + nb ≤ R.slots) (hlocks : meth.locks = false)
    (k : ∀ (H1 : Heap) (q9 : Addr) (ce : Cell), H.size ≤ H1.size → (∀ q : Nat, q < H.size → H1[q]? = H[q]?) → va_S A s.heap H1 locs → H1[q9]? = some ce → ce.vm = .none → s.vm.findClass "java/lang/NullPointerException" = some ce.cls → vx_W p l e R s m args below meth c H1 locs (cells + 1) (slots + nb) Q (F0 m pc ls rest) q9) :
    vx_NoteN p l e R s m args below meth c H locs cells slots Q (F0 m pc ls rest) := by
  intro T hT X
  have htr : e.platform.stackTraces = false := (show e.platform.stackTraces = l.stackTraces by rw [X.admits.platform]).trans hl
  have Y := vx_rebase X (R' := { frames := R.frames, locals := R.locals, cells := 1, slots := nb }) (Nat.le_refl _) (Nat.le_refl _) hRcells hRslots
  have hhp : ((T.setVm s.vm).setFrames (.invoking m args :: below)).heap = H := hT
  have hW0 : s.WarmedH ((T.setVm s.vm).setFrames (.invoking m args :: below)).vm := State.WarmedH.refl s
  have hat' : ∀ w ∈ vx_atN nb, w.before args ((T.setVm s.vm).setFrames (.invoking m args :: below)) = true := fun w hw => vx_ot_at hW0 rfl (hgood w hw) (hat w hw)
  have hU' : vx_Zq Bundle.tN "UNASSIGNED_STACK" Bundle.steD A ((T.setVm s.vm).setFrames (.invoking m args :: below)) ((T.setVm s.vm).setFrames (.invoking m args :: below)).heap := by rw [hhp]; exact vx_Zq.moved hW0.alike (hU.kept hS.2.1)
  have hN' : vx_Zq Bundle.tN "SUPPRESSED_SENTINEL" Bundle.listD A ((T.setVm s.vm).setFrames (.invoking m args :: below)) ((T.setVm s.vm).setFrames (.invoking m args :: below)).heap := by rw [hhp]; exact vx_Zq.moved hW0.alike (hN.kept hS.2.1)
  obtain ⟨S, q, ce, st, Z, hce, hcl', hv⟩ := vx_npeAt Y hexec htr (n := nb) (vx_own hat' (vx_isRefq hU'.1) (vx_isRefq hN'.1) hU'.2.word hN'.2.word) (fun x hx => nomatch hx)
    (g := F0 m pc ls rest) rfl hsize hRframes (by show 2 * 0 + (rest.map fun v => v.category).sum + 10240 ≤ R.locals; omega) (by show 0 + 1 ≤ 1; omega) (by show 0 + nb ≤ nb; omega) hlocks
  obtain ⟨f1, f2⟩ := vx_frame Z.same
  have f1' : H.size ≤ S.heap.size := by rw [← hT]; exact f1
  have f2' : ∀ q : Nat, q < H.size → S.heap[q]? = H[q]? := fun q hq => by
    rw [← hT]
    exact f2 q (by rw [← hT] at hq; exact hq) (fun z hz => nomatch hz)
  have X5 := vx_back9 X Y Z
  have X6 : Stand p l e R s m args below meth c S locs (cells + 1) (slots + nb) := { X5 with same := X5.same.mono (by omega) (by omega) }
  obtain ⟨t, a1, b1⟩ := k S.heap q ce f1' f2' ⟨Nat.le_trans hS.1 f1', fun q h1 h2 => (f2' q (Nat.lt_of_lt_of_le h1 hS.1)).trans (hS.2.1 q h1 h2), hS.2.2⟩ hce hv hcl' S rfl X6
  exact ⟨t, st t a1, b1⟩
variable {Q : State → Prop} {cc : ByteArray} {pc : Nat} {ls : Array Slot} {rest : List Value}
theorem vx_idivZ (hexec : p.tables.exec = Jvm.exec) (hb : c.code = cc) {a b : Int32} (h0 : b = 0) (d : decode cc pc = .ok (.idiv, 1)) (k : vx_Note p l e R s m args below meth c H locs cells slots Q (F0 m pc ls rest) "java/lang/ArithmeticException" "/ by zero") :
    W p l e R s m args below meth c H locs cells slots Q (F0 m pc ls (.int b :: .int a :: rest)) := by
  intro T hT X
  obtain ⟨t, st, q⟩ := k T hT X
  exact ⟨t, X.idivZero hexec (g := F0 m pc ls (.int b :: .int a :: rest)) rfl (a := a) (rest := rest) (by rw [h0]) (by rw [hb]; exact d) t st, q⟩
theorem vx_iremZ (hexec : p.tables.exec = Jvm.exec) (hb : c.code = cc) {a b : Int32} (h0 : b = 0) (d : decode cc pc = .ok (.irem, 1)) (k : vx_Note p l e R s m args below meth c H locs cells slots Q (F0 m pc ls rest) "java/lang/ArithmeticException" "/ by zero") :
    W p l e R s m args below meth c H locs cells slots Q (F0 m pc ls (.int b :: .int a :: rest)) := by
  intro T hT X
  obtain ⟨t, st, q⟩ := k T hT X
  exact ⟨t, X.iremZero hexec (g := F0 m pc ls (.int b :: .int a :: rest)) rfl (a := a) (rest := rest) (by rw [h0]) (by rw [hb]; exact d) t st, q⟩
theorem vx_ldivZ (hexec : p.tables.exec = Jvm.exec) (hb : c.code = cc) {a b : Int64} (h0 : b = 0) (d : decode cc pc = .ok (.ldiv, 1)) (k : vx_Note p l e R s m args below meth c H locs cells slots Q (F0 m pc ls rest) "java/lang/ArithmeticException" "/ by zero") :
    W p l e R s m args below meth c H locs cells slots Q (F0 m pc ls (.long b :: .long a :: rest)) := by
  intro T hT X
  obtain ⟨t, st, q⟩ := k T hT X
  exact ⟨t, X.ldivZero hexec (g := F0 m pc ls (.long b :: .long a :: rest)) rfl (a := a) (rest := rest) (by rw [h0]) (by rw [hb]; exact d) t st, q⟩
theorem vx_lremZ (hexec : p.tables.exec = Jvm.exec) (hb : c.code = cc) {a b : Int64} (h0 : b = 0) (d : decode cc pc = .ok (.lrem, 1)) (k : vx_Note p l e R s m args below meth c H locs cells slots Q (F0 m pc ls rest) "java/lang/ArithmeticException" "/ by zero") :
    W p l e R s m args below meth c H locs cells slots Q (F0 m pc ls (.long b :: .long a :: rest)) := by
  intro T hT X
  obtain ⟨t, st, q⟩ := k T hT X
  exact ⟨t, X.lremZero hexec (g := F0 m pc ls (.long b :: .long a :: rest)) rfl (a := a) (rest := rest) (by rw [h0]) (by rw [hb]; exact d) t st, q⟩
theorem vx_ialdZ {D : va_G} {cl : List vw_C} {ws : va_W} {tys : List (ClassId × FieldType)} {a : Nat} (hexec : p.tables.exec = Jvm.exec) (hb : c.code = cc) (hK : va_K D cl tys s) (hP : va_P D cl ws H) (q0 t0 : Nat) {cA : ClassId} {n : Nat} {f : Nat → Int32} (ha : ws[q0]? = some (a, .inl (cA, n, .inl f))) (ht : tys[t0]? = some (cA, .int)) {i : Int32} (hout : ¬ vp_in i n) (hdg : decode cc pc = .ok (.iaload, 1))
    (k : ∀ tx : String, tx = (toString "Index " ++ toString i ++ toString " out of bounds for length " ++ toString n : String) → vx_Note p l e R s m args below meth c H locs cells slots Q (F0 m pc ls rest) "java/lang/ArrayIndexOutOfBoundsException" tx) : W p l e R s m args below meth c H locs cells slots Q (F0 m pc ls (.int i :: .ref a :: rest)) := by
  intro T hT X
  obtain ⟨t, st, q⟩ := k _ rfl T hT X
  refine ⟨t, ?_, q⟩
  have h1 := X.ialoadOut hexec (by rw [hT]; exact hP q0 _ ha) ((hK.2 t0 _ ht).1 n (fun j => .int (f j))) (j := i) (by show (i < 0 ∨ (arrV _ _ _).slots.size ≤ _); rw [arrV_size]; exact Classical.byContradiction hout) (g := F0 m pc ls (.int i :: .ref a :: rest)) rfl (rest := rest) rfl (by rw [hb]; exact hdg) t
  simp only [arrV_size] at h1
  exact h1 st
theorem vx_iastZ {D : va_G} {cl : List vw_C} {ws : va_W} {tys : List (ClassId × FieldType)} {a : Nat} (hexec : p.tables.exec = Jvm.exec) (hb : c.code = cc) (hK : va_K D cl tys s) (hP : va_P D cl ws H) (q0 t0 : Nat) {cA : ClassId} {n : Nat} {f : Nat → Int32} (ha : ws[q0]? = some (a, .inl (cA, n, .inl f))) (ht : tys[t0]? = some (cA, .int)) {i : Int32} {x : Int32} (hout : ¬ vp_in i n) (hdg : decode cc pc = .ok (.iastore, 1))
    (k : ∀ tx : String, tx = (toString "Index " ++ toString i ++ toString " out of bounds for length " ++ toString n : String) → vx_Note p l e R s m args below meth c H locs cells slots Q (F0 m pc ls rest) "java/lang/ArrayIndexOutOfBoundsException" tx) : W p l e R s m args below meth c H locs cells slots Q (F0 m pc ls (.int x :: .int i :: .ref a :: rest)) := by
  intro T hT X
  obtain ⟨t, st, q⟩ := k _ rfl T hT X
  refine ⟨t, ?_, q⟩
  have h1 := X.iastoreOut hexec (by rw [hT]; exact hP q0 _ ha) ((hK.2 t0 _ ht).1 n (fun j => .int (f j))) (j := i) (by show (i < 0 ∨ (arrV _ _ _).slots.size ≤ _); rw [arrV_size]; exact Classical.byContradiction hout) (g := F0 m pc ls (.int x :: .int i :: .ref a :: rest)) rfl (rest := rest) rfl (by rw [hb]; exact hdg) t
  simp only [arrV_size] at h1
  exact h1 st
theorem vx_baldZ {D : va_G} {cl : List vw_C} {ws : va_W} {tys : List (ClassId × FieldType)} {a : Nat} (hexec : p.tables.exec = Jvm.exec) (hb : c.code = cc) (hK : va_K D cl tys s) (hP : va_P D cl ws H) (q0 t0 : Nat) {cA : ClassId} {n : Nat} {f : Nat → Int32} (ha : ws[q0]? = some (a, .inl (cA, n, .inl f))) (ht : tys[t0]? = some (cA, .byte)) {i : Int32} (hout : ¬ vp_in i n) (hdg : decode cc pc = .ok (.baload, 1))
    (k : ∀ tx : String, tx = (toString "Index " ++ toString i ++ toString " out of bounds for length " ++ toString n : String) → vx_Note p l e R s m args below meth c H locs cells slots Q (F0 m pc ls rest) "java/lang/ArrayIndexOutOfBoundsException" tx) : W p l e R s m args below meth c H locs cells slots Q (F0 m pc ls (.int i :: .ref a :: rest)) := by
  intro T hT X
  obtain ⟨t, st, q⟩ := k _ rfl T hT X
  refine ⟨t, ?_, q⟩
  have h1 := X.baloadOut hexec (by rw [hT]; exact hP q0 _ ha) ((hK.2 t0 _ ht).1 n (fun j => .int (f j))) (j := i) (by show (i < 0 ∨ (arrV _ _ _).slots.size ≤ _); rw [arrV_size]; exact Classical.byContradiction hout) (g := F0 m pc ls (.int i :: .ref a :: rest)) rfl (rest := rest) rfl (by rw [hb]; exact hdg) t
  simp only [arrV_size] at h1
  exact h1 st
theorem vx_bastZ {D : va_G} {cl : List vw_C} {ws : va_W} {tys : List (ClassId × FieldType)} {a : Nat} (hexec : p.tables.exec = Jvm.exec) (hb : c.code = cc) (hK : va_K D cl tys s) (hP : va_P D cl ws H) (q0 t0 : Nat) {cA : ClassId} {n : Nat} {f : Nat → Int32} (ha : ws[q0]? = some (a, .inl (cA, n, .inl f))) (ht : tys[t0]? = some (cA, .byte)) {i : Int32} {x : Int32} (hout : ¬ vp_in i n) (hdg : decode cc pc = .ok (.bastore, 1))
    (k : ∀ tx : String, tx = (toString "Index " ++ toString i ++ toString " out of bounds for length " ++ toString n : String) → vx_Note p l e R s m args below meth c H locs cells slots Q (F0 m pc ls rest) "java/lang/ArrayIndexOutOfBoundsException" tx) : W p l e R s m args below meth c H locs cells slots Q (F0 m pc ls (.int x :: .int i :: .ref a :: rest)) := by
  intro T hT X
  obtain ⟨t, st, q⟩ := k _ rfl T hT X
  refine ⟨t, ?_, q⟩
  have h1 := X.bastoreOut hexec (by rw [hT]; exact hP q0 _ ha) ((hK.2 t0 _ ht).1 n (fun j => .int (f j))) (j := i) (by show (i < 0 ∨ (arrV _ _ _).slots.size ≤ _); rw [arrV_size]; exact Classical.byContradiction hout) (g := F0 m pc ls (.int x :: .int i :: .ref a :: rest)) rfl (rest := rest) rfl (by rw [hb]; exact hdg) t
  simp only [arrV_size] at h1
  exact h1 st
theorem vx_zaldZ {D : va_G} {cl : List vw_C} {ws : va_W} {tys : List (ClassId × FieldType)} {a : Nat} (hexec : p.tables.exec = Jvm.exec) (hb : c.code = cc) (hK : va_K D cl tys s) (hP : va_P D cl ws H) (q0 t0 : Nat) {cA : ClassId} {n : Nat} {f : Nat → Int32} (ha : ws[q0]? = some (a, .inl (cA, n, .inl f))) (ht : tys[t0]? = some (cA, .boolean)) {i : Int32} (hout : ¬ vp_in i n) (hdg : decode cc pc = .ok (.baload, 1))
    (k : ∀ tx : String, tx = (toString "Index " ++ toString i ++ toString " out of bounds for length " ++ toString n : String) → vx_Note p l e R s m args below meth c H locs cells slots Q (F0 m pc ls rest) "java/lang/ArrayIndexOutOfBoundsException" tx) : W p l e R s m args below meth c H locs cells slots Q (F0 m pc ls (.int i :: .ref a :: rest)) := by
  intro T hT X
  obtain ⟨t, st, q⟩ := k _ rfl T hT X
  refine ⟨t, ?_, q⟩
  have h1 := X.baloadOut hexec (by rw [hT]; exact hP q0 _ ha) ((hK.2 t0 _ ht).1 n (fun j => .int (f j))) (j := i) (by show (i < 0 ∨ (arrV _ _ _).slots.size ≤ _); rw [arrV_size]; exact Classical.byContradiction hout) (g := F0 m pc ls (.int i :: .ref a :: rest)) rfl (rest := rest) rfl (by rw [hb]; exact hdg) t
  simp only [arrV_size] at h1
  exact h1 st
theorem vx_zastZ {D : va_G} {cl : List vw_C} {ws : va_W} {tys : List (ClassId × FieldType)} {a : Nat} (hexec : p.tables.exec = Jvm.exec) (hb : c.code = cc) (hK : va_K D cl tys s) (hP : va_P D cl ws H) (q0 t0 : Nat) {cA : ClassId} {n : Nat} {f : Nat → Int32} (ha : ws[q0]? = some (a, .inl (cA, n, .inl f))) (ht : tys[t0]? = some (cA, .boolean)) {i : Int32} {x : Int32} (hout : ¬ vp_in i n) (hdg : decode cc pc = .ok (.bastore, 1))
    (k : ∀ tx : String, tx = (toString "Index " ++ toString i ++ toString " out of bounds for length " ++ toString n : String) → vx_Note p l e R s m args below meth c H locs cells slots Q (F0 m pc ls rest) "java/lang/ArrayIndexOutOfBoundsException" tx) : W p l e R s m args below meth c H locs cells slots Q (F0 m pc ls (.int x :: .int i :: .ref a :: rest)) := by
  intro T hT X
  obtain ⟨t, st, q⟩ := k _ rfl T hT X
  refine ⟨t, ?_, q⟩
  have h1 := X.bastoreOut hexec (by rw [hT]; exact hP q0 _ ha) ((hK.2 t0 _ ht).1 n (fun j => .int (f j))) (j := i) (by show (i < 0 ∨ (arrV _ _ _).slots.size ≤ _); rw [arrV_size]; exact Classical.byContradiction hout) (g := F0 m pc ls (.int x :: .int i :: .ref a :: rest)) rfl (rest := rest) rfl (by rw [hb]; exact hdg) t
  simp only [arrV_size] at h1
  exact h1 st
theorem vx_caldZ {D : va_G} {cl : List vw_C} {ws : va_W} {tys : List (ClassId × FieldType)} {a : Nat} (hexec : p.tables.exec = Jvm.exec) (hb : c.code = cc) (hK : va_K D cl tys s) (hP : va_P D cl ws H) (q0 t0 : Nat) {cA : ClassId} {n : Nat} {f : Nat → Int32} (ha : ws[q0]? = some (a, .inl (cA, n, .inl f))) (ht : tys[t0]? = some (cA, .char)) {i : Int32} (hout : ¬ vp_in i n) (hdg : decode cc pc = .ok (.caload, 1))
    (k : ∀ tx : String, tx = (toString "Index " ++ toString i ++ toString " out of bounds for length " ++ toString n : String) → vx_Note p l e R s m args below meth c H locs cells slots Q (F0 m pc ls rest) "java/lang/ArrayIndexOutOfBoundsException" tx) : W p l e R s m args below meth c H locs cells slots Q (F0 m pc ls (.int i :: .ref a :: rest)) := by
  intro T hT X
  obtain ⟨t, st, q⟩ := k _ rfl T hT X
  refine ⟨t, ?_, q⟩
  have h1 := X.caloadOut hexec (by rw [hT]; exact hP q0 _ ha) ((hK.2 t0 _ ht).1 n (fun j => .int (f j))) (j := i) (by show (i < 0 ∨ (arrV _ _ _).slots.size ≤ _); rw [arrV_size]; exact Classical.byContradiction hout) (g := F0 m pc ls (.int i :: .ref a :: rest)) rfl (rest := rest) rfl (by rw [hb]; exact hdg) t
  simp only [arrV_size] at h1
  exact h1 st
theorem vx_castZ {D : va_G} {cl : List vw_C} {ws : va_W} {tys : List (ClassId × FieldType)} {a : Nat} (hexec : p.tables.exec = Jvm.exec) (hb : c.code = cc) (hK : va_K D cl tys s) (hP : va_P D cl ws H) (q0 t0 : Nat) {cA : ClassId} {n : Nat} {f : Nat → Int32} (ha : ws[q0]? = some (a, .inl (cA, n, .inl f))) (ht : tys[t0]? = some (cA, .char)) {i : Int32} {x : Int32} (hout : ¬ vp_in i n) (hdg : decode cc pc = .ok (.castore, 1))
    (k : ∀ tx : String, tx = (toString "Index " ++ toString i ++ toString " out of bounds for length " ++ toString n : String) → vx_Note p l e R s m args below meth c H locs cells slots Q (F0 m pc ls rest) "java/lang/ArrayIndexOutOfBoundsException" tx) : W p l e R s m args below meth c H locs cells slots Q (F0 m pc ls (.int x :: .int i :: .ref a :: rest)) := by
  intro T hT X
  obtain ⟨t, st, q⟩ := k _ rfl T hT X
  refine ⟨t, ?_, q⟩
  have h1 := X.castoreOut hexec (by rw [hT]; exact hP q0 _ ha) ((hK.2 t0 _ ht).1 n (fun j => .int (f j))) (j := i) (by show (i < 0 ∨ (arrV _ _ _).slots.size ≤ _); rw [arrV_size]; exact Classical.byContradiction hout) (g := F0 m pc ls (.int x :: .int i :: .ref a :: rest)) rfl (rest := rest) rfl (by rw [hb]; exact hdg) t
  simp only [arrV_size] at h1
  exact h1 st
theorem vx_saldZ {D : va_G} {cl : List vw_C} {ws : va_W} {tys : List (ClassId × FieldType)} {a : Nat} (hexec : p.tables.exec = Jvm.exec) (hb : c.code = cc) (hK : va_K D cl tys s) (hP : va_P D cl ws H) (q0 t0 : Nat) {cA : ClassId} {n : Nat} {f : Nat → Int32} (ha : ws[q0]? = some (a, .inl (cA, n, .inl f))) (ht : tys[t0]? = some (cA, .short)) {i : Int32} (hout : ¬ vp_in i n) (hdg : decode cc pc = .ok (.saload, 1))
    (k : ∀ tx : String, tx = (toString "Index " ++ toString i ++ toString " out of bounds for length " ++ toString n : String) → vx_Note p l e R s m args below meth c H locs cells slots Q (F0 m pc ls rest) "java/lang/ArrayIndexOutOfBoundsException" tx) : W p l e R s m args below meth c H locs cells slots Q (F0 m pc ls (.int i :: .ref a :: rest)) := by
  intro T hT X
  obtain ⟨t, st, q⟩ := k _ rfl T hT X
  refine ⟨t, ?_, q⟩
  have h1 := X.saloadOut hexec (by rw [hT]; exact hP q0 _ ha) ((hK.2 t0 _ ht).1 n (fun j => .int (f j))) (j := i) (by show (i < 0 ∨ (arrV _ _ _).slots.size ≤ _); rw [arrV_size]; exact Classical.byContradiction hout) (g := F0 m pc ls (.int i :: .ref a :: rest)) rfl (rest := rest) rfl (by rw [hb]; exact hdg) t
  simp only [arrV_size] at h1
  exact h1 st
theorem vx_sastZ {D : va_G} {cl : List vw_C} {ws : va_W} {tys : List (ClassId × FieldType)} {a : Nat} (hexec : p.tables.exec = Jvm.exec) (hb : c.code = cc) (hK : va_K D cl tys s) (hP : va_P D cl ws H) (q0 t0 : Nat) {cA : ClassId} {n : Nat} {f : Nat → Int32} (ha : ws[q0]? = some (a, .inl (cA, n, .inl f))) (ht : tys[t0]? = some (cA, .short)) {i : Int32} {x : Int32} (hout : ¬ vp_in i n) (hdg : decode cc pc = .ok (.sastore, 1))
    (k : ∀ tx : String, tx = (toString "Index " ++ toString i ++ toString " out of bounds for length " ++ toString n : String) → vx_Note p l e R s m args below meth c H locs cells slots Q (F0 m pc ls rest) "java/lang/ArrayIndexOutOfBoundsException" tx) : W p l e R s m args below meth c H locs cells slots Q (F0 m pc ls (.int x :: .int i :: .ref a :: rest)) := by
  intro T hT X
  obtain ⟨t, st, q⟩ := k _ rfl T hT X
  refine ⟨t, ?_, q⟩
  have h1 := X.sastoreOut hexec (by rw [hT]; exact hP q0 _ ha) ((hK.2 t0 _ ht).1 n (fun j => .int (f j))) (j := i) (by show (i < 0 ∨ (arrV _ _ _).slots.size ≤ _); rw [arrV_size]; exact Classical.byContradiction hout) (g := F0 m pc ls (.int x :: .int i :: .ref a :: rest)) rfl (rest := rest) rfl (by rw [hb]; exact hdg) t
  simp only [arrV_size] at h1
  exact h1 st
theorem vx_laldZ {D : va_G} {cl : List vw_C} {ws : va_W} {tys : List (ClassId × FieldType)} {a : Nat} (hexec : p.tables.exec = Jvm.exec) (hb : c.code = cc) (hK : va_K D cl tys s) (hP : va_P D cl ws H) (q0 t0 : Nat) {cA : ClassId} {n : Nat} {f : Nat → Int64} (ha : ws[q0]? = some (a, .inl (cA, n, .inr (.inl f)))) (ht : tys[t0]? = some (cA, .long)) {i : Int32} (hout : ¬ vp_in i n) (hdg : decode cc pc = .ok (.laload, 1))
    (k : ∀ tx : String, tx = (toString "Index " ++ toString i ++ toString " out of bounds for length " ++ toString n : String) → vx_Note p l e R s m args below meth c H locs cells slots Q (F0 m pc ls rest) "java/lang/ArrayIndexOutOfBoundsException" tx) : W p l e R s m args below meth c H locs cells slots Q (F0 m pc ls (.int i :: .ref a :: rest)) := by
  intro T hT X
  obtain ⟨t, st, q⟩ := k _ rfl T hT X
  refine ⟨t, ?_, q⟩
  have h1 := X.laloadOut hexec (by rw [hT]; exact hP q0 _ ha) ((hK.2 t0 _ ht).1 n (fun j => .long (f j))) (j := i) (by show (i < 0 ∨ (arrV _ _ _).slots.size ≤ _); rw [arrV_size]; exact Classical.byContradiction hout) (g := F0 m pc ls (.int i :: .ref a :: rest)) rfl (rest := rest) rfl (by rw [hb]; exact hdg) t
  simp only [arrV_size] at h1
  exact h1 st
theorem vx_lastZ {D : va_G} {cl : List vw_C} {ws : va_W} {tys : List (ClassId × FieldType)} {a : Nat} (hexec : p.tables.exec = Jvm.exec) (hb : c.code = cc) (hK : va_K D cl tys s) (hP : va_P D cl ws H) (q0 t0 : Nat) {cA : ClassId} {n : Nat} {f : Nat → Int64} (ha : ws[q0]? = some (a, .inl (cA, n, .inr (.inl f)))) (ht : tys[t0]? = some (cA, .long)) {i : Int32} {x : Int64} (hout : ¬ vp_in i n) (hdg : decode cc pc = .ok (.lastore, 1))
    (k : ∀ tx : String, tx = (toString "Index " ++ toString i ++ toString " out of bounds for length " ++ toString n : String) → vx_Note p l e R s m args below meth c H locs cells slots Q (F0 m pc ls rest) "java/lang/ArrayIndexOutOfBoundsException" tx) : W p l e R s m args below meth c H locs cells slots Q (F0 m pc ls (.long x :: .int i :: .ref a :: rest)) := by
  intro T hT X
  obtain ⟨t, st, q⟩ := k _ rfl T hT X
  refine ⟨t, ?_, q⟩
  have h1 := X.lastoreOut hexec (by rw [hT]; exact hP q0 _ ha) ((hK.2 t0 _ ht).1 n (fun j => .long (f j))) (j := i) (by show (i < 0 ∨ (arrV _ _ _).slots.size ≤ _); rw [arrV_size]; exact Classical.byContradiction hout) (g := F0 m pc ls (.long x :: .int i :: .ref a :: rest)) rfl (rest := rest) rfl (by rw [hb]; exact hdg) t
  simp only [arrV_size] at h1
  exact h1 st
theorem vx_faldZ {D : va_G} {cl : List vw_C} {ws : va_W} {tys : List (ClassId × FieldType)} {a : Nat} (hexec : p.tables.exec = Jvm.exec) (hb : c.code = cc) (hK : va_K D cl tys s) (hP : va_P D cl ws H) (q0 t0 : Nat) {cA : ClassId} {n : Nat} {f : Nat → UInt32} (ha : ws[q0]? = some (a, .inl (cA, n, .inr (.inr (.inl f))))) (ht : tys[t0]? = some (cA, .float)) {i : Int32} (hout : ¬ vp_in i n) (hdg : decode cc pc = .ok (.faload, 1))
    (k : ∀ tx : String, tx = (toString "Index " ++ toString i ++ toString " out of bounds for length " ++ toString n : String) → vx_Note p l e R s m args below meth c H locs cells slots Q (F0 m pc ls rest) "java/lang/ArrayIndexOutOfBoundsException" tx) : W p l e R s m args below meth c H locs cells slots Q (F0 m pc ls (.int i :: .ref a :: rest)) := by
  intro T hT X
  obtain ⟨t, st, q⟩ := k _ rfl T hT X
  refine ⟨t, ?_, q⟩
  have h1 := X.faloadOut hexec (by rw [hT]; exact hP q0 _ ha) ((hK.2 t0 _ ht).1 n (fun j => .float (f j))) (j := i) (by show (i < 0 ∨ (arrV _ _ _).slots.size ≤ _); rw [arrV_size]; exact Classical.byContradiction hout) (g := F0 m pc ls (.int i :: .ref a :: rest)) rfl (rest := rest) rfl (by rw [hb]; exact hdg) t
  simp only [arrV_size] at h1
  exact h1 st
theorem vx_fastZ {D : va_G} {cl : List vw_C} {ws : va_W} {tys : List (ClassId × FieldType)} {a : Nat} (hexec : p.tables.exec = Jvm.exec) (hb : c.code = cc) (hK : va_K D cl tys s) (hP : va_P D cl ws H) (q0 t0 : Nat) {cA : ClassId} {n : Nat} {f : Nat → UInt32} (ha : ws[q0]? = some (a, .inl (cA, n, .inr (.inr (.inl f))))) (ht : tys[t0]? = some (cA, .float)) {i : Int32} {x : UInt32} (hout : ¬ vp_in i n) (hdg : decode cc pc = .ok (.fastore, 1))
    (k : ∀ tx : String, tx = (toString "Index " ++ toString i ++ toString " out of bounds for length " ++ toString n : String) → vx_Note p l e R s m args below meth c H locs cells slots Q (F0 m pc ls rest) "java/lang/ArrayIndexOutOfBoundsException" tx) : W p l e R s m args below meth c H locs cells slots Q (F0 m pc ls (.float x :: .int i :: .ref a :: rest)) := by
  intro T hT X
  obtain ⟨t, st, q⟩ := k _ rfl T hT X
  refine ⟨t, ?_, q⟩
  have h1 := X.fastoreOut hexec (by rw [hT]; exact hP q0 _ ha) ((hK.2 t0 _ ht).1 n (fun j => .float (f j))) (j := i) (by show (i < 0 ∨ (arrV _ _ _).slots.size ≤ _); rw [arrV_size]; exact Classical.byContradiction hout) (g := F0 m pc ls (.float x :: .int i :: .ref a :: rest)) rfl (rest := rest) rfl (by rw [hb]; exact hdg) t
  simp only [arrV_size] at h1
  exact h1 st
theorem vx_daldZ {D : va_G} {cl : List vw_C} {ws : va_W} {tys : List (ClassId × FieldType)} {a : Nat} (hexec : p.tables.exec = Jvm.exec) (hb : c.code = cc) (hK : va_K D cl tys s) (hP : va_P D cl ws H) (q0 t0 : Nat) {cA : ClassId} {n : Nat} {f : Nat → UInt64} (ha : ws[q0]? = some (a, .inl (cA, n, .inr (.inr (.inr (.inl f)))))) (ht : tys[t0]? = some (cA, .double)) {i : Int32} (hout : ¬ vp_in i n) (hdg : decode cc pc = .ok (.daload, 1))
    (k : ∀ tx : String, tx = (toString "Index " ++ toString i ++ toString " out of bounds for length " ++ toString n : String) → vx_Note p l e R s m args below meth c H locs cells slots Q (F0 m pc ls rest) "java/lang/ArrayIndexOutOfBoundsException" tx) : W p l e R s m args below meth c H locs cells slots Q (F0 m pc ls (.int i :: .ref a :: rest)) := by
  intro T hT X
  obtain ⟨t, st, q⟩ := k _ rfl T hT X
  refine ⟨t, ?_, q⟩
  have h1 := X.daloadOut hexec (by rw [hT]; exact hP q0 _ ha) ((hK.2 t0 _ ht).1 n (fun j => .double (f j))) (j := i) (by show (i < 0 ∨ (arrV _ _ _).slots.size ≤ _); rw [arrV_size]; exact Classical.byContradiction hout) (g := F0 m pc ls (.int i :: .ref a :: rest)) rfl (rest := rest) rfl (by rw [hb]; exact hdg) t
  simp only [arrV_size] at h1
  exact h1 st
theorem vx_dastZ {D : va_G} {cl : List vw_C} {ws : va_W} {tys : List (ClassId × FieldType)} {a : Nat} (hexec : p.tables.exec = Jvm.exec) (hb : c.code = cc) (hK : va_K D cl tys s) (hP : va_P D cl ws H) (q0 t0 : Nat) {cA : ClassId} {n : Nat} {f : Nat → UInt64} (ha : ws[q0]? = some (a, .inl (cA, n, .inr (.inr (.inr (.inl f)))))) (ht : tys[t0]? = some (cA, .double)) {i : Int32} {x : UInt64} (hout : ¬ vp_in i n) (hdg : decode cc pc = .ok (.dastore, 1))
    (k : ∀ tx : String, tx = (toString "Index " ++ toString i ++ toString " out of bounds for length " ++ toString n : String) → vx_Note p l e R s m args below meth c H locs cells slots Q (F0 m pc ls rest) "java/lang/ArrayIndexOutOfBoundsException" tx) : W p l e R s m args below meth c H locs cells slots Q (F0 m pc ls (.double x :: .int i :: .ref a :: rest)) := by
  intro T hT X
  obtain ⟨t, st, q⟩ := k _ rfl T hT X
  refine ⟨t, ?_, q⟩
  have h1 := X.dastoreOut hexec (by rw [hT]; exact hP q0 _ ha) ((hK.2 t0 _ ht).1 n (fun j => .double (f j))) (j := i) (by show (i < 0 ∨ (arrV _ _ _).slots.size ≤ _); rw [arrV_size]; exact Classical.byContradiction hout) (g := F0 m pc ls (.double x :: .int i :: .ref a :: rest)) rfl (rest := rest) rfl (by rw [hb]; exact hdg) t
  simp only [arrV_size] at h1
  exact h1 st
theorem vx_arraylengthN (hexec : p.tables.exec = Jvm.exec) (hb : c.code = cc) (hdg : decode cc pc = .ok (.arraylength, 1)) (k : vx_NoteN p l e R s m args below meth c H locs cells slots Q (F0 m pc ls rest)) : W p l e R s m args below meth c H locs cells slots Q (F0 m pc ls (.null :: rest)) := by
  intro T hT X
  obtain ⟨t, st, q⟩ := k T hT X
  exact ⟨t, X.arraylengthNull hexec (g := F0 m pc ls (.null :: rest)) rfl (rest := rest) rfl (by rw [hb]; exact hdg) t st, q⟩
theorem vx_ialoadN (hexec : p.tables.exec = Jvm.exec) (hb : c.code = cc) {i : Int32} (hdg : decode cc pc = .ok (.iaload, 1)) (k : vx_NoteN p l e R s m args below meth c H locs cells slots Q (F0 m pc ls rest)) : W p l e R s m args below meth c H locs cells slots Q (F0 m pc ls (.int i :: .null :: rest)) := by
  intro T hT X
  obtain ⟨t, st, q⟩ := k T hT X
  exact ⟨t, X.ialoadNull hexec (g := F0 m pc ls (.int i :: .null :: rest)) rfl (rest := rest) rfl (by rw [hb]; exact hdg) t st, q⟩
theorem vx_laloadN (hexec : p.tables.exec = Jvm.exec) (hb : c.code = cc) {i : Int32} (hdg : decode cc pc = .ok (.laload, 1)) (k : vx_NoteN p l e R s m args below meth c H locs cells slots Q (F0 m pc ls rest)) : W p l e R s m args below meth c H locs cells slots Q (F0 m pc ls (.int i :: .null :: rest)) := by
  intro T hT X
  obtain ⟨t, st, q⟩ := k T hT X
  exact ⟨t, X.laloadNull hexec (g := F0 m pc ls (.int i :: .null :: rest)) rfl (rest := rest) rfl (by rw [hb]; exact hdg) t st, q⟩
theorem vx_faloadN (hexec : p.tables.exec = Jvm.exec) (hb : c.code = cc) {i : Int32} (hdg : decode cc pc = .ok (.faload, 1)) (k : vx_NoteN p l e R s m args below meth c H locs cells slots Q (F0 m pc ls rest)) : W p l e R s m args below meth c H locs cells slots Q (F0 m pc ls (.int i :: .null :: rest)) := by
  intro T hT X
  obtain ⟨t, st, q⟩ := k T hT X
  exact ⟨t, X.faloadNull hexec (g := F0 m pc ls (.int i :: .null :: rest)) rfl (rest := rest) rfl (by rw [hb]; exact hdg) t st, q⟩
theorem vx_daloadN (hexec : p.tables.exec = Jvm.exec) (hb : c.code = cc) {i : Int32} (hdg : decode cc pc = .ok (.daload, 1)) (k : vx_NoteN p l e R s m args below meth c H locs cells slots Q (F0 m pc ls rest)) : W p l e R s m args below meth c H locs cells slots Q (F0 m pc ls (.int i :: .null :: rest)) := by
  intro T hT X
  obtain ⟨t, st, q⟩ := k T hT X
  exact ⟨t, X.daloadNull hexec (g := F0 m pc ls (.int i :: .null :: rest)) rfl (rest := rest) rfl (by rw [hb]; exact hdg) t st, q⟩
theorem vx_aaloadN (hexec : p.tables.exec = Jvm.exec) (hb : c.code = cc) {i : Int32} (hdg : decode cc pc = .ok (.aaload, 1)) (k : vx_NoteN p l e R s m args below meth c H locs cells slots Q (F0 m pc ls rest)) : W p l e R s m args below meth c H locs cells slots Q (F0 m pc ls (.int i :: .null :: rest)) := by
  intro T hT X
  obtain ⟨t, st, q⟩ := k T hT X
  exact ⟨t, X.aaloadNull hexec (g := F0 m pc ls (.int i :: .null :: rest)) rfl (rest := rest) rfl (by rw [hb]; exact hdg) t st, q⟩
theorem vx_baloadN (hexec : p.tables.exec = Jvm.exec) (hb : c.code = cc) {i : Int32} (hdg : decode cc pc = .ok (.baload, 1)) (k : vx_NoteN p l e R s m args below meth c H locs cells slots Q (F0 m pc ls rest)) : W p l e R s m args below meth c H locs cells slots Q (F0 m pc ls (.int i :: .null :: rest)) := by
  intro T hT X
  obtain ⟨t, st, q⟩ := k T hT X
  exact ⟨t, X.baloadNull hexec (g := F0 m pc ls (.int i :: .null :: rest)) rfl (rest := rest) rfl (by rw [hb]; exact hdg) t st, q⟩
theorem vx_caloadN (hexec : p.tables.exec = Jvm.exec) (hb : c.code = cc) {i : Int32} (hdg : decode cc pc = .ok (.caload, 1)) (k : vx_NoteN p l e R s m args below meth c H locs cells slots Q (F0 m pc ls rest)) : W p l e R s m args below meth c H locs cells slots Q (F0 m pc ls (.int i :: .null :: rest)) := by
  intro T hT X
  obtain ⟨t, st, q⟩ := k T hT X
  exact ⟨t, X.caloadNull hexec (g := F0 m pc ls (.int i :: .null :: rest)) rfl (rest := rest) rfl (by rw [hb]; exact hdg) t st, q⟩
theorem vx_saloadN (hexec : p.tables.exec = Jvm.exec) (hb : c.code = cc) {i : Int32} (hdg : decode cc pc = .ok (.saload, 1)) (k : vx_NoteN p l e R s m args below meth c H locs cells slots Q (F0 m pc ls rest)) : W p l e R s m args below meth c H locs cells slots Q (F0 m pc ls (.int i :: .null :: rest)) := by
  intro T hT X
  obtain ⟨t, st, q⟩ := k T hT X
  exact ⟨t, X.saloadNull hexec (g := F0 m pc ls (.int i :: .null :: rest)) rfl (rest := rest) rfl (by rw [hb]; exact hdg) t st, q⟩
theorem vx_iastoreN (hexec : p.tables.exec = Jvm.exec) (hb : c.code = cc) {x : Int32} {i : Int32} (hdg : decode cc pc = .ok (.iastore, 1)) (k : vx_NoteN p l e R s m args below meth c H locs cells slots Q (F0 m pc ls rest)) : W p l e R s m args below meth c H locs cells slots Q (F0 m pc ls (.int x :: .int i :: .null :: rest)) := by
  intro T hT X
  obtain ⟨t, st, q⟩ := k T hT X
  exact ⟨t, X.iastoreNull hexec (g := F0 m pc ls (.int x :: .int i :: .null :: rest)) rfl (rest := rest) rfl (by rw [hb]; exact hdg) t st, q⟩
theorem vx_lastoreN (hexec : p.tables.exec = Jvm.exec) (hb : c.code = cc) {x : Int64} {i : Int32} (hdg : decode cc pc = .ok (.lastore, 1)) (k : vx_NoteN p l e R s m args below meth c H locs cells slots Q (F0 m pc ls rest)) : W p l e R s m args below meth c H locs cells slots Q (F0 m pc ls (.long x :: .int i :: .null :: rest)) := by
  intro T hT X
  obtain ⟨t, st, q⟩ := k T hT X
  exact ⟨t, X.lastoreNull hexec (g := F0 m pc ls (.long x :: .int i :: .null :: rest)) rfl (rest := rest) rfl (by rw [hb]; exact hdg) t st, q⟩
theorem vx_fastoreN (hexec : p.tables.exec = Jvm.exec) (hb : c.code = cc) {x : UInt32} {i : Int32} (hdg : decode cc pc = .ok (.fastore, 1)) (k : vx_NoteN p l e R s m args below meth c H locs cells slots Q (F0 m pc ls rest)) : W p l e R s m args below meth c H locs cells slots Q (F0 m pc ls (.float x :: .int i :: .null :: rest)) := by
  intro T hT X
  obtain ⟨t, st, q⟩ := k T hT X
  exact ⟨t, X.fastoreNull hexec (g := F0 m pc ls (.float x :: .int i :: .null :: rest)) rfl (rest := rest) rfl (by rw [hb]; exact hdg) t st, q⟩
theorem vx_dastoreN (hexec : p.tables.exec = Jvm.exec) (hb : c.code = cc) {x : UInt64} {i : Int32} (hdg : decode cc pc = .ok (.dastore, 1)) (k : vx_NoteN p l e R s m args below meth c H locs cells slots Q (F0 m pc ls rest)) : W p l e R s m args below meth c H locs cells slots Q (F0 m pc ls (.double x :: .int i :: .null :: rest)) := by
  intro T hT X
  obtain ⟨t, st, q⟩ := k T hT X
  exact ⟨t, X.dastoreNull hexec (g := F0 m pc ls (.double x :: .int i :: .null :: rest)) rfl (rest := rest) rfl (by rw [hb]; exact hdg) t st, q⟩
theorem vx_bastoreN (hexec : p.tables.exec = Jvm.exec) (hb : c.code = cc) {x : Int32} {i : Int32} (hdg : decode cc pc = .ok (.bastore, 1)) (k : vx_NoteN p l e R s m args below meth c H locs cells slots Q (F0 m pc ls rest)) : W p l e R s m args below meth c H locs cells slots Q (F0 m pc ls (.int x :: .int i :: .null :: rest)) := by
  intro T hT X
  obtain ⟨t, st, q⟩ := k T hT X
  exact ⟨t, X.bastoreNull hexec (g := F0 m pc ls (.int x :: .int i :: .null :: rest)) rfl (rest := rest) rfl (by rw [hb]; exact hdg) t st, q⟩
theorem vx_castoreN (hexec : p.tables.exec = Jvm.exec) (hb : c.code = cc) {x : Int32} {i : Int32} (hdg : decode cc pc = .ok (.castore, 1)) (k : vx_NoteN p l e R s m args below meth c H locs cells slots Q (F0 m pc ls rest)) : W p l e R s m args below meth c H locs cells slots Q (F0 m pc ls (.int x :: .int i :: .null :: rest)) := by
  intro T hT X
  obtain ⟨t, st, q⟩ := k T hT X
  exact ⟨t, X.castoreNull hexec (g := F0 m pc ls (.int x :: .int i :: .null :: rest)) rfl (rest := rest) rfl (by rw [hb]; exact hdg) t st, q⟩
theorem vx_sastoreN (hexec : p.tables.exec = Jvm.exec) (hb : c.code = cc) {x : Int32} {i : Int32} (hdg : decode cc pc = .ok (.sastore, 1)) (k : vx_NoteN p l e R s m args below meth c H locs cells slots Q (F0 m pc ls rest)) : W p l e R s m args below meth c H locs cells slots Q (F0 m pc ls (.int x :: .int i :: .null :: rest)) := by
  intro T hT X
  obtain ⟨t, st, q⟩ := k T hT X
  exact ⟨t, X.sastoreNull hexec (g := F0 m pc ls (.int x :: .int i :: .null :: rest)) rfl (rest := rest) rfl (by rw [hb]; exact hdg) t st, q⟩
theorem vx_invokeN {own C : String} {index maxL : Nat} {y : MethodName} {bytes : ByteArray} {ret : Option FieldType} (hexec : p.tables.exec = Jvm.exec) (hb : c.code = cc) (hown : s.vm.findClass own = some m.cls) (hlink : (Cond.methodLink own index y).before args s = true) (hinst : (Cond.instanceMethod y).before args s = true) (hcode : (Cond.code y bytes maxL ret).before args s = true) (hsel : (Cond.selects C y y).before args s = true)
    (hx : y.cls ≠ "java/lang/invoke/MethodHandle" ∧ y.cls ≠ "java/lang/invoke/VarHandle") {As : List Value} (hlen : (parseMethodDescriptor y.desc).map (fun d => d.parameters.length) = some As.length) (hdg : decode cc pc = .ok (.invokevirtual index, 3))
    (k : vx_NoteN p l e R s m args below meth c H locs cells slots Q (F0 m pc ls rest)) {st0 : List Value} (hst : st0 = As.reverse ++ .null :: rest) : W p l e R s m args below meth c H locs cells slots Q (F0 m pc ls st0) := by
  intro T hT X
  obtain ⟨r0, r, hn, hrm, hstR, hsigR⟩ := va_Decl.of hinst hcode
  obtain ⟨c2, r2, m2, q1, q2, q3, q4, kP, hkP, hkPi⟩ := Cond.selects_spec hsel
  cases hn.symm.trans q3
  have hl9 : As.length = r.sig.parameters.length := by
    rw [hsigR] at hlen
    exact (Option.some.inj hlen).symm
  obtain ⟨vm', X1, st1⟩ := X.invokevirtualNull hexec hown hlink hn hrm hstR hkP hkPi hx (g := F0 m pc ls st0) rfl (argsL := As) (rest := rest) hl9 hst (by rw [hb]; exact hdg)
  obtain ⟨t, st, q⟩ := k (T.setVm vm') hT X1
  exact ⟨t, st1 t st, q⟩
theorem vx_newarrayZ {atype : ArrayType} (hexec : p.tables.exec = Jvm.exec) (hb : c.code = cc) {n : Int32} (h0 : n < 0) (hdg : decode cc pc = .ok (.newarray atype, 2)) (k : ∀ tx : String, tx = toString n → vx_Note p l e R s m args below meth c H locs cells slots Q (F0 m pc ls rest) "java/lang/NegativeArraySizeException" tx) : W p l e R s m args below meth c H locs cells slots Q (F0 m pc ls (.int n :: rest)) := by
  intro T hT X
  obtain ⟨t, st, q⟩ := k _ rfl T hT X
  exact ⟨t, X.newarrayNegative hexec (g := F0 m pc ls (.int n :: rest)) rfl h0 (rest := rest) rfl (by rw [hb]; exact hdg) t st, q⟩
end
end VXM
/-! ===== END ===== -/
end
section
/-! ===== BEGIN printed: names, fields, word lists, decode rows ===== -/
def RX0 : String := "StreetNamer$Door"
def TX0 : u_T := fun k => match k with
  | 0 => ("StreetNamer$Door", "number", "I", true)
  | 1 => ("StreetNamer$Door", "first", "LStreetNamer$Place;", false)
  | 2 => ("StreetNamer$Door", "second", "LStreetNamer$Place;", false)
  | 3 => ("StreetNamer$Door", "isGone", "Z", false)
  | _ => ("StreetNamer$Door", "leadsTo", "LStreetNamer$Door;", false)
def tyX0 : Nat → FieldType := fun k => match k with
  | 0 => .int
  | 1 => .object "StreetNamer$Place"
  | 2 => .object "StreetNamer$Place"
  | 3 => .boolean
  | _ => .object "StreetNamer$Door"
abbrev wsX00 : List Cond := u_ws RX0 TX0 5
theorem nmX0 : ∀ a, a < 5 → ∀ b, b < 5 → a ≠ b → (TX0 a).2.1 ≠ (TX0 b).2.1 := by decide +kernel
theorem tyX0_ok : ∀ k, k < 5 → parseFieldDescriptor (TX0 k).2.2.1 = some (tyX0 k) := by decide +kernel
abbrev cX0_init : ByteArray := prog_2_method_1_code
def yX0_init : MethodName := ⟨RX0, "<init>", "(ILStreetNamer$Place;)V"⟩
abbrev cX0_placeOn : ByteArray := prog_2_method_2_code
def yX0_placeOn : MethodName := ⟨RX0, "placeOn", "(LStreetNamer$Street;)LStreetNamer$Place;"⟩
abbrev cX0_hasAddress : ByteArray := prog_2_method_3_code
def yX0_hasAddress : MethodName := ⟨RX0, "hasAddress", "(JI)Z"⟩
abbrev cX0_hasAddressesAll : ByteArray := prog_2_method_4_code
def yX0_hasAddressesAll : MethodName := ⟨RX0, "hasAddressesAll", "()Z"⟩
abbrev cX0_losePlaceOn : ByteArray := prog_2_method_5_code
def yX0_losePlaceOn : MethodName := ⟨RX0, "losePlaceOn", "(LStreetNamer$Street;)V"⟩
def RX1 : String := "StreetNamer$Ledger"
def TX1 : u_T := fun k => match k with
  | 0 => ("StreetNamer$Ledger", "keys", "[I", true)
  | 1 => ("StreetNamer$Ledger", "lefts", "[Z", true)
  | 2 => ("StreetNamer$Ledger", "codes", "[I", true)
  | 3 => ("StreetNamer$Ledger", "way", "C", false)
  | 4 => ("StreetNamer$Ledger", "isBack", "Z", false)
  | 5 => ("StreetNamer$Ledger", "length", "I", false)
  | _ => ("StreetNamer$Ledger", "greatest", "I", false)
def tyX1 : Nat → FieldType := fun k => match k with
  | 0 => .array .int
  | 1 => .array .boolean
  | 2 => .array .int
  | 3 => .char
  | 4 => .boolean
  | 5 => .int
  | _ => .int
abbrev wsX10 : List Cond := u_ws RX1 TX1 7
theorem nmX1 : ∀ a, a < 7 → ∀ b, b < 7 → a ≠ b → (TX1 a).2.1 ≠ (TX1 b).2.1 := by decide +kernel
theorem tyX1_ok : ∀ k, k < 7 → parseFieldDescriptor (TX1 k).2.2.1 = some (tyX1 k) := by decide +kernel
abbrev cX1_init : ByteArray := prog_3_method_1_code
def yX1_init : MethodName := ⟨RX1, "<init>", "()V"⟩
abbrev cX1_open : ByteArray := prog_3_method_2_code
def yX1_open : MethodName := ⟨RX1, "open", "(LStreetNamer$Street;II)V"⟩
abbrev cX1_enter : ByteArray := prog_3_method_3_code
def yX1_enter : MethodName := ⟨RX1, "enter", "(IIZI)V"⟩
abbrev cX1_codeOf : ByteArray := prog_3_method_4_code
def yX1_codeOf : MethodName := ⟨RX1, "codeOf", "(I)I"⟩
abbrev cX1_codeFor : ByteArray := prog_3_method_5_code
def yX1_codeFor : MethodName := ⟨RX1, "codeFor", "(IIZ)I"⟩
abbrev cX1_codeByMetres : ByteArray := prog_3_method_6_code
def yX1_codeByMetres : MethodName := ⟨RX1, "codeByMetres", "(IZ)I"⟩
abbrev cX1_codeBySteps : ByteArray := prog_3_method_7_code
def yX1_codeBySteps : MethodName := ⟨RX1, "codeBySteps", "(IZ)I"⟩
abbrev cX1_leastFree : ByteArray := prog_3_method_8_code
def yX1_leastFree : MethodName := ⟨RX1, "leastFree", "(IIZ)I"⟩
abbrev cX1_codeWithLetter : ByteArray := prog_3_method_9_code
def yX1_codeWithLetter : MethodName := ⟨RX1, "codeWithLetter", "(I)I"⟩
abbrev cX1_numberBefore : ByteArray := prog_3_method_10_code
def yX1_numberBefore : MethodName := ⟨RX1, "numberBefore", "(IZ)I"⟩
abbrev cX1_numberAfter : ByteArray := prog_3_method_11_code
def yX1_numberAfter : MethodName := ⟨RX1, "numberAfter", "(IZ)I"⟩
abbrev cX1_isGiven : ByteArray := prog_3_method_12_code
def yX1_isGiven : MethodName := ⟨RX1, "isGiven", "(I)Z"⟩
abbrev cX1_isNumberGiven : ByteArray := prog_3_method_13_code
def yX1_isNumberGiven : MethodName := ⟨RX1, "isNumberGiven", "(I)Z"⟩
abbrev cX1_pairsAgainstOrder : ByteArray := prog_3_method_14_code
def yX1_pairsAgainstOrder : MethodName := ⟨RX1, "pairsAgainstOrder", "()I"⟩
abbrev cX1_hasTwins : ByteArray := prog_3_method_15_code
def yX1_hasTwins : MethodName := ⟨RX1, "hasTwins", "()Z"⟩
abbrev cX1_metresOn : ByteArray := prog_3_method_16_code
def yX1_metresOn : MethodName := ⟨RX1, "metresOn", "(I)I"⟩
abbrev cX1_keyOf : ByteArray := prog_3_method_17_code
def yX1_keyOf : MethodName := ⟨RX1, "keyOf", "(II)I"⟩
abbrev cX1_isRow : ByteArray := prog_3_method_18_code
def yX1_isRow : MethodName := ⟨RX1, "isRow", "(I)Z"⟩
def RX2 : String := "StreetNamer$Names"
def TX2 : u_T := fun k => match k with
  | _ => ("", "", "", false)
def tyX2 : Nat → FieldType := fun k => match k with
  | _ => .int
abbrev wsX20 : List Cond := u_ws RX2 TX2 0
theorem nmX2 : ∀ a, a < 0 → ∀ b, b < 0 → a ≠ b → (TX2 a).2.1 ≠ (TX2 b).2.1 := by decide +kernel
theorem tyX2_ok : ∀ k, k < 0 → parseFieldDescriptor (TX2 k).2.2.1 = some (tyX2 k) := by decide +kernel
abbrev cX2_longer : ByteArray := prog_4_method_2_code
def yX2_longer : MethodName := ⟨RX2, "longer", "(JC)J"⟩
abbrev cX2_lengthOf : ByteArray := prog_4_method_3_code
def yX2_lengthOf : MethodName := ⟨RX2, "lengthOf", "(J)I"⟩
abbrev cX2_letterOf : ByteArray := prog_4_method_4_code
def yX2_letterOf : MethodName := ⟨RX2, "letterOf", "(JI)C"⟩
def RX3 : String := "StreetNamer$OldAddresses"
def TX3 : u_T := fun k => match k with
  | 0 => ("StreetNamer$OldAddresses", "names", "[J", true)
  | 1 => ("StreetNamer$OldAddresses", "codes", "[I", true)
  | 2 => ("StreetNamer$OldAddresses", "doors", "[I", true)
  | 3 => ("StreetNamer$OldAddresses", "days", "[I", true)
  | 4 => ("StreetNamer$OldAddresses", "count", "I", false)
  | _ => ("StreetNamer$OldAddresses", "nextRow", "I", false)
def tyX3 : Nat → FieldType := fun k => match k with
  | 0 => .array .long
  | 1 => .array .int
  | 2 => .array .int
  | 3 => .array .int
  | 4 => .int
  | _ => .int
abbrev wsX30 : List Cond := u_ws RX3 TX3 6
theorem nmX3 : ∀ a, a < 6 → ∀ b, b < 6 → a ≠ b → (TX3 a).2.1 ≠ (TX3 b).2.1 := by decide +kernel
theorem tyX3_ok : ∀ k, k < 6 → parseFieldDescriptor (TX3 k).2.2.1 = some (tyX3 k) := by decide +kernel
abbrev cX3_init : ByteArray := prog_5_method_1_code
def yX3_init : MethodName := ⟨RX3, "<init>", "()V"⟩
abbrev cX3_keep : ByteArray := prog_5_method_2_code
def yX3_keep : MethodName := ⟨RX3, "keep", "(JIII)V"⟩
abbrev cX3_newest : ByteArray := prog_5_method_3_code
def yX3_newest : MethodName := ⟨RX3, "newest", "(JI)I"⟩
abbrev cX3_doorIn : ByteArray := prog_5_method_4_code
def yX3_doorIn : MethodName := ⟨RX3, "doorIn", "(I)I"⟩
abbrev cX3_dayIn : ByteArray := prog_5_method_5_code
def yX3_dayIn : MethodName := ⟨RX3, "dayIn", "(I)I"⟩
abbrev cX3_isRow : ByteArray := prog_5_method_6_code
def yX3_isRow : MethodName := ⟨RX3, "isRow", "(I)Z"⟩
def RX4 : String := "StreetNamer$Order"
def TX4 : u_T := fun k => match k with
  | 0 => ("StreetNamer$Order", "keys", "[I", true)
  | _ => ("StreetNamer$Order", "count", "I", false)
def tyX4 : Nat → FieldType := fun k => match k with
  | 0 => .array .int
  | _ => .int
abbrev wsX40 : List Cond := u_ws RX4 TX4 2
theorem nmX4 : ∀ a, a < 2 → ∀ b, b < 2 → a ≠ b → (TX4 a).2.1 ≠ (TX4 b).2.1 := by decide +kernel
theorem tyX4_ok : ∀ k, k < 2 → parseFieldDescriptor (TX4 k).2.2.1 = some (tyX4 k) := by decide +kernel
abbrev cX4_init : ByteArray := prog_6_method_1_code
def yX4_init : MethodName := ⟨RX4, "<init>", "()V"⟩
abbrev cX4_clear : ByteArray := prog_6_method_2_code
def yX4_clear : MethodName := ⟨RX4, "clear", "()V"⟩
abbrev cX4_put : ByteArray := prog_6_method_3_code
def yX4_put : MethodName := ⟨RX4, "put", "(II)V"⟩
abbrev cX4_doorIn : ByteArray := prog_6_method_4_code
def yX4_doorIn : MethodName := ⟨RX4, "doorIn", "(I)I"⟩
def RX5 : String := "StreetNamer$Place"
def TX5 : u_T := fun k => match k with
  | 0 => ("StreetNamer$Place", "door", "I", true)
  | 1 => ("StreetNamer$Place", "street", "LStreetNamer$Street;", false)
  | 2 => ("StreetNamer$Place", "metre", "I", false)
  | 3 => ("StreetNamer$Place", "isLeft", "Z", true)
  | _ => ("StreetNamer$Place", "code", "I", false)
def tyX5 : Nat → FieldType := fun k => match k with
  | 0 => .int
  | 1 => .object "StreetNamer$Street"
  | 2 => .int
  | 3 => .boolean
  | _ => .int
abbrev wsX50 : List Cond := u_ws RX5 TX5 5
theorem nmX5 : ∀ a, a < 5 → ∀ b, b < 5 → a ≠ b → (TX5 a).2.1 ≠ (TX5 b).2.1 := by decide +kernel
theorem tyX5_ok : ∀ k, k < 5 → parseFieldDescriptor (TX5 k).2.2.1 = some (tyX5 k) := by decide +kernel
abbrev cX5_init : ByteArray := prog_7_method_1_code
def yX5_init : MethodName := ⟨RX5, "<init>", "(ILStreetNamer$Street;IZI)V"⟩
abbrev cX5_isAddress : ByteArray := prog_7_method_2_code
def yX5_isAddress : MethodName := ⟨RX5, "isAddress", "(JI)Z"⟩
def RX6 : String := "StreetNamer$Street"
def TX6 : u_T := fun k => match k with
  | 0 => ("StreetNamer$Street", "number", "I", true)
  | 1 => ("StreetNamer$Street", "firstName", "J", false)
  | 2 => ("StreetNamer$Street", "secondName", "J", false)
  | 3 => ("StreetNamer$Street", "length", "I", false)
  | 4 => ("StreetNamer$Street", "way", "C", false)
  | 5 => ("StreetNamer$Street", "isBack", "Z", false)
  | 6 => ("StreetNamer$Street", "isGone", "Z", false)
  | _ => ("StreetNamer$Street", "greatest", "I", false)
def tyX6 : Nat → FieldType := fun k => match k with
  | 0 => .int
  | 1 => .long
  | 2 => .long
  | 3 => .int
  | 4 => .char
  | 5 => .boolean
  | 6 => .boolean
  | _ => .int
abbrev wsX60 : List Cond := u_ws RX6 TX6 8
theorem nmX6 : ∀ a, a < 8 → ∀ b, b < 8 → a ≠ b → (TX6 a).2.1 ≠ (TX6 b).2.1 := by decide +kernel
theorem tyX6_ok : ∀ k, k < 8 → parseFieldDescriptor (TX6 k).2.2.1 = some (tyX6 k) := by decide +kernel
abbrev cX6_init : ByteArray := prog_8_method_1_code
def yX6_init : MethodName := ⟨RX6, "<init>", "(IJICZ)V"⟩
abbrev cX6_hasName : ByteArray := prog_8_method_2_code
def yX6_hasName : MethodName := ⟨RX6, "hasName", "(J)Z"⟩
abbrev cX6_farness : ByteArray := prog_8_method_3_code
def yX6_farness : MethodName := ⟨RX6, "farness", "(I)I"⟩
abbrev cX6_notice : ByteArray := prog_8_method_4_code
def yX6_notice : MethodName := ⟨RX6, "notice", "(I)V"⟩
def RX7 : String := "StreetNamer"
def TX7 : u_T := fun k => match k with
  | 0 => ("StreetNamer", "allStreets", "[LStreetNamer$Street;", true)
  | 1 => ("StreetNamer", "allDoors", "[LStreetNamer$Door;", true)
  | 2 => ("StreetNamer", "oldAddresses", "LStreetNamer$OldAddresses;", true)
  | 3 => ("StreetNamer", "ledger", "LStreetNamer$Ledger;", true)
  | 4 => ("StreetNamer", "order", "LStreetNamer$Order;", true)
  | 5 => ("StreetNamer", "streetCount", "I", false)
  | 6 => ("StreetNamer", "doorCount", "I", false)
  | 7 => ("StreetNamer", "typed", "J", false)
  | _ => ("StreetNamer", "today", "I", false)
def tyX7 : Nat → FieldType := fun k => match k with
  | 0 => .array (.object "StreetNamer$Street")
  | 1 => .array (.object "StreetNamer$Door")
  | 2 => .object "StreetNamer$OldAddresses"
  | 3 => .object "StreetNamer$Ledger"
  | 4 => .object "StreetNamer$Order"
  | 5 => .int
  | 6 => .int
  | 7 => .long
  | _ => .int
abbrev wsX70 : List Cond := u_ws RX7 TX7 9
theorem nmX7 : ∀ a, a < 9 → ∀ b, b < 9 → a ≠ b → (TX7 a).2.1 ≠ (TX7 b).2.1 := by decide +kernel
theorem tyX7_ok : ∀ k, k < 9 → parseFieldDescriptor (TX7 k).2.2.1 = some (tyX7 k) := by decide +kernel
abbrev cX7_init : ByteArray := prog_1_method_1_code
def yX7_init : MethodName := ⟨RX7, "<init>", "()V"⟩
abbrev cX7_type : ByteArray := prog_1_method_2_code
def yX7_type : MethodName := ⟨RX7, "type", "(C)I"⟩
abbrev cX7_wipe : ByteArray := prog_1_method_3_code
def yX7_wipe : MethodName := ⟨RX7, "wipe", "()I"⟩
abbrev cX7_rename : ByteArray := prog_1_method_4_code
def yX7_rename : MethodName := ⟨RX7, "rename", "(I)I"⟩
abbrev cX7_translate : ByteArray := prog_1_method_5_code
def yX7_translate : MethodName := ⟨RX7, "translate", "(I)I"⟩
abbrev cX7_letter : ByteArray := prog_1_method_6_code
def yX7_letter : MethodName := ⟨RX7, "letter", "(IZI)C"⟩
abbrev cX7_street : ByteArray := prog_1_method_7_code
def yX7_street : MethodName := ⟨RX7, "street", "(ICZ)I"⟩
abbrev cX7_way : ByteArray := prog_1_method_8_code
def yX7_way : MethodName := ⟨RX7, "way", "(ICZ)C"⟩
abbrev cX7_renumber : ByteArray := prog_1_method_9_code
def yX7_renumber : MethodName := ⟨RX7, "renumber", "(I)I"⟩
abbrev cX7_join : ByteArray := prog_1_method_10_code
def yX7_join : MethodName := ⟨RX7, "join", "(II)I"⟩
abbrev cX7_streets : ByteArray := prog_1_method_11_code
def yX7_streets : MethodName := ⟨RX7, "streets", "()I"⟩
abbrev cX7_door : ByteArray := prog_1_method_12_code
def yX7_door : MethodName := ⟨RX7, "door", "(IIC)I"⟩
abbrev cX7_corner : ByteArray := prog_1_method_13_code
def yX7_corner : MethodName := ⟨RX7, "corner", "(IIIC)I"⟩
abbrev cX7_merge : ByteArray := prog_1_method_14_code
def yX7_merge : MethodName := ⟨RX7, "merge", "(II)I"⟩
abbrev cX7_remove : ByteArray := prog_1_method_15_code
def yX7_remove : MethodName := ⟨RX7, "remove", "(I)I"⟩
abbrev cX7_address : ByteArray := prog_1_method_16_code
def yX7_address : MethodName := ⟨RX7, "address", "(IZ)I"⟩
abbrev cX7_streetOf : ByteArray := prog_1_method_17_code
def yX7_streetOf : MethodName := ⟨RX7, "streetOf", "(IZ)I"⟩
abbrev cX7_isGone : ByteArray := prog_1_method_18_code
def yX7_isGone : MethodName := ⟨RX7, "isGone", "(I)Z"⟩
abbrev cX7_doors : ByteArray := prog_1_method_19_code
def yX7_doors : MethodName := ⟨RX7, "doors", "(I)I"⟩
abbrev cX7_day : ByteArray := prog_1_method_20_code
def yX7_day : MethodName := ⟨RX7, "day", "(I)I"⟩
abbrev cX7_find : ByteArray := prog_1_method_21_code
def yX7_find : MethodName := ⟨RX7, "find", "(I)I"⟩
abbrev cX7_send : ByteArray := prog_1_method_22_code
def yX7_send : MethodName := ⟨RX7, "send", "(I)I"⟩
abbrev cX7_until : ByteArray := prog_1_method_23_code
def yX7_until : MethodName := ⟨RX7, "until", "(I)I"⟩
abbrev cX7_olds : ByteArray := prog_1_method_24_code
def yX7_olds : MethodName := ⟨RX7, "olds", "()I"⟩
abbrev cX7_walk : ByteArray := prog_1_method_25_code
def yX7_walk : MethodName := ⟨RX7, "walk", "(II)I"⟩
abbrev cX7_steps : ByteArray := prog_1_method_26_code
def yX7_steps : MethodName := ⟨RX7, "steps", "(I)I"⟩
abbrev cX7_clashes : ByteArray := prog_1_method_27_code
def yX7_clashes : MethodName := ⟨RX7, "clashes", "(I)I"⟩
abbrev cX7_goneShare : ByteArray := prog_1_method_28_code
def yX7_goneShare : MethodName := ⟨RX7, "goneShare", "()F"⟩
abbrev cX7_meanDoors : ByteArray := prog_1_method_29_code
def yX7_meanDoors : MethodName := ⟨RX7, "meanDoors", "()D"⟩
abbrev cX7_checksum : ByteArray := prog_1_method_30_code
def yX7_checksum : MethodName := ⟨RX7, "checksum", "()J"⟩
abbrev cX7_isTrue : ByteArray := prog_1_method_31_code
def yX7_isTrue : MethodName := ⟨RX7, "isTrue", "()Z"⟩
abbrev cX7_isWay : ByteArray := prog_1_method_32_code
def yX7_isWay : MethodName := ⟨RX7, "isWay", "(C)Z"⟩
abbrev cX7_isPlace : ByteArray := prog_1_method_33_code
def yX7_isPlace : MethodName := ⟨RX7, "isPlace", "(LStreetNamer$Street;IC)Z"⟩
abbrev cX7_isStanding : ByteArray := prog_1_method_34_code
def yX7_isStanding : MethodName := ⟨RX7, "isStanding", "(LStreetNamer$Street;)Z"⟩
abbrev cX7_standing : ByteArray := prog_1_method_35_code
def yX7_standing : MethodName := ⟨RX7, "standing", "(I)LStreetNamer$Street;"⟩
abbrev cX7_doorAt : ByteArray := prog_1_method_36_code
def yX7_doorAt : MethodName := ⟨RX7, "doorAt", "(I)LStreetNamer$Door;"⟩
abbrev cX7_known : ByteArray := prog_1_method_37_code
def yX7_known : MethodName := ⟨RX7, "known", "(I)LStreetNamer$Door;"⟩
abbrev cX7_isInUse : ByteArray := prog_1_method_38_code
def yX7_isInUse : MethodName := ⟨RX7, "isInUse", "(J)Z"⟩
abbrev cX7_placeOf : ByteArray := prog_1_method_39_code
def yX7_placeOf : MethodName := ⟨RX7, "placeOf", "(LStreetNamer$Door;LStreetNamer$Street;)LStreetNamer$Place;"⟩
abbrev cX7_doorsOn : ByteArray := prog_1_method_40_code
def yX7_doorsOn : MethodName := ⟨RX7, "doorsOn", "(LStreetNamer$Street;)I"⟩
abbrev cX7_doorNow : ByteArray := prog_1_method_41_code
def yX7_doorNow : MethodName := ⟨RX7, "doorNow", "(JI)LStreetNamer$Door;"⟩
abbrev cX7_endOf : ByteArray := prog_1_method_42_code
def yX7_endOf : MethodName := ⟨RX7, "endOf", "(LStreetNamer$Door;)LStreetNamer$Door;"⟩
abbrev cX7_leadingTo : ByteArray := prog_1_method_43_code
def yX7_leadingTo : MethodName := ⟨RX7, "leadingTo", "(LStreetNamer$Door;)I"⟩
abbrev cX7_remember : ByteArray := prog_1_method_44_code
def yX7_remember : MethodName := ⟨RX7, "remember", "(JLStreetNamer$Place;)V"⟩
abbrev cX7_rememberBoth : ByteArray := prog_1_method_45_code
def yX7_rememberBoth : MethodName := ⟨RX7, "rememberBoth", "(LStreetNamer$Place;)V"⟩
abbrev cX7_rememberAll : ByteArray := prog_1_method_46_code
def yX7_rememberAll : MethodName := ⟨RX7, "rememberAll", "(LStreetNamer$Street;J)V"⟩
abbrev cX7_rememberAll_ : ByteArray := prog_1_method_47_code
def yX7_rememberAll_ : MethodName := ⟨RX7, "rememberAll", "(LStreetNamer$Street;)V"⟩
abbrev cX7_letGo : ByteArray := prog_1_method_48_code
def yX7_letGo : MethodName := ⟨RX7, "letGo", "(LStreetNamer$Door;)V"⟩
abbrev cX7_arrival : ByteArray := prog_1_method_49_code
def yX7_arrival : MethodName := ⟨RX7, "arrival", "(ILStreetNamer$Street;IC)LStreetNamer$Place;"⟩
abbrev cX7_openLedger : ByteArray := prog_1_method_50_code
def yX7_openLedger : MethodName := ⟨RX7, "openLedger", "(LStreetNamer$Street;I)V"⟩
abbrev cX7_enterInOrder : ByteArray := prog_1_method_51_code
def yX7_enterInOrder : MethodName := ⟨RX7, "enterInOrder", "(LStreetNamer$Street;I)Z"⟩
abbrev cX7_takeNewCodes : ByteArray := prog_1_method_52_code
def yX7_takeNewCodes : MethodName := ⟨RX7, "takeNewCodes", "(LStreetNamer$Street;)I"⟩
abbrev cX7_moveDoors : ByteArray := prog_1_method_53_code
def yX7_moveDoors : MethodName := ⟨RX7, "moveDoors", "(LStreetNamer$Street;LStreetNamer$Street;)V"⟩
abbrev cX7_orderForRenumbering : ByteArray := prog_1_method_54_code
def yX7_orderForRenumbering : MethodName := ⟨RX7, "orderForRenumbering", "(LStreetNamer$Street;)V"⟩
abbrev cX7_orderForJoining : ByteArray := prog_1_method_55_code
def yX7_orderForJoining : MethodName := ⟨RX7, "orderForJoining", "(LStreetNamer$Street;LStreetNamer$Street;)V"⟩
abbrev cX7_orderForWalking : ByteArray := prog_1_method_56_code
def yX7_orderForWalking : MethodName := ⟨RX7, "orderForWalking", "(LStreetNamer$Street;)V"⟩
abbrev cX7_areAddressesSingle : ByteArray := prog_1_method_57_code
def yX7_areAddressesSingle : MethodName := ⟨RX7, "areAddressesSingle", "()Z"⟩
abbrev cX7_areAddressesThere : ByteArray := prog_1_method_58_code
def yX7_areAddressesThere : MethodName := ⟨RX7, "areAddressesThere", "()Z"⟩
abbrev cX7_areNamesSingle : ByteArray := prog_1_method_59_code
def yX7_areNamesSingle : MethodName := ⟨RX7, "areNamesSingle", "()Z"⟩
abbrev cX7_isTakenByOther : ByteArray := prog_1_method_60_code
def yX7_isTakenByOther : MethodName := ⟨RX7, "isTakenByOther", "(LStreetNamer$Street;)Z"⟩
abbrev cX7_areLeadsEnding : ByteArray := prog_1_method_61_code
def yX7_areLeadsEnding : MethodName := ⟨RX7, "areLeadsEnding", "()Z"⟩
def RX8 : String := "StreetNamerModel"
def TX8 : u_T := fun k => match k with
  | 0 => ("StreetNamerModel", "name", "[J", true)
  | 1 => ("StreetNamerModel", "second", "[J", true)
  | 2 => ("StreetNamerModel", "length", "[I", true)
  | 3 => ("StreetNamerModel", "way", "[C", true)
  | 4 => ("StreetNamerModel", "back", "[Z", true)
  | 5 => ("StreetNamerModel", "goneStreet", "[Z", true)
  | 6 => ("StreetNamerModel", "greatest", "[I", true)
  | 7 => ("StreetNamerModel", "streets", "I", false)
  | 8 => ("StreetNamerModel", "on", "[I", true)
  | 9 => ("StreetNamerModel", "metre", "[I", true)
  | 10 => ("StreetNamerModel", "side", "[C", true)
  | 11 => ("StreetNamerModel", "code", "[I", true)
  | 12 => ("StreetNamerModel", "goneDoor", "[Z", true)
  | 13 => ("StreetNamerModel", "leads", "[I", true)
  | 14 => ("StreetNamerModel", "doors", "I", false)
  | 15 => ("StreetNamerModel", "oldName", "[J", true)
  | 16 => ("StreetNamerModel", "oldCode", "[I", true)
  | 17 => ("StreetNamerModel", "oldDoor", "[I", true)
  | 18 => ("StreetNamerModel", "oldDay", "[I", true)
  | 19 => ("StreetNamerModel", "olds", "I", false)
  | 20 => ("StreetNamerModel", "wasOn", "[I", true)
  | 21 => ("StreetNamerModel", "wasMetre", "[I", true)
  | 22 => ("StreetNamerModel", "wasSide", "[C", true)
  | 23 => ("StreetNamerModel", "wasCode", "[I", true)
  | 24 => ("StreetNamerModel", "row", "[I", true)
  | 25 => ("StreetNamerModel", "rowed", "I", false)
  | 26 => ("StreetNamerModel", "typed", "J", false)
  | 27 => ("StreetNamerModel", "letters", "I", false)
  | 28 => ("StreetNamerModel", "day", "I", false)
  | _ => ("StreetNamerModel", "thrown", "I", false)
def tyX8 : Nat → FieldType := fun k => match k with
  | 0 => .array .long
  | 1 => .array .long
  | 2 => .array .int
  | 3 => .array .char
  | 4 => .array .boolean
  | 5 => .array .boolean
  | 6 => .array .int
  | 7 => .int
  | 8 => .array .int
  | 9 => .array .int
  | 10 => .array .char
  | 11 => .array .int
  | 12 => .array .boolean
  | 13 => .array .int
  | 14 => .int
  | 15 => .array .long
  | 16 => .array .int
  | 17 => .array .int
  | 18 => .array .int
  | 19 => .int
  | 20 => .array .int
  | 21 => .array .int
  | 22 => .array .char
  | 23 => .array .int
  | 24 => .array .int
  | 25 => .int
  | 26 => .long
  | 27 => .int
  | 28 => .int
  | _ => .int
abbrev wsX80 : List Cond := u_ws RX8 TX8 30
theorem nmX8 : ∀ a, a < 30 → ∀ b, b < 30 → a ≠ b → (TX8 a).2.1 ≠ (TX8 b).2.1 := by decide +kernel
theorem tyX8_ok : ∀ k, k < 30 → parseFieldDescriptor (TX8 k).2.2.1 = some (tyX8 k) := by decide +kernel
abbrev cX8_init : ByteArray := prog_10_method_1_code
def yX8_init : MethodName := ⟨RX8, "<init>", "()V"⟩
abbrev cX8_thrown : ByteArray := prog_10_method_2_code
def yX8_thrown : MethodName := ⟨RX8, "thrown", "()I"⟩
abbrev cX8_no : ByteArray := prog_10_method_3_code
def yX8_no : MethodName := ⟨RX8, "no", "(ZI)Z"⟩
abbrev cX8_isBetween : ByteArray := prog_10_method_4_code
def yX8_isBetween : MethodName := ⟨RX8, "isBetween", "(III)Z"⟩
abbrev cX8_isStreet : ByteArray := prog_10_method_5_code
def yX8_isStreet : MethodName := ⟨RX8, "isStreet", "(I)Z"⟩
abbrev cX8_isDoor : ByteArray := prog_10_method_6_code
def yX8_isDoor : MethodName := ⟨RX8, "isDoor", "(I)Z"⟩
abbrev cX8_isWay : ByteArray := prog_10_method_7_code
def yX8_isWay : MethodName := ⟨RX8, "isWay", "(C)Z"⟩
abbrev cX8_type : ByteArray := prog_10_method_8_code
def yX8_type : MethodName := ⟨RX8, "type", "(C)I"⟩
abbrev cX8_wipe : ByteArray := prog_10_method_9_code
def yX8_wipe : MethodName := ⟨RX8, "wipe", "()I"⟩
abbrev cX8_isUsed : ByteArray := prog_10_method_10_code
def yX8_isUsed : MethodName := ⟨RX8, "isUsed", "(J)Z"⟩
abbrev cX8_street : ByteArray := prog_10_method_11_code
def yX8_street : MethodName := ⟨RX8, "street", "(ICZ)I"⟩
abbrev cX8_old : ByteArray := prog_10_method_12_code
def yX8_old : MethodName := ⟨RX8, "old", "(JII)V"⟩
abbrev cX8_placeOn : ByteArray := prog_10_method_13_code
def yX8_placeOn : MethodName := ⟨RX8, "placeOn", "(II)I"⟩
abbrev cX8_nameGoes : ByteArray := prog_10_method_14_code
def yX8_nameGoes : MethodName := ⟨RX8, "nameGoes", "(IJ)V"⟩
abbrev cX8_rename : ByteArray := prog_10_method_15_code
def yX8_rename : MethodName := ⟨RX8, "rename", "(I)I"⟩
abbrev cX8_translate : ByteArray := prog_10_method_16_code
def yX8_translate : MethodName := ⟨RX8, "translate", "(I)I"⟩
abbrev cX8_letter : ByteArray := prog_10_method_17_code
def yX8_letter : MethodName := ⟨RX8, "letter", "(IZI)C"⟩
abbrev cX8_way : ByteArray := prog_10_method_18_code
def yX8_way : MethodName := ⟨RX8, "way", "(ICZ)C"⟩
abbrev cX8_from : ByteArray := prog_10_method_19_code
def yX8_from : MethodName := ⟨RX8, "from", "(II)I"⟩
abbrev cX8_isGiven : ByteArray := prog_10_method_20_code
def yX8_isGiven : MethodName := ⟨RX8, "isGiven", "(II)Z"⟩
abbrev cX8_isNumberGiven : ByteArray := prog_10_method_21_code
def yX8_isNumberGiven : MethodName := ⟨RX8, "isNumberGiven", "(II)Z"⟩
abbrev cX8_lettered : ByteArray := prog_10_method_22_code
def yX8_lettered : MethodName := ⟨RX8, "lettered", "(III)I"⟩
abbrev cX8_comes : ByteArray := prog_10_method_23_code
def yX8_comes : MethodName := ⟨RX8, "comes", "(IIIC)I"⟩
abbrev cX8_isFarther : ByteArray := prog_10_method_24_code
def yX8_isFarther : MethodName := ⟨RX8, "isFarther", "(III)Z"⟩
abbrev cX8_puts : ByteArray := prog_10_method_25_code
def yX8_puts : MethodName := ⟨RX8, "puts", "(IIICI)V"⟩
abbrev cX8_isPlace : ByteArray := prog_10_method_26_code
def yX8_isPlace : MethodName := ⟨RX8, "isPlace", "(IIC)Z"⟩
abbrev cX8_door : ByteArray := prog_10_method_27_code
def yX8_door : MethodName := ⟨RX8, "door", "(IIC)I"⟩
abbrev cX8_corner : ByteArray := prog_10_method_28_code
def yX8_corner : MethodName := ⟨RX8, "corner", "(IIIC)I"⟩
abbrev cX8_leaves : ByteArray := prog_10_method_29_code
def yX8_leaves : MethodName := ⟨RX8, "leaves", "(I)V"⟩
abbrev cX8_goes : ByteArray := prog_10_method_30_code
def yX8_goes : MethodName := ⟨RX8, "goes", "(II)V"⟩
abbrev cX8_endOf : ByteArray := prog_10_method_31_code
def yX8_endOf : MethodName := ⟨RX8, "endOf", "(I)I"⟩
abbrev cX8_merge : ByteArray := prog_10_method_32_code
def yX8_merge : MethodName := ⟨RX8, "merge", "(II)I"⟩
abbrev cX8_remove : ByteArray := prog_10_method_33_code
def yX8_remove : MethodName := ⟨RX8, "remove", "(I)I"⟩
abbrev cX8_keeps : ByteArray := prog_10_method_34_code
def yX8_keeps : MethodName := ⟨RX8, "keeps", "()V"⟩
abbrev cX8_givesBack : ByteArray := prog_10_method_35_code
def yX8_givesBack : MethodName := ⟨RX8, "givesBack", "()V"⟩
abbrev cX8_next : ByteArray := prog_10_method_36_code
def yX8_next : MethodName := ⟨RX8, "next", "(IZ)I"⟩
abbrev cX8_renumber : ByteArray := prog_10_method_37_code
def yX8_renumber : MethodName := ⟨RX8, "renumber", "(I)I"⟩
abbrev cX8_least : ByteArray := prog_10_method_38_code
def yX8_least : MethodName := ⟨RX8, "least", "(I)I"⟩
abbrev cX8_moves : ByteArray := prog_10_method_39_code
def yX8_moves : MethodName := ⟨RX8, "moves", "(III)Z"⟩
abbrev cX8_join : ByteArray := prog_10_method_40_code
def yX8_join : MethodName := ⟨RX8, "join", "(II)I"⟩
abbrev cX8_day : ByteArray := prog_10_method_41_code
def yX8_day : MethodName := ⟨RX8, "day", "(I)I"⟩
abbrev cX8_placeOf : ByteArray := prog_10_method_42_code
def yX8_placeOf : MethodName := ⟨RX8, "placeOf", "(IZ)I"⟩
abbrev cX8_address : ByteArray := prog_10_method_43_code
def yX8_address : MethodName := ⟨RX8, "address", "(IZ)I"⟩
abbrev cX8_streetOf : ByteArray := prog_10_method_44_code
def yX8_streetOf : MethodName := ⟨RX8, "streetOf", "(IZ)I"⟩
abbrev cX8_isGone : ByteArray := prog_10_method_45_code
def yX8_isGone : MethodName := ⟨RX8, "isGone", "(I)Z"⟩
abbrev cX8_now : ByteArray := prog_10_method_46_code
def yX8_now : MethodName := ⟨RX8, "now", "(I)I"⟩
abbrev cX8_latest : ByteArray := prog_10_method_47_code
def yX8_latest : MethodName := ⟨RX8, "latest", "(I)I"⟩
abbrev cX8_find : ByteArray := prog_10_method_48_code
def yX8_find : MethodName := ⟨RX8, "find", "(I)I"⟩
abbrev cX8_send : ByteArray := prog_10_method_49_code
def yX8_send : MethodName := ⟨RX8, "send", "(I)I"⟩
abbrev cX8_until : ByteArray := prog_10_method_50_code
def yX8_until : MethodName := ⟨RX8, "until", "(I)I"⟩
abbrev cX8_olds : ByteArray := prog_10_method_51_code
def yX8_olds : MethodName := ⟨RX8, "olds", "()I"⟩
abbrev cX8_doorsOf : ByteArray := prog_10_method_52_code
def yX8_doorsOf : MethodName := ⟨RX8, "doorsOf", "(I)I"⟩
abbrev cX8_doors : ByteArray := prog_10_method_53_code
def yX8_doors : MethodName := ⟨RX8, "doors", "(I)I"⟩
abbrev cX8_isAhead : ByteArray := prog_10_method_54_code
def yX8_isAhead : MethodName := ⟨RX8, "isAhead", "(II)Z"⟩
abbrev cX8_walks : ByteArray := prog_10_method_55_code
def yX8_walks : MethodName := ⟨RX8, "walks", "(I)V"⟩
abbrev cX8_walk : ByteArray := prog_10_method_56_code
def yX8_walk : MethodName := ⟨RX8, "walk", "(II)I"⟩
abbrev cX8_steps : ByteArray := prog_10_method_57_code
def yX8_steps : MethodName := ⟨RX8, "steps", "(I)I"⟩
abbrev cX8_clashes : ByteArray := prog_10_method_58_code
def yX8_clashes : MethodName := ⟨RX8, "clashes", "(I)I"⟩
abbrev cX8_streets : ByteArray := prog_10_method_59_code
def yX8_streets : MethodName := ⟨RX8, "streets", "()I"⟩
abbrev cX8_goneShare : ByteArray := prog_10_method_60_code
def yX8_goneShare : MethodName := ⟨RX8, "goneShare", "()F"⟩
abbrev cX8_meanDoors : ByteArray := prog_10_method_61_code
def yX8_meanDoors : MethodName := ⟨RX8, "meanDoors", "()D"⟩
abbrev cX8_checksum : ByteArray := prog_10_method_62_code
def yX8_checksum : MethodName := ⟨RX8, "checksum", "()J"⟩
abbrev cX8_isTrue : ByteArray := prog_10_method_63_code
def yX8_isTrue : MethodName := ⟨RX8, "isTrue", "()Z"⟩
def RJx145de : String := "java/io/Serializable"
def TJx145de : u_T := fun k => match k with
  | _ => ("", "", "", false)
def tyJx145de : Nat → FieldType := fun k => match k with
  | _ => .int
abbrev wsJx145de0 : List Cond := u_ws RJx145de TJx145de 0
theorem nmJx145de : ∀ a, a < 0 → ∀ b, b < 0 → a ≠ b → (TJx145de a).2.1 ≠ (TJx145de b).2.1 := by decide +kernel
theorem tyJx145de_ok : ∀ k, k < 0 → parseFieldDescriptor (TJx145de k).2.2.1 = some (tyJx145de k) := by decide +kernel
def RJx00060 : String := "java/lang/ArrayIndexOutOfBoundsException"
def TJx00060 : u_T := fun k => match k with
  | 0 => ("java/lang/Throwable", "backtrace", "Ljava/lang/Object;", false)
  | 1 => ("java/lang/Throwable", "detailMessage", "Ljava/lang/String;", false)
  | 2 => ("java/lang/Throwable", "cause", "Ljava/lang/Throwable;", false)
  | 3 => ("java/lang/Throwable", "stackTrace", "[Ljava/lang/StackTraceElement;", false)
  | 4 => ("java/lang/Throwable", "depth", "I", false)
  | _ => ("java/lang/Throwable", "suppressedExceptions", "Ljava/util/List;", false)
def tyJx00060 : Nat → FieldType := fun k => match k with
  | 0 => .object "java/lang/Object"
  | 1 => .object "java/lang/String"
  | 2 => .object "java/lang/Throwable"
  | 3 => .array (.object "java/lang/StackTraceElement")
  | 4 => .int
  | _ => .object "java/util/List"
abbrev wsJx000600 : List Cond := u_ws RJx00060 TJx00060 6
theorem nmJx00060 : ∀ a, a < 6 → ∀ b, b < 6 → a ≠ b → (TJx00060 a).2.1 ≠ (TJx00060 b).2.1 := by decide +kernel
theorem tyJx00060_ok : ∀ k, k < 6 → parseFieldDescriptor (TJx00060 k).2.2.1 = some (tyJx00060 k) := by decide +kernel
abbrev cJx00060_init_a7421 : ByteArray := prog_13_method_2_code
def yJx00060_init_a7421 : MethodName := ⟨RJx00060, "<init>", "(Ljava/lang/String;)V"⟩
def RJ9 : String := "java/lang/Math"
def TJ9 : u_T := fun k => match k with
  | _ => ("", "", "", false)
def tyJ9 : Nat → FieldType := fun k => match k with
  | _ => .int
abbrev wsJ90 : List Cond := u_ws RJ9 TJ9 0
theorem nmJ9 : ∀ a, a < 0 → ∀ b, b < 0 → a ≠ b → (TJ9 a).2.1 ≠ (TJ9 b).2.1 := by decide +kernel
theorem tyJ9_ok : ∀ k, k < 0 → parseFieldDescriptor (TJ9 k).2.2.1 = some (tyJ9 k) := by decide +kernel
abbrev cJ9_abs_0f7a4 : ByteArray := prog_18_method_59_code
def yJ9_abs_0f7a4 : MethodName := ⟨RJ9, "abs", "(I)I"⟩
abbrev cJ9_max_7cf53 : ByteArray := prog_18_method_65_code
def yJ9_max_7cf53 : MethodName := ⟨RJ9, "max", "(II)I"⟩
abbrev cJ9_min_7cf53 : ByteArray := prog_18_method_69_code
def yJ9_min_7cf53 : MethodName := ⟨RJ9, "min", "(II)I"⟩
def RJ0 : String := "java/lang/String"
def TJ0 : u_T := fun k => match k with
  | 0 => ("java/lang/String", "value", "[B", true)
  | _ => ("java/lang/String", "coder", "B", true)
def tyJ0 : Nat → FieldType := fun k => match k with
  | 0 => .array .byte
  | _ => .byte
abbrev wsJ00 : List Cond := u_ws RJ0 TJ0 2
theorem nmJ0 : ∀ a, a < 2 → ∀ b, b < 2 → a ≠ b → (TJ0 a).2.1 ≠ (TJ0 b).2.1 := by decide +kernel
theorem tyJ0_ok : ∀ k, k < 2 → parseFieldDescriptor (TJ0 k).2.2.1 = some (tyJ0 k) := by decide +kernel
def RJ7 : String := "java/util/Arrays"
def TJ7 : u_T := fun k => match k with
  | _ => ("", "", "", false)
def tyJ7 : Nat → FieldType := fun k => match k with
  | _ => .int
abbrev wsJ70 : List Cond := u_ws RJ7 TJ7 0
theorem nmJ7 : ∀ a, a < 0 → ∀ b, b < 0 → a ≠ b → (TJ7 a).2.1 ≠ (TJ7 b).2.1 := by decide +kernel
theorem tyJ7_ok : ∀ k, k < 0 → parseFieldDescriptor (TJ7 k).2.2.1 = some (tyJ7 k) := by decide +kernel
abbrev cJ7_fill_53178 : ByteArray := prog_23_method_103_code
def yJ7_fill_53178 : MethodName := ⟨RJ7, "fill", "([II)V"⟩
def RL : String := "StreetNamerLaw"
abbrev cL_type : ByteArray := method_3_code
def yL_type : MethodName := ⟨RL, "type", "(LStreetNamer;C[J)I"⟩
abbrev cL_street : ByteArray := method_4_code
def yL_street : MethodName := ⟨RL, "street", "(LStreetNamer;ICZ[J)I"⟩
abbrev cL_rename : ByteArray := method_5_code
def yL_rename : MethodName := ⟨RL, "rename", "(LStreetNamer;I[J)I"⟩
abbrev cL_translate : ByteArray := method_6_code
def yL_translate : MethodName := ⟨RL, "translate", "(LStreetNamer;I[J)I"⟩
abbrev cL_letter : ByteArray := method_7_code
def yL_letter : MethodName := ⟨RL, "letter", "(LStreetNamer;IZI[J)I"⟩
abbrev cL_way : ByteArray := method_8_code
def yL_way : MethodName := ⟨RL, "way", "(LStreetNamer;ICZ[J)I"⟩
abbrev cL_door : ByteArray := method_9_code
def yL_door : MethodName := ⟨RL, "door", "(LStreetNamer;IIC[J)I"⟩
abbrev cL_corner : ByteArray := method_10_code
def yL_corner : MethodName := ⟨RL, "corner", "(LStreetNamer;IIIC[J)I"⟩
abbrev cL_merge : ByteArray := method_11_code
def yL_merge : MethodName := ⟨RL, "merge", "(LStreetNamer;II[J)I"⟩
abbrev cL_remove : ByteArray := method_12_code
def yL_remove : MethodName := ⟨RL, "remove", "(LStreetNamer;I[J)I"⟩
abbrev cL_renumber : ByteArray := method_13_code
def yL_renumber : MethodName := ⟨RL, "renumber", "(LStreetNamer;I[J)I"⟩
abbrev cL_join : ByteArray := method_14_code
def yL_join : MethodName := ⟨RL, "join", "(LStreetNamer;II[J)I"⟩
abbrev cL_day : ByteArray := method_15_code
def yL_day : MethodName := ⟨RL, "day", "(LStreetNamer;I[J)I"⟩
abbrev cL_address : ByteArray := method_16_code
def yL_address : MethodName := ⟨RL, "address", "(LStreetNamer;IZ[J)I"⟩
abbrev cL_streetOf : ByteArray := method_17_code
def yL_streetOf : MethodName := ⟨RL, "streetOf", "(LStreetNamer;IZ[J)I"⟩
abbrev cL_isGone : ByteArray := method_18_code
def yL_isGone : MethodName := ⟨RL, "isGone", "(LStreetNamer;I[J)I"⟩
abbrev cL_find : ByteArray := method_19_code
def yL_find : MethodName := ⟨RL, "find", "(LStreetNamer;I[J)I"⟩
abbrev cL_send : ByteArray := method_20_code
def yL_send : MethodName := ⟨RL, "send", "(LStreetNamer;I[J)I"⟩
abbrev cL_until : ByteArray := method_21_code
def yL_until : MethodName := ⟨RL, "until", "(LStreetNamer;I[J)I"⟩
abbrev cL_doors : ByteArray := method_22_code
def yL_doors : MethodName := ⟨RL, "doors", "(LStreetNamer;I[J)I"⟩
abbrev cL_walk : ByteArray := method_23_code
def yL_walk : MethodName := ⟨RL, "walk", "(LStreetNamer;II[J)I"⟩
abbrev cL_steps : ByteArray := method_24_code
def yL_steps : MethodName := ⟨RL, "steps", "(LStreetNamer;I[J)I"⟩
abbrev cL_clashes : ByteArray := method_25_code
def yL_clashes : MethodName := ⟨RL, "clashes", "(LStreetNamer;I[J)I"⟩
abbrev cL_goneShare : ByteArray := method_26_code
def yL_goneShare : MethodName := ⟨RL, "goneShare", "(LStreetNamer;[D)I"⟩
abbrev cL_meanDoors : ByteArray := method_27_code
def yL_meanDoors : MethodName := ⟨RL, "meanDoors", "(LStreetNamer;[D)I"⟩
abbrev cL_law : ByteArray := code
def yL_law : MethodName := ⟨RL, "law", "([I)Z"⟩
abbrev vwCl : List vw_C := [(RJ0, TJ0, 2), (RJx00060, TJx00060, 6), (RX0, TX0, 5), (RX1, TX1, 7), (RX3, TX3, 6), (RX4, TX4, 2), (RX5, TX5, 5), (RX6, TX6, 8), (RX7, TX7, 9), (RX8, TX8, 30)]
/-! the words that stay: of all that the tables say, those that hold in every call -/
def zALL : List Cond := lw_tbl.filter goodWord
theorem zin {w : Cond} (h : w ∈ lw_tbl) (hg : goodWord w = true) : w ∈ zALL := List.mem_filter.2 ⟨h, hg⟩
theorem zt0 {w : Cond} (k : Nat) (h : (k2_sels lw_privs)[k]? = some w) : w ∈ lw_tbl := List.mem_append_left _ (List.mem_of_getElem? h)
theorem zt1 {w : Cond} (k : Nat) (h : tables_1_1[k]? = some w) : w ∈ lw_tbl := List.mem_append_right _ (List.mem_append_left _ (List.mem_of_getElem? h))
theorem zt2 {w : Cond} (k : Nat) (h : tables_1_2[k]? = some w) : w ∈ lw_tbl := List.mem_append_right _ (List.mem_append_right _ (List.mem_append_left _ (List.mem_of_getElem? h)))
theorem zt3 {w : Cond} (k : Nat) (h : tables_1_3[k]? = some w) : w ∈ lw_tbl := List.mem_append_right _ (List.mem_append_right _ (List.mem_append_right _ (List.mem_append_left _ (List.mem_of_getElem? h))))
theorem zt4 {w : Cond} (k : Nat) (h : tables_1_4[k]? = some w) : w ∈ lw_tbl := List.mem_append_right _ (List.mem_append_right _ (List.mem_append_right _ (List.mem_append_right _ (List.mem_append_left _ (List.mem_of_getElem? h)))))
theorem zt5 {w : Cond} (k : Nat) (h : tables_1_5[k]? = some w) : w ∈ lw_tbl := List.mem_append_right _ (List.mem_append_right _ (List.mem_append_right _ (List.mem_append_right _ (List.mem_append_right _ (List.mem_append_left _ (List.mem_of_getElem? h))))))
theorem zt6 {w : Cond} (k : Nat) (h : tables_1_6[k]? = some w) : w ∈ lw_tbl := List.mem_append_right _ (List.mem_append_right _ (List.mem_append_right _ (List.mem_append_right _ (List.mem_append_right _ (List.mem_append_right _ (List.mem_of_getElem? h))))))
end
section
/-! THE PURE PICTURE: values with whole numbers, cells by number; zJ: the machine at a point over such a picture; zS: a step of the machine against a step of a function -/
abbrev zPV : Type := Int ⊕ Int64 ⊕ Option Nat ⊕ UInt32 ⊕ UInt64 ⊕ Nat
abbrev zI (z : Int) : zPV := .inl z
abbrev zL (x : Int64) : zPV := .inr (.inl x)
abbrev zR (r : Option Nat) : zPV := .inr (.inr (.inl r))
abbrev zF (x : UInt32) : zPV := .inr (.inr (.inr (.inl x)))
abbrev zD (x : UInt64) : zPV := .inr (.inr (.inr (.inr (.inl x))))
abbrev zA (a : Nat) : zPV := .inr (.inr (.inr (.inr (.inr a))))
def inR (z : Int) : Prop := -2147483648 ≤ z ∧ z ≤ 2147483647
def zT (ad : Nat → Nat) : zPV → Value
  | .inl z => .int (Int32.ofInt z)
  | .inr (.inl x) => .long x
  | .inr (.inr (.inl r)) => va_rf (r.map ad)
  | .inr (.inr (.inr (.inl x))) => .float x
  | .inr (.inr (.inr (.inr (.inl x)))) => .double x
  | .inr (.inr (.inr (.inr (.inr a)))) => .ref a
def zOk (n : Nat) : zPV → Prop
  | .inl z => inR z
  | .inr (.inr (.inl r)) => ∀ i, r = some i → i < n
  | _ => True
abbrev zC : Type := (Nat → Int) ⊕ (Nat → Int64) ⊕ (Nat → UInt64) ⊕ (Nat → Option Nat)
abbrev zCell : Type := (Nat × Nat × zC) ⊕ (Nat × List zPV)
abbrev zH : Type := List zCell
def zTC (ad : Nat → Nat) (cA : Nat → ClassId) : zCell → va_E
  | .inl (t, n, .inl f) => .inl (cA t, n, .inl (fun j => Int32.ofInt (f j)))
  | .inl (t, n, .inr (.inl f)) => .inl (cA t, n, .inr (.inl f))
  | .inl (t, n, .inr (.inr (.inl f))) => .inl (cA t, n, .inr (.inr (.inr (.inl f))))
  | .inl (t, n, .inr (.inr (.inr f))) => .inl (cA t, n, .inr (.inr (.inr (.inr (fun j => (f j).map ad)))))
  | .inr (ci, fs) => .inr (ci, fs.map (zT ad))
def zOkC (n : Nat) : zCell → Prop
  | .inl (_, _, .inl f) => ∀ j, inR (f j)
  | .inl (_, _, .inr (.inl _)) => True
  | .inl (_, _, .inr (.inr (.inl _))) => True
  | .inl (_, _, .inr (.inr (.inr f))) => ∀ j i, f j = some i → i < n
  | .inr (_, fs) => ∀ v ∈ fs, zOk n v
def zW (ad : Nat → Nat) (cA : Nat → ClassId) (hp : zH) : va_W := hp.mapIdx (fun i c => (ad i, zTC ad cA c))
def zTY (cA : Nat → ClassId) : List (ClassId × FieldType) := [(cA 0, .int), (cA 1, .long), (cA 2, .boolean), (cA 3, .char), (cA 4, .double), (cA 5, .object "StreetNamer$Street"), (cA 6, .object "StreetNamer$Door")]
abbrev zK : Type := Program × Launch × Env × Room × State × MethodId × Array Value × List Frame × Method × Code × va_G × (Nat → ClassId) × (Nat → Prop) × (State → Prop) × Nat × (Nat → Nat) × Nat
def zJ (K : zK) (cells slots pc : Nat) (lv : List (Nat × zPV)) (st : List zPV) (hp : zH) : Prop := match K with
  | (p, l, e, R, s, m, args, below, meth, c, D, cA, A, Q, nL, ad0, n0) =>
    ∀ (ad : Nat → Nat) (H : Heap) (locs : List Loc) (ls : Array Slot), (∀ i, i < n0 → ad i = ad0 i) → n0 ≤ hp.length → (∀ c ∈ hp, zOkC hp.length c) → (∀ q ∈ lv, zOk hp.length q.2) → (∀ v ∈ st, zOk hp.length v) →
      va_P D vwCl (zW ad cA hp) H → va_D A (zW ad cA hp) → va_S A s.heap H locs → lv_has ls nL (lv.map (fun q => (q.1, zT ad q.2))) →
      W p l e R s m args below meth c H locs cells slots Q (F0 m pc ls (st.map (zT ad)))
def zS {ρ : Type} (o : Option ρ) (G : ρ → Prop) (C : Prop) : Prop := ∀ r, o = some r → G r → C
/-- what stays true of the start in all calls: the two statics that exceptions take, the words that no call carries, the texts -/
def zng : Cond → Bool
  | .castable _ _ => true
  | .declares _ => true
  | .methodLinkNest _ _ _ _ => true
  | _ => false
def zEnv (A : Nat → Prop) (U : State) (H : Heap) : Prop := vx_Zq Bundle.tN "UNASSIGNED_STACK" Bundle.steD A U H ∧ vx_Zq Bundle.tN "SUPPRESSED_SENTINEL" Bundle.listD A U H ∧ (∀ w ∈ lw_tbl, zng w = true → va_Nw w U) ∧ (∀ k tx, Cond.stringRef RX7 k tx ∈ lw_tbl → ∃ a, vk_R RX7 k tx a U) ∧ va_AO "StreetNamer$Street" U ∧ va_AO "StreetNamer$Door" U
/-- what the machine stands on: its code, the words, the classes, the room -/
def zX (K : zK) (cc : ByteArray) (own : String) (Ts : List Cond) (R0 : Room) : Prop := match K with
  | (p, l, e, R, s, m, args, below, meth, c, D, cA, A, Q, nL, ad0, n0) =>
    p.tables.exec = Jvm.exec ∧ c.code = cc ∧ c.maxLocals = nL ∧ s.vm.findClass own = some m.cls ∧ (∀ w ∈ Ts, w.before args s = true) ∧ va_K D vwCl (zTY cA) s ∧ (∀ q, s.heap.size ≤ q → A q) ∧ R = R0 ∧ meth.locks = false ∧ l.stackTraces = false ∧ zEnv A s s.heap
-- ===== numbers =====
theorem z32_toInt {z : Int} (h : inR z) : (Int32.ofInt z).toInt = z := Int32.toInt_ofInt_of_le (by have := h.1; omega) (by have := h.2; omega)
theorem z32_eq {a b : Int} (ha : inR a) (hb : inR b) : Int32.ofInt a = Int32.ofInt b ↔ a = b := ⟨fun h => by have := congrArg Int32.toInt h; rwa [z32_toInt ha, z32_toInt hb] at this, fun h => by rw [h]⟩
theorem z32_lt {a b : Int} (ha : inR a) (hb : inR b) : Int32.ofInt a < Int32.ofInt b ↔ a < b := by rw [Int32.lt_iff_toInt_lt, z32_toInt ha, z32_toInt hb]
theorem z32_le {a b : Int} (ha : inR a) (hb : inR b) : Int32.ofInt a ≤ Int32.ofInt b ↔ a ≤ b := by rw [Int32.le_iff_toInt_le, z32_toInt ha, z32_toInt hb]
theorem z32_0 : (0 : Int32) = Int32.ofInt 0 := rfl
theorem inR_0 : inR 0 := by unfold inR; omega
theorem z32_nat {z : Int} (h : inR z) : (Int32.ofInt z).toNatClampNeg = z.toNat := by
  show (Int32.ofInt z).toInt.toNat = z.toNat
  rw [z32_toInt h]
theorem z32_in {z : Int} (h : inR z) {n : Nat} : vp_in (Int32.ofInt z) n ↔ 0 ≤ z ∧ z < n := by rw [vp_in_iff, z32_toInt h]
theorem z32_of (z : Int32) : ∃ k : Int, inR k ∧ z = Int32.ofInt k := ⟨z.toInt, ⟨by have := Int32.le_toInt z; omega, by have := Int32.toInt_lt z; omega⟩, by rw [Int32.ofInt_toInt]⟩
theorem z32_natI (n : Nat) : Int32.ofInt (n : Int) = Int32.ofNat n := rfl
theorem z32_div {a b : Int} (ha : inR a) (hb : inR b) (h0 : 0 ≤ a) (h1 : 0 < b) : Int32.ofInt a / Int32.ofInt b = Int32.ofInt (a / b) := by
  obtain ⟨n, rfl⟩ := Int.eq_ofNat_of_zero_le h0
  obtain ⟨d, rfl⟩ := Int.eq_ofNat_of_zero_le (Int.le_of_lt h1)
  have e : ((n : Int) / (d : Int)) = ((n / d : Nat) : Int) := rfl
  rw [e]
  exact pk_div (a := n) (d := d) (by have := ha.2; omega) (by omega) (by have := hb.2; omega)
theorem z32_rem {a b : Int} (ha : inR a) (hb : inR b) (h0 : 0 ≤ a) (h1 : 0 < b) : Int32.ofInt a - Int32.ofInt a / Int32.ofInt b * Int32.ofInt b = Int32.ofInt (a % b) := by
  obtain ⟨n, rfl⟩ := Int.eq_ofNat_of_zero_le h0
  obtain ⟨d, rfl⟩ := Int.eq_ofNat_of_zero_le (Int.le_of_lt h1)
  have e : ((n : Int) % (d : Int)) = ((n % d : Nat) : Int) := rfl
  rw [e]
  exact pk_rem (a := n) (d := d) (by have := ha.2; omega) (by omega) (by have := hb.2; omega)
-- ===== the functions' steps =====
def zchk (z : Int) : Option Int := if -2147483648 ≤ z ∧ z ≤ 2147483647 then some z else none
def zchkZ (z : Int) : Option Int := if z = 0 ∨ z = 1 then some z else none
def zchkC (z : Int) : Option Int := if 0 ≤ z ∧ z ≤ 65535 then some z else none
def zdiv (a b : Int) : Option Int := if 0 ≤ a ∧ 0 < b then some (a / b) else none
def zrem (a b : Int) : Option Int := if 0 ≤ a ∧ 0 < b then some (a % b) else none
def zor (a b : Int) : Option Int := if (a = 0 ∨ a = 1) ∧ (b = 0 ∨ b = 1) then some (if a = 1 then 1 else b) else none
def zand (a b : Int) : Option Int := if b = 1 ∨ b = 31 then some (a % (b + 1)) else none
def zasI : zPV → Option Int
  | .inl z => some z
  | .inr _ => none
def zasJ : zPV → Option Int64
  | .inr (.inl z) => some z
  | .inr (.inr _) => none
  | .inl _ => none
def zasR : zPV → Option (Option Nat)
  | .inr (.inr (.inl z)) => some z
  | .inr (.inr (.inr _)) => none
  | .inr (.inl _) => none
  | .inl _ => none
def zoc (ci : Nat) : zCell → Option (List zPV)
  | .inr (c, fs) => if c = ci then some fs else none
  | .inl _ => none
def zac (t : Nat) (i : Int) : zCell → Option (Nat × zC)
  | .inr _ => none
  | .inl (t', n, f) => if t' = t ∧ 0 ≤ i ∧ i < n then some (n, f) else none
def zcI : zC → Option (Nat → Int)
  | .inl f => some f
  | .inr _ => none
def zcJ : zC → Option (Nat → Int64)
  | .inr (.inl f) => some f
  | .inr (.inr _) => none
  | .inl _ => none
def zcD : zC → Option (Nat → UInt64)
  | .inr (.inr (.inl f)) => some f
  | .inr (.inr (.inr _)) => none
  | .inr (.inl _) => none
  | .inl _ => none
def zcR : zC → Option (Nat → Option Nat)
  | .inr (.inr (.inr f)) => some f
  | .inr (.inr (.inl _)) => none
  | .inr (.inl _) => none
  | .inl _ => none
def zobj (hp : zH) (r : Option Nat) (ci : Nat) : Option (Nat × List zPV) := r.bind fun i => hp[i]?.bind fun x => (zoc ci x).bind fun fs => some (i, fs)
def zarr (hp : zH) (r : Option Nat) (t : Nat) (i : Int) : Option (Nat × Nat × zC) := r.bind fun a => hp[a]?.bind fun x => (zac t i x).bind fun q => some (a, q)
def zfld (hp : zH) (r : Option Nat) (ci k : Nat) : Option zPV := (zobj hp r ci).bind fun q => q.2[k]?
def zgI (hp : zH) (r : Option Nat) (ci k : Nat) : Option Int := (zfld hp r ci k).bind zasI
def zgJ (hp : zH) (r : Option Nat) (ci k : Nat) : Option Int64 := (zfld hp r ci k).bind zasJ
def zgR (hp : zH) (r : Option Nat) (ci k : Nat) : Option (Option Nat) := (zfld hp r ci k).bind zasR
def zput (hp : zH) (r : Option Nat) (ci k : Nat) (v : zPV) : Option zH := (zobj hp r ci).bind fun q => if k < q.2.length then some (hp.set q.1 (.inr (ci, q.2.set k v))) else none
def zpI (hp : zH) (r : Option Nat) (ci k : Nat) (z : Int) : Option zH := zput hp r ci k (zI z)
def zpZ (hp : zH) (r : Option Nat) (ci k : Nat) (z : Int) : Option zH := if z = 0 ∨ z = 1 then zput hp r ci k (zI z) else none
def zpC (hp : zH) (r : Option Nat) (ci k : Nat) (z : Int) : Option zH := if 0 ≤ z ∧ z ≤ 65535 then zput hp r ci k (zI z) else none
def zpJ (hp : zH) (r : Option Nat) (ci k : Nat) (z : Int64) : Option zH := zput hp r ci k (zL z)
def zpR (hp : zH) (r : Option Nat) (ci k : Nat) (z : Option Nat) : Option zH := zput hp r ci k (zR z)
def zup {α : Type} (f : Nat → α) (k : Nat) (v : α) : Nat → α := fun j => if j = k then v else f j
def zaI (hp : zH) (t : Nat) (r : Option Nat) (i : Int) : Option Int := (zarr hp r t i).bind fun q => (zcI q.2.2).bind fun f => some (f i.toNat)
def zaJ (hp : zH) (r : Option Nat) (i : Int) : Option Int64 := (zarr hp r 1 i).bind fun q => (zcJ q.2.2).bind fun f => some (f i.toNat)
def zaD (hp : zH) (r : Option Nat) (i : Int) : Option UInt64 := (zarr hp r 4 i).bind fun q => (zcD q.2.2).bind fun f => some (f i.toNat)
def zaR (hp : zH) (t : Nat) (r : Option Nat) (i : Int) : Option (Option Nat) := (zarr hp r t i).bind fun q => (zcR q.2.2).bind fun f => some (f i.toNat)
def zsI (hp : zH) (t : Nat) (r : Option Nat) (i : Int) (z : Int) : Option zH := (zarr hp r t i).bind fun q => (zcI q.2.2).bind fun f => if (t = 2 → z = 0 ∨ z = 1) ∧ (t = 3 → 0 ≤ z ∧ z ≤ 65535) then some (hp.set q.1 (.inl (t, q.2.1, .inl (zup f i.toNat z)))) else none
def zsJ (hp : zH) (r : Option Nat) (i : Int) (z : Int64) : Option zH := (zarr hp r 1 i).bind fun q => (zcJ q.2.2).bind fun f => some (hp.set q.1 (.inl (1, q.2.1, .inr (.inl (zup f i.toNat z)))))
def zsD (hp : zH) (r : Option Nat) (i : Int) (z : UInt64) : Option zH := (zarr hp r 4 i).bind fun q => (zcD q.2.2).bind fun f => some (hp.set q.1 (.inl (4, q.2.1, .inr (.inr (.inl (zup f i.toNat z))))))
def zsR (hp : zH) (t : Nat) (r : Option Nat) (i : Int) (z : Option Nat) (ci : Nat) : Option zH := (zarr hp r t i).bind fun q => (zcR q.2.2).bind fun f => (zobj hp z ci).bind fun _ => some (hp.set q.1 (.inl (t, q.2.1, .inr (.inr (.inr (zup f i.toNat z))))))
def zal : zCell → Option Int
  | .inl (t, n, _) => if t < 7 ∧ n ≤ 2147483647 then some n else none
  | .inr _ => none
def zlen (hp : zH) (r : Option Nat) : Option Int := r.bind fun a => hp[a]?.bind zal
def zcmp (x y : Int64) : Int := if x > y then 1 else if x = y then 0 else -1
end
section
/-! THE ROWS over the pure picture: each is the kit's own row, said of zJ -/
section zRows
variable {ρ : Type} {o : Option ρ} {G : ρ → Prop} {K : zK} {cc : ByteArray} {own : String} {Ts : List Cond} {R0 : Room} {cells slots pc : Nat} {lv : List (Nat × zPV)} {st : List zPV} {hp : zH}
theorem zOk_cons {n : Nat} {v : zPV} {st : List zPV} (h1 : zOk n v) (h2 : ∀ w ∈ st, zOk n w) : ∀ w ∈ v :: st, zOk n w := List.forall_mem_cons.2 ⟨h1, h2⟩
theorem zOk_tl {n : Nat} {v : zPV} {st : List zPV} (h : ∀ w ∈ v :: st, zOk n w) : ∀ w ∈ st, zOk n w := fun w hw => h w (List.mem_cons_of_mem _ hw)
theorem zOk_hd {n : Nat} {v : zPV} {st : List zPV} (h : ∀ w ∈ v :: st, zOk n w) : zOk n v := h v List.mem_cons_self
theorem zlv_at {ad : Nat → Nat} {ls : Array Slot} {nL : Nat} {lv : List (Nat × zPV)} (h : lv_has ls nL (lv.map (fun q => (q.1, zT ad q.2)))) (k : Nat) {i : Nat} {v : zPV} (hk : lv[k]? = some (i, v)) : ls[i]? = some (.val (zT ad v)) := lv_at h k (by rw [List.getElem?_map, hk]; rfl)
def zcat : zPV → Nat
  | .inr (.inl _) => 2
  | .inr (.inr (.inr (.inr (.inl _)))) => 2
  | _ => 1
theorem va_rf_cat (r : Option Nat) : (va_rf r).category = 1 := by cases r <;> rfl
theorem zcat_T (ad : Nat → Nat) (v : zPV) : (zT ad v).category = zcat v := by
  match v with
  | .inl _ => rfl
  | .inr (.inl _) => rfl
  | .inr (.inr (.inl r)) => exact va_rf_cat _
  | .inr (.inr (.inr (.inl _))) => rfl
  | .inr (.inr (.inr (.inr (.inl _)))) => rfl
  | .inr (.inr (.inr (.inr (.inr _)))) => rfl
def zset1 (i : Nat) (v : zPV) (lv : List (Nat × zPV)) : List (Nat × zPV) := (i, v) :: lv.filter (fun q => !(q.1 == i) && !(q.1 + 1 == i && zcat q.2 == 2))
def zset2 (i : Nat) (v : zPV) (lv : List (Nat × zPV)) : List (Nat × zPV) := (i, v) :: lv.filter (fun q => !(q.1 == i) && (!(q.1 == i + 1) && !(q.1 + 1 == i && zcat q.2 == 2)))
theorem zset1_map (ad : Nat → Nat) (i : Nat) (v : zPV) (lv : List (Nat × zPV)) : (i, zT ad v) :: (lv.map (fun q => (q.1, zT ad q.2))).filter (fun q => !(q.1 == i) && !(q.1 + 1 == i && q.2.category == 2)) = (zset1 i v lv).map (fun q => (q.1, zT ad q.2)) := by
  unfold zset1
  rw [List.map_cons, List.filter_map]
  congr 2
  apply List.filter_congr
  intro q _
  simp only [Function.comp_apply, zcat_T]
theorem zset2_map (ad : Nat → Nat) (i : Nat) (v : zPV) (lv : List (Nat × zPV)) : (i, zT ad v) :: (lv.map (fun q => (q.1, zT ad q.2))).filter (fun q => !(q.1 == i) && (!(q.1 == i + 1) && !(q.1 + 1 == i && q.2.category == 2))) = (zset2 i v lv).map (fun q => (q.1, zT ad q.2)) := by
  unfold zset2
  rw [List.map_cons, List.filter_map]
  congr 2
  apply List.filter_congr
  intro q _
  simp only [Function.comp_apply, zcat_T]
theorem zset1_ok {n i : Nat} {v : zPV} {lv : List (Nat × zPV)} (h1 : zOk n v) (h2 : ∀ q ∈ lv, zOk n q.2) : ∀ q ∈ zset1 i v lv, zOk n q.2 := by
  intro q hq
  rcases List.mem_cons.1 hq with rfl | hq
  · exact h1
  · exact h2 q (List.mem_filter.1 hq).1
theorem zset2_ok {n i : Nat} {v : zPV} {lv : List (Nat × zPV)} (h1 : zOk n v) (h2 : ∀ q ∈ lv, zOk n q.2) : ∀ q ∈ zset2 i v lv, zOk n q.2 := by
  intro q hq
  rcases List.mem_cons.1 hq with rfl | hq
  · exact h1
  · exact h2 q (List.mem_filter.1 hq).1
theorem zchk_some {z v : Int} (h : zchk z = some v) : inR v ∧ v = z := by
  unfold zchk at h
  split at h
  · rename_i hz
    cases h
    exact ⟨hz, rfl⟩
  · cases h
theorem z_bind {ε : Type} {o1 : Option ε} {f : ε → Option ρ} {E : ε → Prop} {C : Prop} (hl : zS o1 E C) (hk : ∀ e, zS (f e) G (E e)) : zS (o1.bind f) G C := by
  intro r h1 h2
  obtain ⟨e, he, h1⟩ := Option.bind_eq_some_iff.mp h1
  exact hl e he (hk e r h1 h2)
def zloop {σ ε : Type} (body : σ → Option (σ ⊕ ε)) : Nat → σ → Option ε
  | 0, _ => none
  | n + 1, s => (body s).bind (fun x => match x with
    | .inl s' => zloop body n s'
    | .inr r => some r)
theorem z_loop {σ ε : Type} {body : σ → Option (σ ⊕ ε)} (C : σ → Prop) (E : ε → Prop) (hb : ∀ s, zS (body s) (fun x => match x with
    | .inl s' => C s'
    | .inr e => E e) (C s)) : ∀ n s, zS (zloop body n s) E (C s) := by
  intro n
  induction n with
  | zero =>
    intro s r h1 _
    cases h1
  | succ n ih =>
    intro s r h1 h2
    obtain ⟨x, hx, h1⟩ := Option.bind_eq_some_iff.mp h1
    cases x with
    | inl s' => exact hb s _ hx (ih s' r h1 h2)
    | inr e =>
      cases h1
      exact hb s _ hx h2
def zN : Nat := 100000
theorem z_pick (ks : List Nat) {lv' : List (Nat × zPV)} (hl : ks.filterMap (fun k => lv[k]?) = lv') (kk : zS o G (zJ K cells slots pc lv' st hp)) : zS o G (zJ K cells slots pc lv st hp) := by
  obtain ⟨p, l, e, R, s, m, args, below, meth, c, D, cA, A, Q, nL, ad0, n0⟩ := K
  subst hl
  intro r h1 h2 ad H locs ls e1 e2 e3 e4 e5 e6 e7 e8 e9
  refine kk r h1 h2 ad H locs ls e1 e2 e3 (fun q hq => ?_) e5 e6 e7 e8 (lv_sub e9 ks ?_)
  · obtain ⟨i, -, hi⟩ := List.mem_filterMap.mp hq
    exact e4 q (List.mem_of_getElem? hi)
  · unfold lv_pick
    rw [List.map_filterMap]
    apply congrArg (fun f => List.filterMap f ks)
    funext k
    rw [List.getElem?_map]
theorem z_widen {c1 s1 : Nat} (h1 : cells ≤ c1) (h2 : slots ≤ s1) (kk : zS o G (zJ K c1 s1 pc lv st hp)) : zS o G (zJ K cells slots pc lv st hp) := by
  obtain ⟨p, l, e, R, s, m, args, below, meth, c, D, cA, A, Q, nL, ad0, n0⟩ := K
  intro r q1 q2 ad H locs ls e1 e2 e3 e4 e5 e6 e7 e8 e9
  exact W.widen h1 h2 (kk r q1 q2 ad H locs ls e1 e2 e3 e4 e5 e6 e7 e8 e9)

theorem z_iload (k : Nat) {i : Nat} {v : Int} (X : zX K cc own Ts R0) (hd : decode cc pc = .ok (.iload i, 2)) (hl : lv[k]? = some (i, zI v)) (kk : zS o G (zJ K cells slots (pc + 2) lv (zI v :: st) hp)) : zS o G (zJ K cells slots pc lv st hp) := by
  obtain ⟨p, l, e, R, s, m, args, below, meth, c, D, cA, A, Q, nL, ad0, n0⟩ := K
  obtain ⟨hx, hb, hml, hown, hts, hK, hA, hR, hlk⟩ := X
  intro r h1 h2 ad H locs ls e1 e2 e3 e4 e5 e6 e7 e8 e9
  refine lv_iload hx hb hd (zlv_at e9 k hl) ?_
  exact kk r h1 h2 ad H locs ls e1 e2 e3 e4 (zOk_cons (e4 _ (List.mem_of_getElem? hl)) e5) e6 e7 e8 e9
theorem z_lload (k : Nat) {i : Nat} {v : Int64} (X : zX K cc own Ts R0) (hd : decode cc pc = .ok (.lload i, 2)) (hl : lv[k]? = some (i, zL v)) (kk : zS o G (zJ K cells slots (pc + 2) lv (zL v :: st) hp)) : zS o G (zJ K cells slots pc lv st hp) := by
  obtain ⟨p, l, e, R, s, m, args, below, meth, c, D, cA, A, Q, nL, ad0, n0⟩ := K
  obtain ⟨hx, hb, hml, hown, hts, hK, hA, hR, hlk⟩ := X
  intro r h1 h2 ad H locs ls e1 e2 e3 e4 e5 e6 e7 e8 e9
  refine lv_lload hx hb hd (zlv_at e9 k hl) ?_
  exact kk r h1 h2 ad H locs ls e1 e2 e3 e4 (zOk_cons (e4 _ (List.mem_of_getElem? hl)) e5) e6 e7 e8 e9
theorem z_fload (k : Nat) {i : Nat} {v : UInt32} (X : zX K cc own Ts R0) (hd : decode cc pc = .ok (.fload i, 2)) (hl : lv[k]? = some (i, zF v)) (kk : zS o G (zJ K cells slots (pc + 2) lv (zF v :: st) hp)) : zS o G (zJ K cells slots pc lv st hp) := by
  obtain ⟨p, l, e, R, s, m, args, below, meth, c, D, cA, A, Q, nL, ad0, n0⟩ := K
  obtain ⟨hx, hb, hml, hown, hts, hK, hA, hR, hlk⟩ := X
  intro r h1 h2 ad H locs ls e1 e2 e3 e4 e5 e6 e7 e8 e9
  refine lv_fload hx hb hd (zlv_at e9 k hl) ?_
  exact kk r h1 h2 ad H locs ls e1 e2 e3 e4 (zOk_cons (e4 _ (List.mem_of_getElem? hl)) e5) e6 e7 e8 e9
theorem z_dload (k : Nat) {i : Nat} {v : UInt64} (X : zX K cc own Ts R0) (hd : decode cc pc = .ok (.dload i, 2)) (hl : lv[k]? = some (i, zD v)) (kk : zS o G (zJ K cells slots (pc + 2) lv (zD v :: st) hp)) : zS o G (zJ K cells slots pc lv st hp) := by
  obtain ⟨p, l, e, R, s, m, args, below, meth, c, D, cA, A, Q, nL, ad0, n0⟩ := K
  obtain ⟨hx, hb, hml, hown, hts, hK, hA, hR, hlk⟩ := X
  intro r h1 h2 ad H locs ls e1 e2 e3 e4 e5 e6 e7 e8 e9
  refine lv_dload hx hb hd (zlv_at e9 k hl) ?_
  exact kk r h1 h2 ad H locs ls e1 e2 e3 e4 (zOk_cons (e4 _ (List.mem_of_getElem? hl)) e5) e6 e7 e8 e9
theorem z_aloadA (k : Nat) {i : Nat} {v : Nat} (X : zX K cc own Ts R0) (hd : decode cc pc = .ok (.aload i, 2)) (hl : lv[k]? = some (i, zA v)) (kk : zS o G (zJ K cells slots (pc + 2) lv (zA v :: st) hp)) : zS o G (zJ K cells slots pc lv st hp) := by
  obtain ⟨p, l, e, R, s, m, args, below, meth, c, D, cA, A, Q, nL, ad0, n0⟩ := K
  obtain ⟨hx, hb, hml, hown, hts, hK, hA, hR, hlk⟩ := X
  intro r h1 h2 ad H locs ls e1 e2 e3 e4 e5 e6 e7 e8 e9
  refine lv_aload hx hb hd (zlv_at e9 k hl) ?_
  exact kk r h1 h2 ad H locs ls e1 e2 e3 e4 (zOk_cons (e4 _ (List.mem_of_getElem? hl)) e5) e6 e7 e8 e9
theorem z_iload_n (k : Nat) {j : Fin 4} {i : Nat} {v : Int} (X : zX K cc own Ts R0) (hd : decode cc pc = .ok (.iload_n j, 1)) (hi : (j : Nat) = i) (hl : lv[k]? = some (i, zI v)) (kk : zS o G (zJ K cells slots (pc + 1) lv (zI v :: st) hp)) : zS o G (zJ K cells slots pc lv st hp) := by
  obtain ⟨p, l, e, R, s, m, args, below, meth, c, D, cA, A, Q, nL, ad0, n0⟩ := K
  obtain ⟨hx, hb, hml, hown, hts, hK, hA, hR, hlk⟩ := X
  intro r h1 h2 ad H locs ls e1 e2 e3 e4 e5 e6 e7 e8 e9
  refine lv_iload_n hx hb hd hi (zlv_at e9 k hl) ?_
  exact kk r h1 h2 ad H locs ls e1 e2 e3 e4 (zOk_cons (e4 _ (List.mem_of_getElem? hl)) e5) e6 e7 e8 e9
theorem z_lload_n (k : Nat) {j : Fin 4} {i : Nat} {v : Int64} (X : zX K cc own Ts R0) (hd : decode cc pc = .ok (.lload_n j, 1)) (hi : (j : Nat) = i) (hl : lv[k]? = some (i, zL v)) (kk : zS o G (zJ K cells slots (pc + 1) lv (zL v :: st) hp)) : zS o G (zJ K cells slots pc lv st hp) := by
  obtain ⟨p, l, e, R, s, m, args, below, meth, c, D, cA, A, Q, nL, ad0, n0⟩ := K
  obtain ⟨hx, hb, hml, hown, hts, hK, hA, hR, hlk⟩ := X
  intro r h1 h2 ad H locs ls e1 e2 e3 e4 e5 e6 e7 e8 e9
  refine lv_lload_n hx hb hd hi (zlv_at e9 k hl) ?_
  exact kk r h1 h2 ad H locs ls e1 e2 e3 e4 (zOk_cons (e4 _ (List.mem_of_getElem? hl)) e5) e6 e7 e8 e9
theorem z_aload_nA (k : Nat) {j : Fin 4} {i : Nat} {v : Nat} (X : zX K cc own Ts R0) (hd : decode cc pc = .ok (.aload_n j, 1)) (hi : (j : Nat) = i) (hl : lv[k]? = some (i, zA v)) (kk : zS o G (zJ K cells slots (pc + 1) lv (zA v :: st) hp)) : zS o G (zJ K cells slots pc lv st hp) := by
  obtain ⟨p, l, e, R, s, m, args, below, meth, c, D, cA, A, Q, nL, ad0, n0⟩ := K
  obtain ⟨hx, hb, hml, hown, hts, hK, hA, hR, hlk⟩ := X
  intro r h1 h2 ad H locs ls e1 e2 e3 e4 e5 e6 e7 e8 e9
  refine lv_aload_n hx hb hd hi (zlv_at e9 k hl) ?_
  exact kk r h1 h2 ad H locs ls e1 e2 e3 e4 (zOk_cons (e4 _ (List.mem_of_getElem? hl)) e5) e6 e7 e8 e9
theorem z_aload (k : Nat) {i : Nat} {v : Option Nat} (X : zX K cc own Ts R0) (hd : decode cc pc = .ok (.aload i, 2)) (hl : lv[k]? = some (i, zR v)) (kk : zS o G (zJ K cells slots (pc + 2) lv (zR v :: st) hp)) : zS o G (zJ K cells slots pc lv st hp) := by
  obtain ⟨p, l, e, R, s, m, args, below, meth, c, D, cA, A, Q, nL, ad0, n0⟩ := K
  obtain ⟨hx, hb, hml, hown, hts, hK, hA, hR, hlk⟩ := X
  intro r h1 h2 ad H locs ls e1 e2 e3 e4 e5 e6 e7 e8 e9
  have hk := kk r h1 h2 ad H locs ls e1 e2 e3 e4 (zOk_cons (e4 _ (List.mem_of_getElem? hl)) e5) e6 e7 e8 e9
  have h9 := zlv_at e9 k hl
  cases v with
  | none => exact lv_aloadN hx hb hd h9 hk
  | some a => exact lv_aload hx hb hd h9 hk
theorem z_aload_n (k : Nat) {j : Fin 4} {i : Nat} {v : Option Nat} (X : zX K cc own Ts R0) (hd : decode cc pc = .ok (.aload_n j, 1)) (hi : (j : Nat) = i) (hl : lv[k]? = some (i, zR v)) (kk : zS o G (zJ K cells slots (pc + 1) lv (zR v :: st) hp)) : zS o G (zJ K cells slots pc lv st hp) := by
  obtain ⟨p, l, e, R, s, m, args, below, meth, c, D, cA, A, Q, nL, ad0, n0⟩ := K
  obtain ⟨hx, hb, hml, hown, hts, hK, hA, hR, hlk⟩ := X
  intro r h1 h2 ad H locs ls e1 e2 e3 e4 e5 e6 e7 e8 e9
  have hk := kk r h1 h2 ad H locs ls e1 e2 e3 e4 (zOk_cons (e4 _ (List.mem_of_getElem? hl)) e5) e6 e7 e8 e9
  have h9 := zlv_at e9 k hl
  cases v with
  | none => exact lv_aload_nN hx hb hd hi h9 hk
  | some a => exact lv_aload_n hx hb hd hi h9 hk
theorem z_istore {i : Nat} {v : Int} {lv' : List (Nat × zPV)} (X : zX K cc own Ts R0) (hd : decode cc pc = .ok (.istore i, 2)) (hn : i < K.2.2.2.2.2.2.2.2.2.2.2.2.2.2.1) (hl : zset1 i (zI v) lv = lv') (kk : zS o G (zJ K cells slots (pc + 2) lv' st hp)) : zS o G (zJ K cells slots pc lv (zI v :: st) hp) := by
  obtain ⟨p, l, e, R, s, m, args, below, meth, c, D, cA, A, Q, nL, ad0, n0⟩ := K
  obtain ⟨hx, hb, hml, hown, hts, hK, hA, hR, hlk⟩ := X
  intro r h1 h2 ad H locs ls e1 e2 e3 e4 e5 e6 e7 e8 e9
  subst hl
  refine lv_istore hx hb hd e9 hn (zset1_map ad i (zI v) lv) (fun ls' e9' => ?_)
  exact kk r h1 h2 ad H locs ls' e1 e2 e3 (zset1_ok (zOk_hd e5) e4) (zOk_tl e5) e6 e7 e8 e9'
theorem z_fstore {i : Nat} {v : UInt32} {lv' : List (Nat × zPV)} (X : zX K cc own Ts R0) (hd : decode cc pc = .ok (.fstore i, 2)) (hn : i < K.2.2.2.2.2.2.2.2.2.2.2.2.2.2.1) (hl : zset1 i (zF v) lv = lv') (kk : zS o G (zJ K cells slots (pc + 2) lv' st hp)) : zS o G (zJ K cells slots pc lv (zF v :: st) hp) := by
  obtain ⟨p, l, e, R, s, m, args, below, meth, c, D, cA, A, Q, nL, ad0, n0⟩ := K
  obtain ⟨hx, hb, hml, hown, hts, hK, hA, hR, hlk⟩ := X
  intro r h1 h2 ad H locs ls e1 e2 e3 e4 e5 e6 e7 e8 e9
  subst hl
  refine lv_fstore hx hb hd e9 hn (zset1_map ad i (zF v) lv) (fun ls' e9' => ?_)
  exact kk r h1 h2 ad H locs ls' e1 e2 e3 (zset1_ok (zOk_hd e5) e4) (zOk_tl e5) e6 e7 e8 e9'
theorem z_lstore {i : Nat} {v : Int64} {lv' : List (Nat × zPV)} (X : zX K cc own Ts R0) (hd : decode cc pc = .ok (.lstore i, 2)) (hn : i + 1 < K.2.2.2.2.2.2.2.2.2.2.2.2.2.2.1) (hl : zset2 i (zL v) lv = lv') (kk : zS o G (zJ K cells slots (pc + 2) lv' st hp)) : zS o G (zJ K cells slots pc lv (zL v :: st) hp) := by
  obtain ⟨p, l, e, R, s, m, args, below, meth, c, D, cA, A, Q, nL, ad0, n0⟩ := K
  obtain ⟨hx, hb, hml, hown, hts, hK, hA, hR, hlk⟩ := X
  intro r h1 h2 ad H locs ls e1 e2 e3 e4 e5 e6 e7 e8 e9
  subst hl
  refine lv_lstore hx hb hd e9 hn (zset2_map ad i (zL v) lv) (fun ls' e9' => ?_)
  exact kk r h1 h2 ad H locs ls' e1 e2 e3 (zset2_ok (zOk_hd e5) e4) (zOk_tl e5) e6 e7 e8 e9'
theorem z_dstore {i : Nat} {v : UInt64} {lv' : List (Nat × zPV)} (X : zX K cc own Ts R0) (hd : decode cc pc = .ok (.dstore i, 2)) (hn : i + 1 < K.2.2.2.2.2.2.2.2.2.2.2.2.2.2.1) (hl : zset2 i (zD v) lv = lv') (kk : zS o G (zJ K cells slots (pc + 2) lv' st hp)) : zS o G (zJ K cells slots pc lv (zD v :: st) hp) := by
  obtain ⟨p, l, e, R, s, m, args, below, meth, c, D, cA, A, Q, nL, ad0, n0⟩ := K
  obtain ⟨hx, hb, hml, hown, hts, hK, hA, hR, hlk⟩ := X
  intro r h1 h2 ad H locs ls e1 e2 e3 e4 e5 e6 e7 e8 e9
  subst hl
  refine lv_dstore hx hb hd e9 hn (zset2_map ad i (zD v) lv) (fun ls' e9' => ?_)
  exact kk r h1 h2 ad H locs ls' e1 e2 e3 (zset2_ok (zOk_hd e5) e4) (zOk_tl e5) e6 e7 e8 e9'
theorem z_astoreA {i : Nat} {v : Nat} {lv' : List (Nat × zPV)} (X : zX K cc own Ts R0) (hd : decode cc pc = .ok (.astore i, 2)) (hn : i < K.2.2.2.2.2.2.2.2.2.2.2.2.2.2.1) (hl : zset1 i (zA v) lv = lv') (kk : zS o G (zJ K cells slots (pc + 2) lv' st hp)) : zS o G (zJ K cells slots pc lv (zA v :: st) hp) := by
  obtain ⟨p, l, e, R, s, m, args, below, meth, c, D, cA, A, Q, nL, ad0, n0⟩ := K
  obtain ⟨hx, hb, hml, hown, hts, hK, hA, hR, hlk⟩ := X
  intro r h1 h2 ad H locs ls e1 e2 e3 e4 e5 e6 e7 e8 e9
  subst hl
  refine lv_astore hx hb hd e9 hn (zset1_map ad i (zA v) lv) (fun ls' e9' => ?_)
  exact kk r h1 h2 ad H locs ls' e1 e2 e3 (zset1_ok (zOk_hd e5) e4) (zOk_tl e5) e6 e7 e8 e9'
theorem z_istore_n {j : Fin 4} {i : Nat} {v : Int} {lv' : List (Nat × zPV)} (X : zX K cc own Ts R0) (hd : decode cc pc = .ok (.istore_n j, 1)) (hi : (j : Nat) = i) (hn : i < K.2.2.2.2.2.2.2.2.2.2.2.2.2.2.1) (hl : zset1 i (zI v) lv = lv') (kk : zS o G (zJ K cells slots (pc + 1) lv' st hp)) : zS o G (zJ K cells slots pc lv (zI v :: st) hp) := by
  obtain ⟨p, l, e, R, s, m, args, below, meth, c, D, cA, A, Q, nL, ad0, n0⟩ := K
  obtain ⟨hx, hb, hml, hown, hts, hK, hA, hR, hlk⟩ := X
  intro r h1 h2 ad H locs ls e1 e2 e3 e4 e5 e6 e7 e8 e9
  subst hl
  refine lv_istore_n hx hb hd hi e9 hn (zset1_map ad i (zI v) lv) (fun ls' e9' => ?_)
  exact kk r h1 h2 ad H locs ls' e1 e2 e3 (zset1_ok (zOk_hd e5) e4) (zOk_tl e5) e6 e7 e8 e9'
theorem z_lstore_n {j : Fin 4} {i : Nat} {v : Int64} {lv' : List (Nat × zPV)} (X : zX K cc own Ts R0) (hd : decode cc pc = .ok (.lstore_n j, 1)) (hi : (j : Nat) = i) (hn : i + 1 < K.2.2.2.2.2.2.2.2.2.2.2.2.2.2.1) (hl : zset2 i (zL v) lv = lv') (kk : zS o G (zJ K cells slots (pc + 1) lv' st hp)) : zS o G (zJ K cells slots pc lv (zL v :: st) hp) := by
  obtain ⟨p, l, e, R, s, m, args, below, meth, c, D, cA, A, Q, nL, ad0, n0⟩ := K
  obtain ⟨hx, hb, hml, hown, hts, hK, hA, hR, hlk⟩ := X
  intro r h1 h2 ad H locs ls e1 e2 e3 e4 e5 e6 e7 e8 e9
  subst hl
  refine lv_lstore_n hx hb hd hi e9 hn (zset2_map ad i (zL v) lv) (fun ls' e9' => ?_)
  exact kk r h1 h2 ad H locs ls' e1 e2 e3 (zset2_ok (zOk_hd e5) e4) (zOk_tl e5) e6 e7 e8 e9'
theorem z_astore_nA {j : Fin 4} {i : Nat} {v : Nat} {lv' : List (Nat × zPV)} (X : zX K cc own Ts R0) (hd : decode cc pc = .ok (.astore_n j, 1)) (hi : (j : Nat) = i) (hn : i < K.2.2.2.2.2.2.2.2.2.2.2.2.2.2.1) (hl : zset1 i (zA v) lv = lv') (kk : zS o G (zJ K cells slots (pc + 1) lv' st hp)) : zS o G (zJ K cells slots pc lv (zA v :: st) hp) := by
  obtain ⟨p, l, e, R, s, m, args, below, meth, c, D, cA, A, Q, nL, ad0, n0⟩ := K
  obtain ⟨hx, hb, hml, hown, hts, hK, hA, hR, hlk⟩ := X
  intro r h1 h2 ad H locs ls e1 e2 e3 e4 e5 e6 e7 e8 e9
  subst hl
  refine lv_astore_n hx hb hd hi e9 hn (zset1_map ad i (zA v) lv) (fun ls' e9' => ?_)
  exact kk r h1 h2 ad H locs ls' e1 e2 e3 (zset1_ok (zOk_hd e5) e4) (zOk_tl e5) e6 e7 e8 e9'
theorem z_astore {i : Nat} {v : Option Nat} {lv' : List (Nat × zPV)} (X : zX K cc own Ts R0) (hd : decode cc pc = .ok (.astore i, 2)) (hn : i < K.2.2.2.2.2.2.2.2.2.2.2.2.2.2.1) (hl : zset1 i (zR v) lv = lv') (kk : zS o G (zJ K cells slots (pc + 2) lv' st hp)) : zS o G (zJ K cells slots pc lv (zR v :: st) hp) := by
  obtain ⟨p, l, e, R, s, m, args, below, meth, c, D, cA, A, Q, nL, ad0, n0⟩ := K
  obtain ⟨hx, hb, hml, hown, hts, hK, hA, hR, hlk⟩ := X
  intro r h1 h2 ad H locs ls e1 e2 e3 e4 e5 e6 e7 e8 e9
  subst hl
  have hk := fun ls' e9' => kk r h1 h2 ad H locs ls' e1 e2 e3 (zset1_ok (zOk_hd e5) e4) (zOk_tl e5) e6 e7 e8 e9'
  cases v with
  | none => exact lv_astoreN hx hb hd e9 hn (zset1_map ad i (zR none) lv) hk
  | some a => exact lv_astore hx hb hd e9 hn (zset1_map ad i (zR (some a)) lv) hk
theorem z_astore_n {j : Fin 4} {i : Nat} {v : Option Nat} {lv' : List (Nat × zPV)} (X : zX K cc own Ts R0) (hd : decode cc pc = .ok (.astore_n j, 1)) (hi : (j : Nat) = i) (hn : i < K.2.2.2.2.2.2.2.2.2.2.2.2.2.2.1) (hl : zset1 i (zR v) lv = lv') (kk : zS o G (zJ K cells slots (pc + 1) lv' st hp)) : zS o G (zJ K cells slots pc lv (zR v :: st) hp) := by
  obtain ⟨p, l, e, R, s, m, args, below, meth, c, D, cA, A, Q, nL, ad0, n0⟩ := K
  obtain ⟨hx, hb, hml, hown, hts, hK, hA, hR, hlk⟩ := X
  intro r h1 h2 ad H locs ls e1 e2 e3 e4 e5 e6 e7 e8 e9
  subst hl
  have hk := fun ls' e9' => kk r h1 h2 ad H locs ls' e1 e2 e3 (zset1_ok (zOk_hd e5) e4) (zOk_tl e5) e6 e7 e8 e9'
  cases v with
  | none => exact lv_astore_nN hx hb hd hi e9 hn (zset1_map ad i (zR none) lv) hk
  | some a => exact lv_astore_n hx hb hd hi e9 hn (zset1_map ad i (zR (some a)) lv) hk
theorem z_iinc {i : Nat} {n a : Int} {lv' : Int → List (Nat × zPV)} {f : Int → Option ρ} (k : Nat) (X : zX K cc own Ts R0) (hd : decode cc pc = .ok (.iinc i n, 3)) (hk : lv[k]? = some (i, zI a)) (hn : i < K.2.2.2.2.2.2.2.2.2.2.2.2.2.2.1) (hl : ∀ v, zset1 i (zI v) lv = lv' v) (kk : ∀ v, inR v → v = a + n → zS (f v) G (zJ K cells slots (pc + 3) (lv' v) st hp)) : zS ((zchk (a + n)).bind f) G (zJ K cells slots pc lv st hp) := by
  obtain ⟨p, l, e, R, s, m, args, below, meth, c, D, cA, A, Q, nL, ad0, n0⟩ := K
  obtain ⟨hx, hb, hml, hown, hts, hK, hA, hR, hlk⟩ := X
  intro r h1 h2 ad H locs ls e1 e2 e3 e4 e5 e6 e7 e8 e9
  obtain ⟨v, hv, h1⟩ := Option.bind_eq_some_iff.mp h1
  obtain ⟨hr, rfl⟩ := zchk_some hv
  refine lv_iinc hx hb hd e9 (k := k) (x := Int32.ofInt a) (by rw [List.getElem?_map, hk]; rfl) (Int32.ofInt_add a n).symm hn (zset1_map ad i (zI (a + n)) lv) (fun ls' e9' => ?_)
  rw [hl] at e9'
  exact kk _ hr rfl r h1 h2 ad H locs ls' e1 e2 e3 (by rw [← hl]; exact zset1_ok hr e4) e5 e6 e7 e8 e9'
theorem z_iconst {n z : Int} (X : zX K cc own Ts R0) (hd : decode cc pc = .ok (.iconst n, 1)) (hv : n = z) (hz : inR z) (kk : zS o G (zJ K cells slots (pc + 1) lv (zI z :: st) hp)) : zS o G (zJ K cells slots pc lv st hp) := by
  obtain ⟨p, l, e, R, s, m, args, below, meth, c, D, cA, A, Q, nL, ad0, n0⟩ := K
  obtain ⟨hx, hb, hml, hown, hts, hK, hA, hR, hlk⟩ := X
  intro r h1 h2 ad H locs ls e1 e2 e3 e4 e5 e6 e7 e8 e9
  refine lv_iconst hx hb hd (by rw [hv]) ?_
  exact kk r h1 h2 ad H locs ls e1 e2 e3 e4 (zOk_cons hz e5) e6 e7 e8 e9
theorem z_bipush {n z : Int} (X : zX K cc own Ts R0) (hd : decode cc pc = .ok (.bipush n, 2)) (hv : (Int8.ofInt n).toInt32 = Int32.ofInt z) (hz : inR z) (kk : zS o G (zJ K cells slots (pc + 2) lv (zI z :: st) hp)) : zS o G (zJ K cells slots pc lv st hp) := by
  obtain ⟨p, l, e, R, s, m, args, below, meth, c, D, cA, A, Q, nL, ad0, n0⟩ := K
  obtain ⟨hx, hb, hml, hown, hts, hK, hA, hR, hlk⟩ := X
  intro r h1 h2 ad H locs ls e1 e2 e3 e4 e5 e6 e7 e8 e9
  refine lv_bipush hx hb hd hv ?_
  exact kk r h1 h2 ad H locs ls e1 e2 e3 e4 (zOk_cons hz e5) e6 e7 e8 e9
theorem z_sipush {n z : Int} (X : zX K cc own Ts R0) (hd : decode cc pc = .ok (.sipush n, 3)) (hv : (Int16.ofInt n).toInt32 = Int32.ofInt z) (hz : inR z) (kk : zS o G (zJ K cells slots (pc + 3) lv (zI z :: st) hp)) : zS o G (zJ K cells slots pc lv st hp) := by
  obtain ⟨p, l, e, R, s, m, args, below, meth, c, D, cA, A, Q, nL, ad0, n0⟩ := K
  obtain ⟨hx, hb, hml, hown, hts, hK, hA, hR, hlk⟩ := X
  intro r h1 h2 ad H locs ls e1 e2 e3 e4 e5 e6 e7 e8 e9
  refine lv_sipush hx hb hd hv ?_
  exact kk r h1 h2 ad H locs ls e1 e2 e3 e4 (zOk_cons hz e5) e6 e7 e8 e9
theorem z_ldc {idx : Nat} {z : Int} (X : zX K cc own Ts R0) (hd : decode cc pc = .ok (.ldc idx, 2)) (hw : Cond.constant own idx (Int32.ofInt z) ∈ Ts) (hz : inR z) (kk : zS o G (zJ K cells slots (pc + 2) lv (zI z :: st) hp)) : zS o G (zJ K cells slots pc lv st hp) := by
  obtain ⟨p, l, e, R, s, m, args, below, meth, c, D, cA, A, Q, nL, ad0, n0⟩ := K
  obtain ⟨hx, hb, hml, hown, hts, hK, hA, hR, hlk⟩ := X
  intro r h1 h2 ad H locs ls e1 e2 e3 e4 e5 e6 e7 e8 e9
  refine lv_ldc hx hb hown (hts _ hw) hd ?_
  exact kk r h1 h2 ad H locs ls e1 e2 e3 e4 (zOk_cons hz e5) e6 e7 e8 e9
theorem z_ldc2 {idx : Nat} {z : Int64} (X : zX K cc own Ts R0) (hd : decode cc pc = .ok (.ldc2_w idx, 3)) (hw : Cond.constantLong own idx z ∈ Ts) (kk : zS o G (zJ K cells slots (pc + 3) lv (zL z :: st) hp)) : zS o G (zJ K cells slots pc lv st hp) := by
  obtain ⟨p, l, e, R, s, m, args, below, meth, c, D, cA, A, Q, nL, ad0, n0⟩ := K
  obtain ⟨hx, hb, hml, hown, hts, hK, hA, hR, hlk⟩ := X
  intro r h1 h2 ad H locs ls e1 e2 e3 e4 e5 e6 e7 e8 e9
  refine lv_ldc2 hx hb hown (hts _ hw) hd ?_
  exact kk r h1 h2 ad H locs ls e1 e2 e3 e4 (zOk_cons trivial e5) e6 e7 e8 e9
theorem z_lconst {n : Fin 2} {z : Int64} (X : zX K cc own Ts R0) (hd : decode cc pc = .ok (.lconst n, 1)) (hv : Int64.ofNat (n : Nat) = z) (kk : zS o G (zJ K cells slots (pc + 1) lv (zL z :: st) hp)) : zS o G (zJ K cells slots pc lv st hp) := by
  obtain ⟨p, l, e, R, s, m, args, below, meth, c, D, cA, A, Q, nL, ad0, n0⟩ := K
  obtain ⟨hx, hb, hml, hown, hts, hK, hA, hR, hlk⟩ := X
  intro r h1 h2 ad H locs ls e1 e2 e3 e4 e5 e6 e7 e8 e9
  refine lv_lconst hx hb hd hv ?_
  exact kk r h1 h2 ad H locs ls e1 e2 e3 e4 (zOk_cons trivial e5) e6 e7 e8 e9
theorem z_null (X : zX K cc own Ts R0) (hd : decode cc pc = .ok (.aconst_null, 1)) (kk : zS o G (zJ K cells slots (pc + 1) lv (zR none :: st) hp)) : zS o G (zJ K cells slots pc lv st hp) := by
  obtain ⟨p, l, e, R, s, m, args, below, meth, c, D, cA, A, Q, nL, ad0, n0⟩ := K
  obtain ⟨hx, hb, hml, hown, hts, hK, hA, hR, hlk⟩ := X
  intro r h1 h2 ad H locs ls e1 e2 e3 e4 e5 e6 e7 e8 e9
  refine lv_null hx hb hd ?_
  exact kk r h1 h2 ad H locs ls e1 e2 e3 e4 (zOk_cons (fun _ h => by cases h) e5) e6 e7 e8 e9
theorem z_dup {v : zPV} (X : zX K cc own Ts R0) (hd : decode cc pc = .ok (.dup, 1)) (hc : zcat v = 1) (kk : zS o G (zJ K cells slots (pc + 1) lv (v :: v :: st) hp)) : zS o G (zJ K cells slots pc lv (v :: st) hp) := by
  obtain ⟨p, l, e, R, s, m, args, below, meth, c, D, cA, A, Q, nL, ad0, n0⟩ := K
  obtain ⟨hx, hb, hml, hown, hts, hK, hA, hR, hlk⟩ := X
  intro r h1 h2 ad H locs ls e1 e2 e3 e4 e5 e6 e7 e8 e9
  refine lv_dup hx hb hd (by rw [zcat_T]; exact hc) ?_
  exact kk r h1 h2 ad H locs ls e1 e2 e3 e4 (zOk_cons (zOk_hd e5) e5) e6 e7 e8 e9
theorem z_dup2 {v u : zPV} (X : zX K cc own Ts R0) (hd : decode cc pc = .ok (.dup2, 1)) (hc : zcat v = 1) (hc2 : zcat u = 1) (kk : zS o G (zJ K cells slots (pc + 1) lv (v :: u :: v :: u :: st) hp)) : zS o G (zJ K cells slots pc lv (v :: u :: st) hp) := by
  obtain ⟨p, l, e, R, s, m, args, below, meth, c, D, cA, A, Q, nL, ad0, n0⟩ := K
  obtain ⟨hx, hb, hml, hown, hts, hK, hA, hR, hlk⟩ := X
  intro r h1 h2 ad H locs ls e1 e2 e3 e4 e5 e6 e7 e8 e9
  refine lv_dup2_11 hx hb hd (by rw [zcat_T]; exact hc) (by rw [zcat_T]; exact hc2) ?_
  exact kk r h1 h2 ad H locs ls e1 e2 e3 e4 (zOk_cons (zOk_hd e5) (zOk_cons (zOk_hd (zOk_tl e5)) e5)) e6 e7 e8 e9
theorem z_pop {v : zPV} (X : zX K cc own Ts R0) (hd : decode cc pc = .ok (.pop, 1)) (hc : zcat v = 1) (kk : zS o G (zJ K cells slots (pc + 1) lv st hp)) : zS o G (zJ K cells slots pc lv (v :: st) hp) := by
  obtain ⟨p, l, e, R, s, m, args, below, meth, c, D, cA, A, Q, nL, ad0, n0⟩ := K
  obtain ⟨hx, hb, hml, hown, hts, hK, hA, hR, hlk⟩ := X
  intro r h1 h2 ad H locs ls e1 e2 e3 e4 e5 e6 e7 e8 e9
  refine lv_pop hx hb hd (by rw [zcat_T]; exact hc) ?_
  exact kk r h1 h2 ad H locs ls e1 e2 e3 e4 (zOk_tl e5) e6 e7 e8 e9
theorem z_goto {off : Int} (tgt : Nat) (X : zX K cc own Ts R0) (hd : decode cc pc = .ok (.goto off, 3)) (ht : (pc : Int) + off = (tgt : Int)) (kk : zS o G (zJ K cells slots tgt lv st hp)) : zS o G (zJ K cells slots pc lv st hp) := by
  obtain ⟨p, l, e, R, s, m, args, below, meth, c, D, cA, A, Q, nL, ad0, n0⟩ := K
  obtain ⟨hx, hb, hml, hown, hts, hK, hA, hR, hlk⟩ := X
  intro r h1 h2 ad H locs ls e1 e2 e3 e4 e5 e6 e7 e8 e9
  refine lv_goto hx hb hd ht ?_
  exact kk r h1 h2 ad H locs ls e1 e2 e3 e4 e5 e6 e7 e8 e9
theorem z_iadd {a b : Int} {f : Int → Option ρ} (X : zX K cc own Ts R0) (hd : decode cc pc = .ok (.iadd, 1)) (kk : ∀ v, inR v → v = a + b → zS (f v) G (zJ K cells slots (pc + 1) lv (zI v :: st) hp)) : zS ((zchk (a + b)).bind f) G (zJ K cells slots pc lv (zI b :: zI a :: st) hp) := by
  obtain ⟨p, l, e, R, s, m, args, below, meth, c, D, cA, A, Q, nL, ad0, n0⟩ := K
  obtain ⟨hx, hb, hml, hown, hts, hK, hA, hR, hlk⟩ := X
  intro r h1 h2 ad H locs ls e1 e2 e3 e4 e5 e6 e7 e8 e9
  obtain ⟨v, hv, h1⟩ := Option.bind_eq_some_iff.mp h1
  obtain ⟨hr, rfl⟩ := zchk_some hv
  refine lv_iadd hx hb hd ?_
  rw [← Int32.ofInt_add]
  exact kk _ hr rfl r h1 h2 ad H locs ls e1 e2 e3 e4 (zOk_cons hr (zOk_tl (zOk_tl e5))) e6 e7 e8 e9
theorem z_isub {a b : Int} {f : Int → Option ρ} (X : zX K cc own Ts R0) (hd : decode cc pc = .ok (.isub, 1)) (kk : ∀ v, inR v → v = a - b → zS (f v) G (zJ K cells slots (pc + 1) lv (zI v :: st) hp)) : zS ((zchk (a - b)).bind f) G (zJ K cells slots pc lv (zI b :: zI a :: st) hp) := by
  obtain ⟨p, l, e, R, s, m, args, below, meth, c, D, cA, A, Q, nL, ad0, n0⟩ := K
  obtain ⟨hx, hb, hml, hown, hts, hK, hA, hR, hlk⟩ := X
  intro r h1 h2 ad H locs ls e1 e2 e3 e4 e5 e6 e7 e8 e9
  obtain ⟨v, hv, h1⟩ := Option.bind_eq_some_iff.mp h1
  obtain ⟨hr, rfl⟩ := zchk_some hv
  refine lv_isub hx hb hd ?_
  rw [← Int32.ofInt_sub]
  exact kk _ hr rfl r h1 h2 ad H locs ls e1 e2 e3 e4 (zOk_cons hr (zOk_tl (zOk_tl e5))) e6 e7 e8 e9
theorem z_imul {a b : Int} {f : Int → Option ρ} (X : zX K cc own Ts R0) (hd : decode cc pc = .ok (.imul, 1)) (kk : ∀ v, inR v → v = a * b → zS (f v) G (zJ K cells slots (pc + 1) lv (zI v :: st) hp)) : zS ((zchk (a * b)).bind f) G (zJ K cells slots pc lv (zI b :: zI a :: st) hp) := by
  obtain ⟨p, l, e, R, s, m, args, below, meth, c, D, cA, A, Q, nL, ad0, n0⟩ := K
  obtain ⟨hx, hb, hml, hown, hts, hK, hA, hR, hlk⟩ := X
  intro r h1 h2 ad H locs ls e1 e2 e3 e4 e5 e6 e7 e8 e9
  obtain ⟨v, hv, h1⟩ := Option.bind_eq_some_iff.mp h1
  obtain ⟨hr, rfl⟩ := zchk_some hv
  refine lv_imul hx hb hd ?_
  rw [← Int32.ofInt_mul]
  exact kk _ hr rfl r h1 h2 ad H locs ls e1 e2 e3 e4 (zOk_cons hr (zOk_tl (zOk_tl e5))) e6 e7 e8 e9
theorem z_ineg {a : Int} {f : Int → Option ρ} (X : zX K cc own Ts R0) (hd : decode cc pc = .ok (.ineg, 1)) (kk : ∀ v, inR v → v = -a → zS (f v) G (zJ K cells slots (pc + 1) lv (zI v :: st) hp)) : zS ((zchk (-a)).bind f) G (zJ K cells slots pc lv (zI a :: st) hp) := by
  obtain ⟨p, l, e, R, s, m, args, below, meth, c, D, cA, A, Q, nL, ad0, n0⟩ := K
  obtain ⟨hx, hb, hml, hown, hts, hK, hA, hR, hlk⟩ := X
  intro r h1 h2 ad H locs ls e1 e2 e3 e4 e5 e6 e7 e8 e9
  obtain ⟨v, hv, h1⟩ := Option.bind_eq_some_iff.mp h1
  obtain ⟨hr, rfl⟩ := zchk_some hv
  refine lv_ineg hx hb hd ?_
  rw [← Int32.ofInt_neg]
  exact kk _ hr rfl r h1 h2 ad H locs ls e1 e2 e3 e4 (zOk_cons hr (zOk_tl e5)) e6 e7 e8 e9
theorem z_idiv {a b : Int} {f : Int → Option ρ} (X : zX K cc own Ts R0) (hd : decode cc pc = .ok (.idiv, 1)) (kk : ∀ v, zS (f v) G (zJ K cells slots (pc + 1) lv (zI v :: st) hp)) : zS ((zdiv a b).bind f) G (zJ K cells slots pc lv (zI b :: zI a :: st) hp) := by
  obtain ⟨p, l, e, R, s, m, args, below, meth, c, D, cA, A, Q, nL, ad0, n0⟩ := K
  obtain ⟨hx, hb, hml, hown, hts, hK, hA, hR, hlk⟩ := X
  intro r h1 h2 ad H locs ls e1 e2 e3 e4 e5 e6 e7 e8 e9
  obtain ⟨v, hv, h1⟩ := Option.bind_eq_some_iff.mp h1
  unfold zdiv at hv
  split at hv
  · rename_i hz
    cases hv
    have hbR : inR b := zOk_hd e5
    have haR : inR a := zOk_hd (zOk_tl e5)
    refine lv_idiv hx hb hd (fun h0 => ?_) ?_
    · rw [z32_0, z32_eq hbR inR_0] at h0
      omega
    · rw [z32_div haR hbR hz.1 hz.2]
      refine kk _ r h1 h2 ad H locs ls e1 e2 e3 e4 (zOk_cons ?_ (zOk_tl (zOk_tl e5))) e6 e7 e8 e9
      have := Int.ediv_le_self b hz.1
      have := Int.ediv_nonneg hz.1 (Int.le_of_lt hz.2)
      exact ⟨by have := haR.2; omega, by have := haR.2; have := hbR.2; omega⟩
  · cases hv
theorem z_irem {a b : Int} {f : Int → Option ρ} (X : zX K cc own Ts R0) (hd : decode cc pc = .ok (.irem, 1)) (kk : ∀ v, zS (f v) G (zJ K cells slots (pc + 1) lv (zI v :: st) hp)) : zS ((zrem a b).bind f) G (zJ K cells slots pc lv (zI b :: zI a :: st) hp) := by
  obtain ⟨p, l, e, R, s, m, args, below, meth, c, D, cA, A, Q, nL, ad0, n0⟩ := K
  obtain ⟨hx, hb, hml, hown, hts, hK, hA, hR, hlk⟩ := X
  intro r h1 h2 ad H locs ls e1 e2 e3 e4 e5 e6 e7 e8 e9
  obtain ⟨v, hv, h1⟩ := Option.bind_eq_some_iff.mp h1
  unfold zrem at hv
  split at hv
  · rename_i hz
    cases hv
    have hbR : inR b := zOk_hd e5
    have haR : inR a := zOk_hd (zOk_tl e5)
    refine lv_irem hx hb hd (fun h0 => ?_) ?_
    · rw [z32_0, z32_eq hbR inR_0] at h0
      omega
    · rw [z32_rem haR hbR hz.1 hz.2]
      refine kk _ r h1 h2 ad H locs ls e1 e2 e3 e4 (zOk_cons ?_ (zOk_tl (zOk_tl e5))) e6 e7 e8 e9
      have := Int.emod_nonneg a (b := b) (by omega)
      have := Int.emod_lt_of_pos a hz.2
      exact ⟨by have := haR.2; omega, by have := haR.2; have := hbR.2; omega⟩
  · cases hv
theorem z_ior {a b : Int} {f : Int → Option ρ} (X : zX K cc own Ts R0) (hd : decode cc pc = .ok (.ior, 1)) (kk : ∀ v, zS (f v) G (zJ K cells slots (pc + 1) lv (zI v :: st) hp)) : zS ((zor a b).bind f) G (zJ K cells slots pc lv (zI b :: zI a :: st) hp) := by
  obtain ⟨p, l, e, R, s, m, args, below, meth, c, D, cA, A, Q, nL, ad0, n0⟩ := K
  obtain ⟨hx, hb, hml, hown, hts, hK, hA, hR, hlk⟩ := X
  intro r h1 h2 ad H locs ls e1 e2 e3 e4 e5 e6 e7 e8 e9
  obtain ⟨v, hv, h1⟩ := Option.bind_eq_some_iff.mp h1
  unfold zor at hv
  split at hv
  · rename_i hz
    refine lv_ior hx hb hd ?_
    obtain ⟨ha | ha, hb9 | hb9⟩ := hz <;> subst ha <;> subst hb9 <;> cases hv <;> exact kk _ r h1 h2 ad H locs ls e1 e2 e3 e4 (zOk_cons (by decide : (-2147483648 : Int) ≤ _ ∧ _ ≤ (2147483647 : Int)) (zOk_tl (zOk_tl e5))) e6 e7 e8 e9
  · cases hv
theorem z_iand {a b : Int} {f : Int → Option ρ} (X : zX K cc own Ts R0) (hd : decode cc pc = .ok (.iand, 1)) (kk : ∀ v, zS (f v) G (zJ K cells slots (pc + 1) lv (zI v :: st) hp)) : zS ((zand a b).bind f) G (zJ K cells slots pc lv (zI b :: zI a :: st) hp) := by
  obtain ⟨p, l, e, R, s, m, args, below, meth, c, D, cA, A, Q, nL, ad0, n0⟩ := K
  obtain ⟨hx, hb, hml, hown, hts, hK, hA, hR, hlk⟩ := X
  intro r h1 h2 ad H locs ls e1 e2 e3 e4 e5 e6 e7 e8 e9
  obtain ⟨v, hv, h1⟩ := Option.bind_eq_some_iff.mp h1
  unfold zand at hv
  split at hv
  · rename_i hz
    have haR : inR a := zOk_hd (zOk_tl e5)
    refine lv_iand hx hb hd ?_
    cases hv
    have key : ∀ k : Nat, k ≤ 5 → ∀ mm : Int32, mm.toBitVec.toNat = 2 ^ k - 1 → Int32.ofInt a &&& mm = Int32.ofInt (a % (2 ^ k : Nat)) := by
      intro k hk mm hm
      rw [pk_and _ k hm]
      have e0 : ((Int32.ofInt a).toBitVec.toNat : Int) = a % 4294967296 := by
        show ((BitVec.ofInt 32 a).toNat : Int) = _
        rw [BitVec.toNat_ofInt]
        have := Int.emod_nonneg a (show (4294967296 : Int) ≠ 0 by decide)
        show ((a % 4294967296).toNat : Int) = _
        omega
      have e1 : (((Int32.ofInt a).toBitVec.toNat % 2 ^ k : Nat) : Int) = a % (2 ^ k : Nat) := by
        rw [Int.natCast_emod, e0]
        have : k = 0 ∨ k = 1 ∨ k = 2 ∨ k = 3 ∨ k = 4 ∨ k = 5 := by omega
        rcases this with rfl | rfl | rfl | rfl | rfl | rfl <;> simp <;> omega
      refine (z32_natI _).symm.trans ?_
      exact congrArg Int32.ofInt e1
    rcases hz with rfl | rfl
    · rw [key 1 (by decide) (Int32.ofInt 1) rfl]
      refine kk _ r h1 h2 ad H locs ls e1 e2 e3 e4 (zOk_cons ?_ (zOk_tl (zOk_tl e5))) e6 e7 e8 e9
      exact ⟨by omega, by omega⟩
    · rw [key 5 (by decide) (Int32.ofInt 31) rfl]
      refine kk _ r h1 h2 ad H locs ls e1 e2 e3 e4 (zOk_cons ?_ (zOk_tl (zOk_tl e5))) e6 e7 e8 e9
      exact ⟨by omega, by omega⟩
  · cases hv
theorem z_icmp_eq {a b off : Int} {o1 o2 : Option ρ} (tgt : Nat) (X : zX K cc own Ts R0) (hd : decode cc pc = .ok (.if_icmp .eq off, 3)) (ht : (pc : Int) + off = (tgt : Int)) (k1 : a = b → zS o1 G (zJ K cells slots tgt lv st hp)) (k2 : ¬ a = b → zS o2 G (zJ K cells slots (pc + 3) lv st hp)) : zS (if a = b then o1 else o2) G (zJ K cells slots pc lv (zI b :: zI a :: st) hp) := by
  obtain ⟨p, l, e, R, s, m, args, below, meth, c, D, cA, A, Q, nL, ad0, n0⟩ := K
  obtain ⟨hx, hb, hml, hown, hts, hK, hA, hR, hlk⟩ := X
  intro r h1 h2 ad H locs ls e1 e2 e3 e4 e5 e6 e7 e8 e9
  have hbR : inR b := zOk_hd e5
  have haR : inR a := zOk_hd (zOk_tl e5)
  refine lv_icmp_eq (tgt := tgt) hx hb hd ht (fun hc => ?_) (fun hc => ?_)
  · rw [z32_eq haR hbR] at hc
    rw [if_pos hc] at h1
    exact k1 hc r h1 h2 ad H locs ls e1 e2 e3 e4 (zOk_tl (zOk_tl e5)) e6 e7 e8 e9
  · rw [z32_eq haR hbR] at hc
    rw [if_neg hc] at h1
    exact k2 hc r h1 h2 ad H locs ls e1 e2 e3 e4 (zOk_tl (zOk_tl e5)) e6 e7 e8 e9
theorem z_if_eq {a off : Int} {o1 o2 : Option ρ} (tgt : Nat) (X : zX K cc own Ts R0) (hd : decode cc pc = .ok (.ifCond .eq off, 3)) (ht : (pc : Int) + off = (tgt : Int)) (k1 : a = 0 → zS o1 G (zJ K cells slots tgt lv st hp)) (k2 : ¬ a = 0 → zS o2 G (zJ K cells slots (pc + 3) lv st hp)) : zS (if a = 0 then o1 else o2) G (zJ K cells slots pc lv (zI a :: st) hp) := by
  obtain ⟨p, l, e, R, s, m, args, below, meth, c, D, cA, A, Q, nL, ad0, n0⟩ := K
  obtain ⟨hx, hb, hml, hown, hts, hK, hA, hR, hlk⟩ := X
  intro r h1 h2 ad H locs ls e1 e2 e3 e4 e5 e6 e7 e8 e9
  have haR : inR a := zOk_hd e5
  refine lv_if_eq (tgt := tgt) hx hb hd ht (fun hc => ?_) (fun hc => ?_)
  · rw [z32_0, z32_eq haR inR_0] at hc
    rw [if_pos hc] at h1
    exact k1 hc r h1 h2 ad H locs ls e1 e2 e3 e4 (zOk_tl e5) e6 e7 e8 e9
  · rw [z32_0, z32_eq haR inR_0] at hc
    rw [if_neg hc] at h1
    exact k2 hc r h1 h2 ad H locs ls e1 e2 e3 e4 (zOk_tl e5) e6 e7 e8 e9
theorem z_icmp_ne {a b off : Int} {o1 o2 : Option ρ} (tgt : Nat) (X : zX K cc own Ts R0) (hd : decode cc pc = .ok (.if_icmp .ne off, 3)) (ht : (pc : Int) + off = (tgt : Int)) (k1 : ¬ a = b → zS o1 G (zJ K cells slots tgt lv st hp)) (k2 : a = b → zS o2 G (zJ K cells slots (pc + 3) lv st hp)) : zS (if a = b then o2 else o1) G (zJ K cells slots pc lv (zI b :: zI a :: st) hp) := by
  obtain ⟨p, l, e, R, s, m, args, below, meth, c, D, cA, A, Q, nL, ad0, n0⟩ := K
  obtain ⟨hx, hb, hml, hown, hts, hK, hA, hR, hlk⟩ := X
  intro r h1 h2 ad H locs ls e1 e2 e3 e4 e5 e6 e7 e8 e9
  have hbR : inR b := zOk_hd e5
  have haR : inR a := zOk_hd (zOk_tl e5)
  refine lv_icmp_ne (tgt := tgt) hx hb hd ht (fun hc => ?_) (fun hc => ?_)
  · rw [z32_eq haR hbR] at hc
    rw [if_neg hc] at h1
    exact k1 hc r h1 h2 ad H locs ls e1 e2 e3 e4 (zOk_tl (zOk_tl e5)) e6 e7 e8 e9
  · rw [z32_eq haR hbR] at hc
    rw [if_pos hc] at h1
    exact k2 hc r h1 h2 ad H locs ls e1 e2 e3 e4 (zOk_tl (zOk_tl e5)) e6 e7 e8 e9
theorem z_if_ne {a off : Int} {o1 o2 : Option ρ} (tgt : Nat) (X : zX K cc own Ts R0) (hd : decode cc pc = .ok (.ifCond .ne off, 3)) (ht : (pc : Int) + off = (tgt : Int)) (k1 : ¬ a = 0 → zS o1 G (zJ K cells slots tgt lv st hp)) (k2 : a = 0 → zS o2 G (zJ K cells slots (pc + 3) lv st hp)) : zS (if a = 0 then o2 else o1) G (zJ K cells slots pc lv (zI a :: st) hp) := by
  obtain ⟨p, l, e, R, s, m, args, below, meth, c, D, cA, A, Q, nL, ad0, n0⟩ := K
  obtain ⟨hx, hb, hml, hown, hts, hK, hA, hR, hlk⟩ := X
  intro r h1 h2 ad H locs ls e1 e2 e3 e4 e5 e6 e7 e8 e9
  have haR : inR a := zOk_hd e5
  refine lv_if_ne (tgt := tgt) hx hb hd ht (fun hc => ?_) (fun hc => ?_)
  · rw [z32_0, z32_eq haR inR_0] at hc
    rw [if_neg hc] at h1
    exact k1 hc r h1 h2 ad H locs ls e1 e2 e3 e4 (zOk_tl e5) e6 e7 e8 e9
  · rw [z32_0, z32_eq haR inR_0] at hc
    rw [if_pos hc] at h1
    exact k2 hc r h1 h2 ad H locs ls e1 e2 e3 e4 (zOk_tl e5) e6 e7 e8 e9
theorem z_icmp_lt {a b off : Int} {o1 o2 : Option ρ} (tgt : Nat) (X : zX K cc own Ts R0) (hd : decode cc pc = .ok (.if_icmp .lt off, 3)) (ht : (pc : Int) + off = (tgt : Int)) (k1 : a < b → zS o1 G (zJ K cells slots tgt lv st hp)) (k2 : ¬ a < b → zS o2 G (zJ K cells slots (pc + 3) lv st hp)) : zS (if a < b then o1 else o2) G (zJ K cells slots pc lv (zI b :: zI a :: st) hp) := by
  obtain ⟨p, l, e, R, s, m, args, below, meth, c, D, cA, A, Q, nL, ad0, n0⟩ := K
  obtain ⟨hx, hb, hml, hown, hts, hK, hA, hR, hlk⟩ := X
  intro r h1 h2 ad H locs ls e1 e2 e3 e4 e5 e6 e7 e8 e9
  have hbR : inR b := zOk_hd e5
  have haR : inR a := zOk_hd (zOk_tl e5)
  refine lv_icmp_lt (tgt := tgt) hx hb hd ht (fun hc => ?_) (fun hc => ?_)
  · rw [z32_lt haR hbR] at hc
    rw [if_pos hc] at h1
    exact k1 hc r h1 h2 ad H locs ls e1 e2 e3 e4 (zOk_tl (zOk_tl e5)) e6 e7 e8 e9
  · rw [z32_lt haR hbR] at hc
    rw [if_neg hc] at h1
    exact k2 hc r h1 h2 ad H locs ls e1 e2 e3 e4 (zOk_tl (zOk_tl e5)) e6 e7 e8 e9
theorem z_if_lt {a off : Int} {o1 o2 : Option ρ} (tgt : Nat) (X : zX K cc own Ts R0) (hd : decode cc pc = .ok (.ifCond .lt off, 3)) (ht : (pc : Int) + off = (tgt : Int)) (k1 : a < 0 → zS o1 G (zJ K cells slots tgt lv st hp)) (k2 : ¬ a < 0 → zS o2 G (zJ K cells slots (pc + 3) lv st hp)) : zS (if a < 0 then o1 else o2) G (zJ K cells slots pc lv (zI a :: st) hp) := by
  obtain ⟨p, l, e, R, s, m, args, below, meth, c, D, cA, A, Q, nL, ad0, n0⟩ := K
  obtain ⟨hx, hb, hml, hown, hts, hK, hA, hR, hlk⟩ := X
  intro r h1 h2 ad H locs ls e1 e2 e3 e4 e5 e6 e7 e8 e9
  have haR : inR a := zOk_hd e5
  refine lv_if_lt (tgt := tgt) hx hb hd ht (fun hc => ?_) (fun hc => ?_)
  · rw [z32_0, z32_lt haR inR_0] at hc
    rw [if_pos hc] at h1
    exact k1 hc r h1 h2 ad H locs ls e1 e2 e3 e4 (zOk_tl e5) e6 e7 e8 e9
  · rw [z32_0, z32_lt haR inR_0] at hc
    rw [if_neg hc] at h1
    exact k2 hc r h1 h2 ad H locs ls e1 e2 e3 e4 (zOk_tl e5) e6 e7 e8 e9
theorem z_icmp_ge {a b off : Int} {o1 o2 : Option ρ} (tgt : Nat) (X : zX K cc own Ts R0) (hd : decode cc pc = .ok (.if_icmp .ge off, 3)) (ht : (pc : Int) + off = (tgt : Int)) (k1 : b ≤ a → zS o1 G (zJ K cells slots tgt lv st hp)) (k2 : ¬ b ≤ a → zS o2 G (zJ K cells slots (pc + 3) lv st hp)) : zS (if b ≤ a then o1 else o2) G (zJ K cells slots pc lv (zI b :: zI a :: st) hp) := by
  obtain ⟨p, l, e, R, s, m, args, below, meth, c, D, cA, A, Q, nL, ad0, n0⟩ := K
  obtain ⟨hx, hb, hml, hown, hts, hK, hA, hR, hlk⟩ := X
  intro r h1 h2 ad H locs ls e1 e2 e3 e4 e5 e6 e7 e8 e9
  have hbR : inR b := zOk_hd e5
  have haR : inR a := zOk_hd (zOk_tl e5)
  refine lv_icmp_ge (tgt := tgt) hx hb hd ht (fun hc => ?_) (fun hc => ?_)
  · rw [z32_le hbR haR] at hc
    rw [if_pos hc] at h1
    exact k1 hc r h1 h2 ad H locs ls e1 e2 e3 e4 (zOk_tl (zOk_tl e5)) e6 e7 e8 e9
  · rw [z32_le hbR haR] at hc
    rw [if_neg hc] at h1
    exact k2 hc r h1 h2 ad H locs ls e1 e2 e3 e4 (zOk_tl (zOk_tl e5)) e6 e7 e8 e9
theorem z_if_ge {a off : Int} {o1 o2 : Option ρ} (tgt : Nat) (X : zX K cc own Ts R0) (hd : decode cc pc = .ok (.ifCond .ge off, 3)) (ht : (pc : Int) + off = (tgt : Int)) (k1 : 0 ≤ a → zS o1 G (zJ K cells slots tgt lv st hp)) (k2 : ¬ 0 ≤ a → zS o2 G (zJ K cells slots (pc + 3) lv st hp)) : zS (if 0 ≤ a then o1 else o2) G (zJ K cells slots pc lv (zI a :: st) hp) := by
  obtain ⟨p, l, e, R, s, m, args, below, meth, c, D, cA, A, Q, nL, ad0, n0⟩ := K
  obtain ⟨hx, hb, hml, hown, hts, hK, hA, hR, hlk⟩ := X
  intro r h1 h2 ad H locs ls e1 e2 e3 e4 e5 e6 e7 e8 e9
  have haR : inR a := zOk_hd e5
  refine lv_if_ge (tgt := tgt) hx hb hd ht (fun hc => ?_) (fun hc => ?_)
  · rw [z32_0, z32_le inR_0 haR] at hc
    rw [if_pos hc] at h1
    exact k1 hc r h1 h2 ad H locs ls e1 e2 e3 e4 (zOk_tl e5) e6 e7 e8 e9
  · rw [z32_0, z32_le inR_0 haR] at hc
    rw [if_neg hc] at h1
    exact k2 hc r h1 h2 ad H locs ls e1 e2 e3 e4 (zOk_tl e5) e6 e7 e8 e9
theorem z_icmp_gt {a b off : Int} {o1 o2 : Option ρ} (tgt : Nat) (X : zX K cc own Ts R0) (hd : decode cc pc = .ok (.if_icmp .gt off, 3)) (ht : (pc : Int) + off = (tgt : Int)) (k1 : b < a → zS o1 G (zJ K cells slots tgt lv st hp)) (k2 : ¬ b < a → zS o2 G (zJ K cells slots (pc + 3) lv st hp)) : zS (if b < a then o1 else o2) G (zJ K cells slots pc lv (zI b :: zI a :: st) hp) := by
  obtain ⟨p, l, e, R, s, m, args, below, meth, c, D, cA, A, Q, nL, ad0, n0⟩ := K
  obtain ⟨hx, hb, hml, hown, hts, hK, hA, hR, hlk⟩ := X
  intro r h1 h2 ad H locs ls e1 e2 e3 e4 e5 e6 e7 e8 e9
  have hbR : inR b := zOk_hd e5
  have haR : inR a := zOk_hd (zOk_tl e5)
  refine lv_icmp_gt (tgt := tgt) hx hb hd ht (fun hc => ?_) (fun hc => ?_)
  · rw [z32_lt hbR haR] at hc
    rw [if_pos hc] at h1
    exact k1 hc r h1 h2 ad H locs ls e1 e2 e3 e4 (zOk_tl (zOk_tl e5)) e6 e7 e8 e9
  · rw [z32_lt hbR haR] at hc
    rw [if_neg hc] at h1
    exact k2 hc r h1 h2 ad H locs ls e1 e2 e3 e4 (zOk_tl (zOk_tl e5)) e6 e7 e8 e9
theorem z_if_gt {a off : Int} {o1 o2 : Option ρ} (tgt : Nat) (X : zX K cc own Ts R0) (hd : decode cc pc = .ok (.ifCond .gt off, 3)) (ht : (pc : Int) + off = (tgt : Int)) (k1 : 0 < a → zS o1 G (zJ K cells slots tgt lv st hp)) (k2 : ¬ 0 < a → zS o2 G (zJ K cells slots (pc + 3) lv st hp)) : zS (if 0 < a then o1 else o2) G (zJ K cells slots pc lv (zI a :: st) hp) := by
  obtain ⟨p, l, e, R, s, m, args, below, meth, c, D, cA, A, Q, nL, ad0, n0⟩ := K
  obtain ⟨hx, hb, hml, hown, hts, hK, hA, hR, hlk⟩ := X
  intro r h1 h2 ad H locs ls e1 e2 e3 e4 e5 e6 e7 e8 e9
  have haR : inR a := zOk_hd e5
  refine lv_if_gt (tgt := tgt) hx hb hd ht (fun hc => ?_) (fun hc => ?_)
  · rw [z32_0, z32_lt inR_0 haR] at hc
    rw [if_pos hc] at h1
    exact k1 hc r h1 h2 ad H locs ls e1 e2 e3 e4 (zOk_tl e5) e6 e7 e8 e9
  · rw [z32_0, z32_lt inR_0 haR] at hc
    rw [if_neg hc] at h1
    exact k2 hc r h1 h2 ad H locs ls e1 e2 e3 e4 (zOk_tl e5) e6 e7 e8 e9
theorem z_icmp_le {a b off : Int} {o1 o2 : Option ρ} (tgt : Nat) (X : zX K cc own Ts R0) (hd : decode cc pc = .ok (.if_icmp .le off, 3)) (ht : (pc : Int) + off = (tgt : Int)) (k1 : a ≤ b → zS o1 G (zJ K cells slots tgt lv st hp)) (k2 : ¬ a ≤ b → zS o2 G (zJ K cells slots (pc + 3) lv st hp)) : zS (if a ≤ b then o1 else o2) G (zJ K cells slots pc lv (zI b :: zI a :: st) hp) := by
  obtain ⟨p, l, e, R, s, m, args, below, meth, c, D, cA, A, Q, nL, ad0, n0⟩ := K
  obtain ⟨hx, hb, hml, hown, hts, hK, hA, hR, hlk⟩ := X
  intro r h1 h2 ad H locs ls e1 e2 e3 e4 e5 e6 e7 e8 e9
  have hbR : inR b := zOk_hd e5
  have haR : inR a := zOk_hd (zOk_tl e5)
  refine lv_icmp_le (tgt := tgt) hx hb hd ht (fun hc => ?_) (fun hc => ?_)
  · rw [z32_le haR hbR] at hc
    rw [if_pos hc] at h1
    exact k1 hc r h1 h2 ad H locs ls e1 e2 e3 e4 (zOk_tl (zOk_tl e5)) e6 e7 e8 e9
  · rw [z32_le haR hbR] at hc
    rw [if_neg hc] at h1
    exact k2 hc r h1 h2 ad H locs ls e1 e2 e3 e4 (zOk_tl (zOk_tl e5)) e6 e7 e8 e9
theorem z_if_le {a off : Int} {o1 o2 : Option ρ} (tgt : Nat) (X : zX K cc own Ts R0) (hd : decode cc pc = .ok (.ifCond .le off, 3)) (ht : (pc : Int) + off = (tgt : Int)) (k1 : a ≤ 0 → zS o1 G (zJ K cells slots tgt lv st hp)) (k2 : ¬ a ≤ 0 → zS o2 G (zJ K cells slots (pc + 3) lv st hp)) : zS (if a ≤ 0 then o1 else o2) G (zJ K cells slots pc lv (zI a :: st) hp) := by
  obtain ⟨p, l, e, R, s, m, args, below, meth, c, D, cA, A, Q, nL, ad0, n0⟩ := K
  obtain ⟨hx, hb, hml, hown, hts, hK, hA, hR, hlk⟩ := X
  intro r h1 h2 ad H locs ls e1 e2 e3 e4 e5 e6 e7 e8 e9
  have haR : inR a := zOk_hd e5
  refine lv_if_le (tgt := tgt) hx hb hd ht (fun hc => ?_) (fun hc => ?_)
  · rw [z32_0, z32_le haR inR_0] at hc
    rw [if_pos hc] at h1
    exact k1 hc r h1 h2 ad H locs ls e1 e2 e3 e4 (zOk_tl e5) e6 e7 e8 e9
  · rw [z32_0, z32_le haR inR_0] at hc
    rw [if_neg hc] at h1
    exact k2 hc r h1 h2 ad H locs ls e1 e2 e3 e4 (zOk_tl e5) e6 e7 e8 e9
theorem z_ifnull {v : Option Nat} {off : Int} {o1 o2 : Option ρ} (tgt : Nat) (X : zX K cc own Ts R0) (hd : decode cc pc = .ok (.ifnull off, 3)) (ht : (pc : Int) + off = (tgt : Int)) (k1 : v = none → zS o1 G (zJ K cells slots tgt lv st hp)) (k2 : ¬ v = none → zS o2 G (zJ K cells slots (pc + 3) lv st hp)) : zS (if v = none then o1 else o2) G (zJ K cells slots pc lv (zR v :: st) hp) := by
  obtain ⟨p, l, e, R, s, m, args, below, meth, c, D, cA, A, Q, nL, ad0, n0⟩ := K
  obtain ⟨hx, hb, hml, hown, hts, hK, hA, hR, hlk⟩ := X
  intro r h1 h2 ad H locs ls e1 e2 e3 e4 e5 e6 e7 e8 e9
  cases v with
  | none =>
    rw [if_pos rfl] at h1
    exact lv_ifnullN hx hb hd ht (k1 rfl r h1 h2 ad H locs ls e1 e2 e3 e4 (zOk_tl e5) e6 e7 e8 e9)
  | some a =>
    rw [if_neg (fun h => by cases h)] at h1
    exact lv_ifnull hx hb hd (k2 (fun h => by cases h) r h1 h2 ad H locs ls e1 e2 e3 e4 (zOk_tl e5) e6 e7 e8 e9)
theorem z_ifnonnull {v : Option Nat} {off : Int} {o1 o2 : Option ρ} (tgt : Nat) (X : zX K cc own Ts R0) (hd : decode cc pc = .ok (.ifnonnull off, 3)) (ht : (pc : Int) + off = (tgt : Int)) (k1 : ¬ v = none → zS o1 G (zJ K cells slots tgt lv st hp)) (k2 : v = none → zS o2 G (zJ K cells slots (pc + 3) lv st hp)) : zS (if v = none then o2 else o1) G (zJ K cells slots pc lv (zR v :: st) hp) := by
  obtain ⟨p, l, e, R, s, m, args, below, meth, c, D, cA, A, Q, nL, ad0, n0⟩ := K
  obtain ⟨hx, hb, hml, hown, hts, hK, hA, hR, hlk⟩ := X
  intro r h1 h2 ad H locs ls e1 e2 e3 e4 e5 e6 e7 e8 e9
  cases v with
  | none =>
    rw [if_pos rfl] at h1
    exact lv_ifnonnullN hx hb hd (k2 rfl r h1 h2 ad H locs ls e1 e2 e3 e4 (zOk_tl e5) e6 e7 e8 e9)
  | some a =>
    rw [if_neg (fun h => by cases h)] at h1
    exact lv_ifnonnull hx hb hd ht (k1 (fun h => by cases h) r h1 h2 ad H locs ls e1 e2 e3 e4 (zOk_tl e5) e6 e7 e8 e9)
theorem zW_at {ad : Nat → Nat} {cA : Nat → ClassId} {hp : zH} {i : Nat} {x : zCell} (h : hp[i]? = some x) : (zW ad cA hp)[i]? = some (ad i, zTC ad cA x) := by
  unfold zW
  rw [List.getElem?_mapIdx, h]
  rfl
theorem zW_len {ad : Nat → Nat} {cA : Nat → ClassId} {hp : zH} : (zW ad cA hp).length = hp.length := by
  unfold zW
  exact List.length_mapIdx
theorem zW_inj {ad : Nat → Nat} {cA : Nat → ClassId} {hp : zH} {A : Nat → Prop} (h : va_D A (zW ad cA hp)) {i j : Nat} (hi : i < hp.length) (hj : j < hp.length) (he : ad i = ad j) : i = j := by
  have a1 := zW_at (ad := ad) (cA := cA) (List.getElem?_eq_getElem hi)
  have a2 := zW_at (ad := ad) (cA := cA) (List.getElem?_eq_getElem hj)
  exact h.1 i j _ _ a1 a2 he
theorem zW_set {ad : Nat → Nat} {cA : Nat → ClassId} {hp : zH} {i : Nat} {x : zCell} : zW ad cA (hp.set i x) = (zW ad cA hp).set i (ad i, zTC ad cA x) := by
  unfold zW
  apply List.ext_getElem?
  intro k
  rw [List.getElem?_mapIdx, List.getElem?_set, List.getElem?_set, List.getElem?_mapIdx, List.length_mapIdx]
  by_cases hk : i = k
  · subst hk
    by_cases hl : i < hp.length
    · simp [hl]
    · simp [hl]
  · simp [hk]
theorem z_acmp_eq {v w : Option Nat} {off : Int} {o1 o2 : Option ρ} (tgt : Nat) (X : zX K cc own Ts R0) (hd : decode cc pc = .ok (.if_acmp .eq off, 3)) (ht : (pc : Int) + off = (tgt : Int)) (k1 : v = w → zS o1 G (zJ K cells slots tgt lv st hp)) (k2 : ¬ v = w → zS o2 G (zJ K cells slots (pc + 3) lv st hp)) : zS (if v = w then o1 else o2) G (zJ K cells slots pc lv (zR w :: zR v :: st) hp) := by
  obtain ⟨p, l, e, R, s, m, args, below, meth, c, D, cA, A, Q, nL, ad0, n0⟩ := K
  obtain ⟨hx, hb, hml, hown, hts, hK, hA, hR, hlk⟩ := X
  intro r h1 h2 ad H locs ls e1 e2 e3 e4 e5 e6 e7 e8 e9
  have hw : ∀ i, w = some i → i < hp.length := zOk_hd e5
  have hv : ∀ i, v = some i → i < hp.length := zOk_hd (zOk_tl e5)
  have key : v.map ad = w.map ad ↔ v = w := by
    constructor
    · intro h
      cases v with
      | none => cases w with
        | none => rfl
        | some j => cases h
      | some i => cases w with
        | none => cases h
        | some j => exact congrArg some (zW_inj e7 (hv i rfl) (hw j rfl) (Option.some.inj h))
    · intro h
      rw [h]
  refine lv_acmp_eq (tgt := tgt) hx hb hd ht (fun hc => ?_) (fun hc => ?_)
  · rw [key] at hc
    rw [if_pos hc] at h1
    exact k1 hc r h1 h2 ad H locs ls e1 e2 e3 e4 (zOk_tl (zOk_tl e5)) e6 e7 e8 e9
  · rw [key] at hc
    rw [if_neg hc] at h1
    exact k2 hc r h1 h2 ad H locs ls e1 e2 e3 e4 (zOk_tl (zOk_tl e5)) e6 e7 e8 e9
theorem z_acmp_ne {v w : Option Nat} {off : Int} {o1 o2 : Option ρ} (tgt : Nat) (X : zX K cc own Ts R0) (hd : decode cc pc = .ok (.if_acmp .ne off, 3)) (ht : (pc : Int) + off = (tgt : Int)) (k1 : ¬ v = w → zS o1 G (zJ K cells slots tgt lv st hp)) (k2 : v = w → zS o2 G (zJ K cells slots (pc + 3) lv st hp)) : zS (if v = w then o2 else o1) G (zJ K cells slots pc lv (zR w :: zR v :: st) hp) := by
  obtain ⟨p, l, e, R, s, m, args, below, meth, c, D, cA, A, Q, nL, ad0, n0⟩ := K
  obtain ⟨hx, hb, hml, hown, hts, hK, hA, hR, hlk⟩ := X
  intro r h1 h2 ad H locs ls e1 e2 e3 e4 e5 e6 e7 e8 e9
  have hw : ∀ i, w = some i → i < hp.length := zOk_hd e5
  have hv : ∀ i, v = some i → i < hp.length := zOk_hd (zOk_tl e5)
  have key : v.map ad = w.map ad ↔ v = w := by
    constructor
    · intro h
      cases v with
      | none => cases w with
        | none => rfl
        | some j => cases h
      | some i => cases w with
        | none => cases h
        | some j => exact congrArg some (zW_inj e7 (hv i rfl) (hw j rfl) (Option.some.inj h))
    · intro h
      rw [h]
  refine lv_acmp_ne (tgt := tgt) hx hb hd ht (fun hc => ?_) (fun hc => ?_)
  · rw [key] at hc
    rw [if_neg hc] at h1
    exact k1 hc r h1 h2 ad H locs ls e1 e2 e3 e4 (zOk_tl (zOk_tl e5)) e6 e7 e8 e9
  · rw [key] at hc
    rw [if_pos hc] at h1
    exact k2 hc r h1 h2 ad H locs ls e1 e2 e3 e4 (zOk_tl (zOk_tl e5)) e6 e7 e8 e9
theorem z_ladd {x y : Int64} (X : zX K cc own Ts R0) (hd : decode cc pc = .ok (.ladd, 1)) (kk : zS o G (zJ K cells slots (pc + 1) lv (zL (x + y) :: st) hp)) : zS o G (zJ K cells slots pc lv (zL y :: zL x :: st) hp) := by
  obtain ⟨p, l, e, R, s, m, args, below, meth, c, D, cA, A, Q, nL, ad0, n0⟩ := K
  obtain ⟨hx, hb, hml, hown, hts, hK, hA, hR, hlk⟩ := X
  intro r h1 h2 ad H locs ls e1 e2 e3 e4 e5 e6 e7 e8 e9
  refine lv_ladd hx hb hd ?_
  exact kk r h1 h2 ad H locs ls e1 e2 e3 e4 (zOk_cons trivial (zOk_tl (zOk_tl e5))) e6 e7 e8 e9
theorem z_lmul {x y : Int64} (X : zX K cc own Ts R0) (hd : decode cc pc = .ok (.lmul, 1)) (kk : zS o G (zJ K cells slots (pc + 1) lv (zL (x * y) :: st) hp)) : zS o G (zJ K cells slots pc lv (zL y :: zL x :: st) hp) := by
  obtain ⟨p, l, e, R, s, m, args, below, meth, c, D, cA, A, Q, nL, ad0, n0⟩ := K
  obtain ⟨hx, hb, hml, hown, hts, hK, hA, hR, hlk⟩ := X
  intro r h1 h2 ad H locs ls e1 e2 e3 e4 e5 e6 e7 e8 e9
  refine lv_lmul hx hb hd ?_
  exact kk r h1 h2 ad H locs ls e1 e2 e3 e4 (zOk_cons trivial (zOk_tl (zOk_tl e5))) e6 e7 e8 e9
theorem z_lor {x y : Int64} (X : zX K cc own Ts R0) (hd : decode cc pc = .ok (.lor, 1)) (kk : zS o G (zJ K cells slots (pc + 1) lv (zL (x ||| y) :: st) hp)) : zS o G (zJ K cells slots pc lv (zL y :: zL x :: st) hp) := by
  obtain ⟨p, l, e, R, s, m, args, below, meth, c, D, cA, A, Q, nL, ad0, n0⟩ := K
  obtain ⟨hx, hb, hml, hown, hts, hK, hA, hR, hlk⟩ := X
  intro r h1 h2 ad H locs ls e1 e2 e3 e4 e5 e6 e7 e8 e9
  refine lv_lor hx hb hd ?_
  exact kk r h1 h2 ad H locs ls e1 e2 e3 e4 (zOk_cons trivial (zOk_tl (zOk_tl e5))) e6 e7 e8 e9
theorem z_lshl {x : Int64} {b : Int} (X : zX K cc own Ts R0) (hd : decode cc pc = .ok (.lshl, 1)) (kk : zS o G (zJ K cells slots (pc + 1) lv (zL (x <<< ((Int32.ofInt b).toInt64 &&& 63)) :: st) hp)) : zS o G (zJ K cells slots pc lv (zI b :: zL x :: st) hp) := by
  obtain ⟨p, l, e, R, s, m, args, below, meth, c, D, cA, A, Q, nL, ad0, n0⟩ := K
  obtain ⟨hx, hb, hml, hown, hts, hK, hA, hR, hlk⟩ := X
  intro r h1 h2 ad H locs ls e1 e2 e3 e4 e5 e6 e7 e8 e9
  refine lv_lshl hx hb hd rfl ?_
  exact kk r h1 h2 ad H locs ls e1 e2 e3 e4 (zOk_cons trivial (zOk_tl (zOk_tl e5))) e6 e7 e8 e9
theorem z_lshr {x : Int64} {b : Int} (X : zX K cc own Ts R0) (hd : decode cc pc = .ok (.lshr, 1)) (kk : zS o G (zJ K cells slots (pc + 1) lv (zL (x >>> ((Int32.ofInt b).toInt64 &&& 63)) :: st) hp)) : zS o G (zJ K cells slots pc lv (zI b :: zL x :: st) hp) := by
  obtain ⟨p, l, e, R, s, m, args, below, meth, c, D, cA, A, Q, nL, ad0, n0⟩ := K
  obtain ⟨hx, hb, hml, hown, hts, hK, hA, hR, hlk⟩ := X
  intro r h1 h2 ad H locs ls e1 e2 e3 e4 e5 e6 e7 e8 e9
  refine lv_lshr hx hb hd rfl ?_
  exact kk r h1 h2 ad H locs ls e1 e2 e3 e4 (zOk_cons trivial (zOk_tl (zOk_tl e5))) e6 e7 e8 e9
def zldiv (x y : Int64) : Option Int64 := if y = 0 then none else some (x / y)
theorem z_ldiv {x y : Int64} {f : Int64 → Option ρ} (X : zX K cc own Ts R0) (hd : decode cc pc = .ok (.ldiv, 1)) (kk : ∀ v, zS (f v) G (zJ K cells slots (pc + 1) lv (zL v :: st) hp)) : zS ((zldiv x y).bind f) G (zJ K cells slots pc lv (zL y :: zL x :: st) hp) := by
  obtain ⟨p, l, e, R, s, m, args, below, meth, c, D, cA, A, Q, nL, ad0, n0⟩ := K
  obtain ⟨hx, hb, hml, hown, hts, hK, hA, hR, hlk⟩ := X
  intro r h1 h2 ad H locs ls e1 e2 e3 e4 e5 e6 e7 e8 e9
  obtain ⟨v, hv, h1⟩ := Option.bind_eq_some_iff.mp h1
  unfold zldiv at hv
  split at hv
  · cases hv
  · rename_i hz
    cases hv
    refine lv_ldiv hx hb hd hz ?_
    exact kk _ r h1 h2 ad H locs ls e1 e2 e3 e4 (zOk_cons trivial (zOk_tl (zOk_tl e5))) e6 e7 e8 e9
def zlrem (x y : Int64) : Option Int64 := if y = 0 then none else some (x - x / y * y)
theorem z_lrem {x y : Int64} {f : Int64 → Option ρ} (X : zX K cc own Ts R0) (hd : decode cc pc = .ok (.lrem, 1)) (kk : ∀ v, zS (f v) G (zJ K cells slots (pc + 1) lv (zL v :: st) hp)) : zS ((zlrem x y).bind f) G (zJ K cells slots pc lv (zL y :: zL x :: st) hp) := by
  obtain ⟨p, l, e, R, s, m, args, below, meth, c, D, cA, A, Q, nL, ad0, n0⟩ := K
  obtain ⟨hx, hb, hml, hown, hts, hK, hA, hR, hlk⟩ := X
  intro r h1 h2 ad H locs ls e1 e2 e3 e4 e5 e6 e7 e8 e9
  obtain ⟨v, hv, h1⟩ := Option.bind_eq_some_iff.mp h1
  unfold zlrem at hv
  split at hv
  · cases hv
  · rename_i hz
    cases hv
    refine lv_lrem hx hb hd hz ?_
    exact kk _ r h1 h2 ad H locs ls e1 e2 e3 e4 (zOk_cons trivial (zOk_tl (zOk_tl e5))) e6 e7 e8 e9
theorem zcmp_eq (x y : Int64) : lg_cmp x y = Int32.ofInt (zcmp x y) := by
  unfold lg_cmp zcmp
  split
  · rfl
  · split <;> rfl
theorem zcmp_R (x y : Int64) : inR (zcmp x y) := by
  unfold zcmp inR
  split
  · decide
  · split <;> decide
theorem z_lcmp {x y : Int64} (X : zX K cc own Ts R0) (hd : decode cc pc = .ok (.lcmp, 1)) (kk : zS o G (zJ K cells slots (pc + 1) lv (zI (zcmp x y) :: st) hp)) : zS o G (zJ K cells slots pc lv (zL y :: zL x :: st) hp) := by
  obtain ⟨p, l, e, R, s, m, args, below, meth, c, D, cA, A, Q, nL, ad0, n0⟩ := K
  obtain ⟨hx, hb, hml, hown, hts, hK, hA, hR, hlk⟩ := X
  intro r h1 h2 ad H locs ls e1 e2 e3 e4 e5 e6 e7 e8 e9
  refine W.lcmp hx hb hd ?_
  rw [zcmp_eq]
  exact kk r h1 h2 ad H locs ls e1 e2 e3 e4 (zOk_cons (zcmp_R x y) (zOk_tl (zOk_tl e5))) e6 e7 e8 e9
theorem z_i2l {a : Int} (X : zX K cc own Ts R0) (hd : decode cc pc = .ok (.i2l, 1)) (kk : zS o G (zJ K cells slots (pc + 1) lv (zL (Int64.ofInt a) :: st) hp)) : zS o G (zJ K cells slots pc lv (zI a :: st) hp) := by
  obtain ⟨p, l, e, R, s, m, args, below, meth, c, D, cA, A, Q, nL, ad0, n0⟩ := K
  obtain ⟨hx, hb, hml, hown, hts, hK, hA, hR, hlk⟩ := X
  intro r h1 h2 ad H locs ls e1 e2 e3 e4 e5 e6 e7 e8 e9
  have haR : inR a := zOk_hd e5
  refine lv_i2l hx hb hd (v := Int64.ofInt a) ?_ ?_
  · apply Int64.toInt_inj.mp
    rw [Int32.toInt_toInt64, z32_toInt haR, Int64.toInt_ofInt_of_le (by have := haR.1; omega) (by have := haR.2; omega)]
  · exact kk r h1 h2 ad H locs ls e1 e2 e3 e4 (zOk_cons trivial (zOk_tl e5)) e6 e7 e8 e9
theorem z_l2i {x : Int64} (X : zX K cc own Ts R0) (hd : decode cc pc = .ok (.l2i, 1)) (kk : zS o G (zJ K cells slots (pc + 1) lv (zI x.toInt32.toInt :: st) hp)) : zS o G (zJ K cells slots pc lv (zL x :: st) hp) := by
  obtain ⟨p, l, e, R, s, m, args, below, meth, c, D, cA, A, Q, nL, ad0, n0⟩ := K
  obtain ⟨hx, hb, hml, hown, hts, hK, hA, hR, hlk⟩ := X
  intro r h1 h2 ad H locs ls e1 e2 e3 e4 e5 e6 e7 e8 e9
  refine lv_l2i hx hb hd (v := Int32.ofInt x.toInt32.toInt) (by rw [Int32.ofInt_toInt]) ?_
  exact kk r h1 h2 ad H locs ls e1 e2 e3 e4 (zOk_cons ⟨by have := Int32.le_toInt x.toInt32; omega, by have := Int32.toInt_lt x.toInt32; omega⟩ (zOk_tl e5)) e6 e7 e8 e9
theorem z_i2c {a : Int} (X : zX K cc own Ts R0) (hd : decode cc pc = .ok (.i2c, 1)) (kk : zS o G (zJ K cells slots (pc + 1) lv (zI (a % 65536) :: st) hp)) : zS o G (zJ K cells slots pc lv (zI a :: st) hp) := by
  obtain ⟨p, l, e, R, s, m, args, below, meth, c, D, cA, A, Q, nL, ad0, n0⟩ := K
  obtain ⟨hx, hb, hml, hown, hts, hK, hA, hR, hlk⟩ := X
  intro r h1 h2 ad H locs ls e1 e2 e3 e4 e5 e6 e7 e8 e9
  have e0 : ((Int32.ofInt a).toBitVec.toNat : Int) = a % 4294967296 := by
    show ((BitVec.ofInt 32 a).toNat : Int) = _
    rw [BitVec.toNat_ofInt]
    have := Int.emod_nonneg a (show (4294967296 : Int) ≠ 0 by decide)
    show ((a % 4294967296).toNat : Int) = _
    omega
  refine lv_i2c hx hb hd (v := Int32.ofInt (a % 65536)) ?_ ?_
  · rw [pk_char]
    refine (z32_natI _).symm.trans ?_
    apply congrArg Int32.ofInt
    rw [Int.natCast_emod, e0]
    omega
  · exact kk r h1 h2 ad H locs ls e1 e2 e3 e4 (zOk_cons ⟨by omega, by omega⟩ (zOk_tl e5)) e6 e7 e8 e9
end zRows
end
section
/-! THE ROWS over the heap: fields, arrays, new objects -/
section zHeap
variable {ρ : Type} {o : Option ρ} {G : ρ → Prop} {K : zK} {cc : ByteArray} {own : String} {Ts : List Cond} {R0 : Room} {cells slots pc : Nat} {lv : List (Nat × zPV)} {st : List zPV} {hp : zH}
theorem zobj_some {hp : zH} {r : Option Nat} {ci i : Nat} {fs : List zPV} (h : zobj hp r ci = some (i, fs)) : r = some i ∧ hp[i]? = some (.inr (ci, fs)) := by
  unfold zobj at h
  obtain ⟨i', hi, h⟩ := Option.bind_eq_some_iff.mp h
  obtain ⟨x, hx, h⟩ := Option.bind_eq_some_iff.mp h
  obtain ⟨fs', hfs, h⟩ := Option.bind_eq_some_iff.mp h
  cases h
  rcases x with x | ⟨c', fs'⟩
  · cases hfs
  · have hfs : (if c' = ci then some fs' else none) = some fs := hfs
    by_cases he : c' = ci
    · subst he
      rw [if_pos rfl] at hfs
      cases hfs
      exact ⟨hi, hx⟩
    · rw [if_neg he] at hfs
      cases hfs
theorem zfld_some {hp : zH} {r : Option Nat} {ci k : Nat} {v : zPV} (h : zfld hp r ci k = some v) : ∃ i fs, r = some i ∧ hp[i]? = some (.inr (ci, fs)) ∧ fs[k]? = some v := by
  unfold zfld at h
  obtain ⟨⟨i, fs⟩, hi, h⟩ := Option.bind_eq_some_iff.mp h
  obtain ⟨h1, h2⟩ := zobj_some hi
  exact ⟨i, fs, h1, h2, h⟩
theorem zput_some {hp h' : zH} {r : Option Nat} {ci k : Nat} {v : zPV} (h : zput hp r ci k v = some h') : ∃ i fs, r = some i ∧ hp[i]? = some (.inr (ci, fs)) ∧ k < fs.length ∧ h' = hp.set i (.inr (ci, fs.set k v)) := by
  unfold zput at h
  obtain ⟨⟨i, fs⟩, hi, h⟩ := Option.bind_eq_some_iff.mp h
  obtain ⟨h1, h2⟩ := zobj_some hi
  by_cases hk : k < fs.length
  · rw [if_pos hk] at h
    cases h
    exact ⟨i, fs, h1, h2, hk, rfl⟩
  · rw [if_neg hk] at h
    cases h
theorem zarr_some {hp : zH} {r : Option Nat} {t : Nat} {i : Int} {a n : Nat} {f : zC} (h : zarr hp r t i = some (a, n, f)) : r = some a ∧ hp[a]? = some (.inl (t, n, f)) ∧ 0 ≤ i ∧ i < n := by
  unfold zarr at h
  obtain ⟨a', hi, h⟩ := Option.bind_eq_some_iff.mp h
  obtain ⟨x, hx, h⟩ := Option.bind_eq_some_iff.mp h
  obtain ⟨q, hq, h⟩ := Option.bind_eq_some_iff.mp h
  cases h
  rcases x with ⟨t', n', f'⟩ | x
  · have hq : (if t' = t ∧ 0 ≤ i ∧ i < n' then some (n', f') else none) = some (n, f) := hq
    by_cases he : t' = t ∧ 0 ≤ i ∧ i < n'
    · rw [if_pos he] at hq
      cases hq
      obtain ⟨rfl, h0, h1⟩ := he
      exact ⟨hi, hx, h0, h1⟩
    · rw [if_neg he] at hq
      cases hq
  · cases hq
theorem zasI_some {v : zPV} {z : Int} (h : zasI v = some z) : v = zI z := by
  rcases v with v | v
  · cases h; rfl
  · cases h
theorem zasJ_some {v : zPV} {z : Int64} (h : zasJ v = some z) : v = zL z := by
  rcases v with v | v | v
  · cases h
  · cases h; rfl
  · cases h
theorem zasR_some {v : zPV} {z : Option Nat} (h : zasR v = some z) : v = zR z := by
  rcases v with v | v | v | v
  · cases h
  · cases h
  · cases h; rfl
  · cases h
theorem zcI_some {c : zC} {f : Nat → Int} (h : zcI c = some f) : c = .inl f := by
  rcases c with c | c
  · cases h; rfl
  · cases h
theorem zcJ_some {c : zC} {f : Nat → Int64} (h : zcJ c = some f) : c = .inr (.inl f) := by
  rcases c with c | c | c
  · cases h
  · cases h; rfl
  · cases h
theorem zcD_some {c : zC} {f : Nat → UInt64} (h : zcD c = some f) : c = .inr (.inr (.inl f)) := by
  rcases c with c | c | c | c
  · cases h
  · cases h
  · cases h; rfl
  · cases h
theorem zcR_some {c : zC} {f : Nat → Option Nat} (h : zcR c = some f) : c = .inr (.inr (.inr f)) := by
  rcases c with c | c | c | c
  · cases h
  · cases h
  · cases h
  · cases h; rfl
theorem zmem {hp : zH} {i : Nat} {x : zCell} (h : hp[i]? = some x) : x ∈ hp := List.mem_of_getElem? h
theorem zlt {hp : zH} {i : Nat} {x : zCell} (h : hp[i]? = some x) : i < hp.length := (List.getElem?_eq_some_iff.mp h).1
/-- a cell is changed: the picture stays in order -/
theorem zset_ok {hp : zH} {i : Nat} {x : zCell} (h : ∀ c ∈ hp, zOkC hp.length c) (hx : zOkC hp.length x) : ∀ c ∈ hp.set i x, zOkC (hp.set i x).length c := by
  rw [List.length_set]
  intro c hc
  rcases List.mem_or_eq_of_mem_set hc with h' | rfl
  · exact h c h'
  · exact hx
theorem zj_get {idx ci N : Nat} {C : String} {T : u_T} (k : Nat) {r0 : Option Nat} {v : zPV} (X : zX K cc own Ts R0) (hd : decode cc pc = .ok (.getfield idx, 3)) (hin : ∀ w ∈ u_ws C T N, w ∈ Ts) (hc : vwCl[ci]? = some (C, T, N)) (hk : k < N) (hlink : Cond.fieldLink own idx (T k).1 (T k).2.1 (T k).2.2.1 ∈ Ts) (hv : zfld hp r0 ci k = some v) (kk : zS o G (zJ K cells slots (pc + 3) lv (v :: st) hp)) : zS o G (zJ K cells slots pc lv (zR r0 :: st) hp) := by
  obtain ⟨p, l, e, R, s, m, args, below, meth, c, D, cA, A, Q, nL, ad0, n0⟩ := K
  obtain ⟨hx, hb, hml, hown, hts, hK, hA, hR, hlk⟩ := X
  intro r h1 h2 ad H locs ls e1 e2 e3 e4 e5 e6 e7 e8 e9
  obtain ⟨i, fs, rfl, hi, hfs⟩ := zfld_some hv
  refine va_get (D := D) (cl := vwCl) (ci := ci) (C := C) (T := T) (N := N) hx hb hts hin hown hK e6 i (fs := fs.map (zT ad)) (zW_at hi) hc k hk (hts _ hlink) (fun _ h9 => h9) (v := zT ad v) (by rw [List.getElem?_map, hfs]; rfl) hd ?_
  exact kk r h1 h2 ad H locs ls e1 e2 e3 e4 (zOk_cons (e3 _ (zmem hi) v (List.mem_of_getElem? hfs)) (zOk_tl e5)) e6 e7 e8 e9
theorem z_getI {idx ci N : Nat} {C : String} {T : u_T} (k : Nat) {r0 : Option Nat} {f : Int → Option ρ} (X : zX K cc own Ts R0) (hd : decode cc pc = .ok (.getfield idx, 3)) (hin : ∀ w ∈ u_ws C T N, w ∈ Ts) (hc : vwCl[ci]? = some (C, T, N)) (hk : k < N) (hlink : Cond.fieldLink own idx (T k).1 (T k).2.1 (T k).2.2.1 ∈ Ts) (kk : ∀ v, zS (f v) G (zJ K cells slots (pc + 3) lv (zI v :: st) hp)) : zS ((zgI hp r0 ci k).bind f) G (zJ K cells slots pc lv (zR r0 :: st) hp) := by
  intro r h1 h2
  obtain ⟨v, hv, h3⟩ := Option.bind_eq_some_iff.mp h1
  clear h1
  unfold zgI at hv
  obtain ⟨u, hz, hv⟩ := Option.bind_eq_some_iff.mp hv
  rw [zasI_some hv] at hz
  exact zj_get k X hd hin hc hk hlink hz (kk v) r h3 h2
theorem z_getJ {idx ci N : Nat} {C : String} {T : u_T} (k : Nat) {r0 : Option Nat} {f : Int64 → Option ρ} (X : zX K cc own Ts R0) (hd : decode cc pc = .ok (.getfield idx, 3)) (hin : ∀ w ∈ u_ws C T N, w ∈ Ts) (hc : vwCl[ci]? = some (C, T, N)) (hk : k < N) (hlink : Cond.fieldLink own idx (T k).1 (T k).2.1 (T k).2.2.1 ∈ Ts) (kk : ∀ v, zS (f v) G (zJ K cells slots (pc + 3) lv (zL v :: st) hp)) : zS ((zgJ hp r0 ci k).bind f) G (zJ K cells slots pc lv (zR r0 :: st) hp) := by
  intro r h1 h2
  obtain ⟨v, hv, h3⟩ := Option.bind_eq_some_iff.mp h1
  clear h1
  unfold zgJ at hv
  obtain ⟨u, hz, hv⟩ := Option.bind_eq_some_iff.mp hv
  rw [zasJ_some hv] at hz
  exact zj_get k X hd hin hc hk hlink hz (kk v) r h3 h2
theorem z_getR {idx ci N : Nat} {C : String} {T : u_T} (k : Nat) {r0 : Option Nat} {f : Option Nat → Option ρ} (X : zX K cc own Ts R0) (hd : decode cc pc = .ok (.getfield idx, 3)) (hin : ∀ w ∈ u_ws C T N, w ∈ Ts) (hc : vwCl[ci]? = some (C, T, N)) (hk : k < N) (hlink : Cond.fieldLink own idx (T k).1 (T k).2.1 (T k).2.2.1 ∈ Ts) (kk : ∀ v, zS (f v) G (zJ K cells slots (pc + 3) lv (zR v :: st) hp)) : zS ((zgR hp r0 ci k).bind f) G (zJ K cells slots pc lv (zR r0 :: st) hp) := by
  intro r h1 h2
  obtain ⟨v, hv, h3⟩ := Option.bind_eq_some_iff.mp h1
  clear h1
  unfold zgR at hv
  obtain ⟨u, hz, hv⟩ := Option.bind_eq_some_iff.mp hv
  rw [zasR_some hv] at hz
  exact zj_get k X hd hin hc hk hlink hz (kk v) r h3 h2
theorem zj_put {idx ci N : Nat} {C : String} {T : u_T} {ty0 : Nat → FieldType} (k : Nat) {r0 : Option Nat} {v : zPV} {h' : zH} (X : zX K cc own Ts R0) (hd : decode cc pc = .ok (.putfield idx, 3)) (hin : ∀ w ∈ u_ws C T N, w ∈ Ts) (hty : ∀ k, k < N → parseFieldDescriptor (T k).2.2.1 = some (ty0 k)) (hnm : ∀ a, a < N → ∀ b, b < N → a ≠ b → (T a).2.1 ≠ (T b).2.1) (hc : vwCl[ci]? = some (C, T, N)) (hk : k < N) (hlink : Cond.fieldLink own idx (T k).1 (T k).2.1 (T k).2.2.1 ∈ Ts) (hfin : (T k).2.2.2 = false) (hnar : ∀ ad, narrow (ty0 k) (zT ad v) = zT ad v ∧ fits (ty0 k) (zT ad v) = true) (hv : zput hp r0 ci k v = some h') (kk : zS o G (zJ K cells slots (pc + 3) lv st h')) : zS o G (zJ K cells slots pc lv (v :: zR r0 :: st) hp) := by
  obtain ⟨p, l, e, R, s, m, args, below, meth, c, D, cA, A, Q, nL, ad0, n0⟩ := K
  obtain ⟨hx, hb, hml, hown, hts, hK, hA, hR, hlk⟩ := X
  intro r h1 h2 ad H locs ls e1 e2 e3 e4 e5 e6 e7 e8 e9
  obtain ⟨i, fs, rfl, hi, hl, rfl⟩ := zput_some hv
  refine va_put (D := D) (cl := vwCl) (ci := ci) (C := C) (T := T) (N := N) hx hb hts hin ty0 hty hnm hown hK e6 e7 e8 i (fs := fs.map (zT ad)) (zW_at hi) hc k hk (hts _ hlink) (fun _ h9 => h9) hfin (ty := ty0 k) (v := zT ad v) (hty k hk) (hnar ad).1 (hnar ad).2 (by rw [List.length_map]; exact hl) hd (fun H1 locs1 q6 q7 q8 => ?_)
  have he : zW ad cA (hp.set i (.inr (ci, fs.set k v))) = (zW ad cA hp).set i (ad i, .inr (ci, (fs.map (zT ad)).set k (zT ad v))) := by
    rw [zW_set]
    show (zW ad cA hp).set i (ad i, .inr (ci, (fs.set k v).map (zT ad))) = _
    rw [List.map_set]
  rw [← he] at q6 q7
  have hlen : (hp.set i (.inr (ci, fs.set k v))).length = hp.length := List.length_set
  have hok : zOkC hp.length (.inr (ci, fs.set k v)) := by
    intro u hu
    rcases List.mem_or_eq_of_mem_set hu with h' | rfl
    · exact e3 _ (zmem hi) u h'
    · exact zOk_hd e5
  exact kk r h1 h2 ad H1 locs1 ls e1 (by rw [hlen]; exact e2) (zset_ok e3 hok) (by rw [hlen]; exact e4) (by rw [hlen]; exact zOk_tl (zOk_tl e5)) q6 q7 q8 e9
theorem zZ_fit {z : Int} {ad : Nat → Nat} (h : z = 0 ∨ z = 1) : narrow .boolean (zT ad (zI z)) = zT ad (zI z) ∧ fits .boolean (zT ad (zI z)) = true := by
  rcases h with rfl | rfl <;> exact ⟨rfl, rfl⟩
theorem zC_fit {z : Int} {ad : Nat → Nat} (h : 0 ≤ z ∧ z ≤ 65535) : narrow .char (zT ad (zI z)) = zT ad (zI z) ∧ fits .char (zT ad (zI z)) = true := by
  obtain ⟨n, rfl⟩ := Int.eq_ofNat_of_zero_le h.1
  exact pk_charN (q := n) (by omega)
theorem z_putI {idx ci N : Nat} {C : String} {T : u_T} {ty0 : Nat → FieldType} (k : Nat) {r0 : Option Nat} {v : Int} {f : zH → Option ρ} (X : zX K cc own Ts R0) (hd : decode cc pc = .ok (.putfield idx, 3)) (hin : ∀ w ∈ u_ws C T N, w ∈ Ts) (hty : ∀ k, k < N → parseFieldDescriptor (T k).2.2.1 = some (ty0 k)) (hnm : ∀ a, a < N → ∀ b, b < N → a ≠ b → (T a).2.1 ≠ (T b).2.1) (hc : vwCl[ci]? = some (C, T, N)) (hk : k < N) (hlink : Cond.fieldLink own idx (T k).1 (T k).2.1 (T k).2.2.1 ∈ Ts) (hfin : (T k).2.2.2 = false) (hyt : ty0 k = .int) (kk : ∀ h', zS (f h') G (zJ K cells slots (pc + 3) lv st h')) : zS ((zpI hp r0 ci k v).bind f) G (zJ K cells slots pc lv (zI v :: zR r0 :: st) hp) := by
    intro r h1 h2
    obtain ⟨h', hv, h1⟩ := Option.bind_eq_some_iff.mp h1
    unfold zpI at hv
    exact zj_put k X hd hin hty hnm hc hk hlink hfin (fun ad => by rw [hyt]; exact ⟨rfl, rfl⟩) hv (kk h') r h1 h2
theorem z_putJ {idx ci N : Nat} {C : String} {T : u_T} {ty0 : Nat → FieldType} (k : Nat) {r0 : Option Nat} {v : Int64} {f : zH → Option ρ} (X : zX K cc own Ts R0) (hd : decode cc pc = .ok (.putfield idx, 3)) (hin : ∀ w ∈ u_ws C T N, w ∈ Ts) (hty : ∀ k, k < N → parseFieldDescriptor (T k).2.2.1 = some (ty0 k)) (hnm : ∀ a, a < N → ∀ b, b < N → a ≠ b → (T a).2.1 ≠ (T b).2.1) (hc : vwCl[ci]? = some (C, T, N)) (hk : k < N) (hlink : Cond.fieldLink own idx (T k).1 (T k).2.1 (T k).2.2.1 ∈ Ts) (hfin : (T k).2.2.2 = false) (hyt : ty0 k = .long) (kk : ∀ h', zS (f h') G (zJ K cells slots (pc + 3) lv st h')) : zS ((zpJ hp r0 ci k v).bind f) G (zJ K cells slots pc lv (zL v :: zR r0 :: st) hp) := by
    intro r h1 h2
    obtain ⟨h', hv, h1⟩ := Option.bind_eq_some_iff.mp h1
    unfold zpJ at hv
    exact zj_put k X hd hin hty hnm hc hk hlink hfin (fun ad => by rw [hyt]; exact ⟨rfl, rfl⟩) hv (kk h') r h1 h2
theorem z_putR {idx ci N : Nat} {C : String} {T : u_T} {ty0 : Nat → FieldType} (k : Nat) {r0 : Option Nat} {v : Option Nat} {f : zH → Option ρ} (X : zX K cc own Ts R0) (hd : decode cc pc = .ok (.putfield idx, 3)) (hin : ∀ w ∈ u_ws C T N, w ∈ Ts) (hty : ∀ k, k < N → parseFieldDescriptor (T k).2.2.1 = some (ty0 k)) (hnm : ∀ a, a < N → ∀ b, b < N → a ≠ b → (T a).2.1 ≠ (T b).2.1) (hc : vwCl[ci]? = some (C, T, N)) (hk : k < N) (hlink : Cond.fieldLink own idx (T k).1 (T k).2.1 (T k).2.2.1 ∈ Ts) (hfin : (T k).2.2.2 = false) (hyt : ∃ cn, ty0 k = .object cn ∨ ∃ t9, ty0 k = .array t9) (kk : ∀ h', zS (f h') G (zJ K cells slots (pc + 3) lv st h')) : zS ((zpR hp r0 ci k v).bind f) G (zJ K cells slots pc lv (zR v :: zR r0 :: st) hp) := by
    intro r h1 h2
    obtain ⟨h', hv, h1⟩ := Option.bind_eq_some_iff.mp h1
    unfold zpR at hv
    exact zj_put k X hd hin hty hnm hc hk hlink hfin (fun ad => by obtain ⟨cn, h9 | ⟨t9, h9⟩⟩ := hyt <;> rw [h9] <;> cases v <;> exact ⟨rfl, rfl⟩) hv (kk h') r h1 h2
theorem z_putZ {idx ci N : Nat} {C : String} {T : u_T} {ty0 : Nat → FieldType} (k : Nat) {r0 : Option Nat} {v : Int} {f : zH → Option ρ} (X : zX K cc own Ts R0) (hd : decode cc pc = .ok (.putfield idx, 3)) (hin : ∀ w ∈ u_ws C T N, w ∈ Ts) (hty : ∀ k, k < N → parseFieldDescriptor (T k).2.2.1 = some (ty0 k)) (hnm : ∀ a, a < N → ∀ b, b < N → a ≠ b → (T a).2.1 ≠ (T b).2.1) (hc : vwCl[ci]? = some (C, T, N)) (hk : k < N) (hlink : Cond.fieldLink own idx (T k).1 (T k).2.1 (T k).2.2.1 ∈ Ts) (hfin : (T k).2.2.2 = false) (hyt : ty0 k = .boolean) (kk : ∀ h', zS (f h') G (zJ K cells slots (pc + 3) lv st h')) : zS ((zpZ hp r0 ci k v).bind f) G (zJ K cells slots pc lv (zI v :: zR r0 :: st) hp) := by
    intro r h1 h2
    obtain ⟨h', hv, h1⟩ := Option.bind_eq_some_iff.mp h1
    unfold zpZ at hv
    by_cases hz : v = 0 ∨ v = 1
    · rw [if_pos hz] at hv
      exact zj_put k X hd hin hty hnm hc hk hlink hfin (fun ad => by rw [hyt]; exact zZ_fit hz) hv (kk h') r h1 h2
    · rw [if_neg hz] at hv
      cases hv
theorem z_putC {idx ci N : Nat} {C : String} {T : u_T} {ty0 : Nat → FieldType} (k : Nat) {r0 : Option Nat} {v : Int} {f : zH → Option ρ} (X : zX K cc own Ts R0) (hd : decode cc pc = .ok (.putfield idx, 3)) (hin : ∀ w ∈ u_ws C T N, w ∈ Ts) (hty : ∀ k, k < N → parseFieldDescriptor (T k).2.2.1 = some (ty0 k)) (hnm : ∀ a, a < N → ∀ b, b < N → a ≠ b → (T a).2.1 ≠ (T b).2.1) (hc : vwCl[ci]? = some (C, T, N)) (hk : k < N) (hlink : Cond.fieldLink own idx (T k).1 (T k).2.1 (T k).2.2.1 ∈ Ts) (hfin : (T k).2.2.2 = false) (hyt : ty0 k = .char) (kk : ∀ h', zS (f h') G (zJ K cells slots (pc + 3) lv st h')) : zS ((zpC hp r0 ci k v).bind f) G (zJ K cells slots pc lv (zI v :: zR r0 :: st) hp) := by
    intro r h1 h2
    obtain ⟨h', hv, h1⟩ := Option.bind_eq_some_iff.mp h1
    unfold zpC at hv
    by_cases hz : 0 ≤ v ∧ v ≤ 65535
    · rw [if_pos hz] at hv
      exact zj_put k X hd hin hty hnm hc hk hlink hfin (fun ad => by rw [hyt]; exact zC_fit hz) hv (kk h') r h1 h2
    · rw [if_neg hz] at hv
      cases hv
theorem zj_putF {idx ci N : Nat} {C : String} {T : u_T} {ty0 : Nat → FieldType} (k : Nat) {r0 : Option Nat} {v : zPV} {h' : zH} (X : zX K cc own Ts R0) (hd : decode cc pc = .ok (.putfield idx, 3)) (hin : ∀ w ∈ u_ws C T N, w ∈ Ts) (hty : ∀ k, k < N → parseFieldDescriptor (T k).2.2.1 = some (ty0 k)) (hnm : ∀ a, a < N → ∀ b, b < N → a ≠ b → (T a).2.1 ≠ (T b).2.1) (hc : vwCl[ci]? = some (C, T, N)) (hk : k < N) (hlink : Cond.fieldLink own idx (T k).1 (T k).2.1 (T k).2.2.1 ∈ Ts) (hfin : (T k).2.2.2 = true) (hin9 : K.2.2.2.2.2.2.2.2.1.name = "<init>") (hdc9 : (T k).1 = own) (hnar : ∀ ad, narrow (ty0 k) (zT ad v) = zT ad v ∧ fits (ty0 k) (zT ad v) = true) (hv : zput hp r0 ci k v = some h') (kk : zS o G (zJ K cells slots (pc + 3) lv st h')) : zS o G (zJ K cells slots pc lv (v :: zR r0 :: st) hp) := by
  obtain ⟨p, l, e, R, s, m, args, below, meth, c, D, cA, A, Q, nL, ad0, n0⟩ := K
  obtain ⟨hx, hb, hml, hown, hts, hK, hA, hR, hlk⟩ := X
  intro r h1 h2 ad H locs ls e1 e2 e3 e4 e5 e6 e7 e8 e9
  obtain ⟨i, fs, rfl, hi, hl, rfl⟩ := zput_some hv
  refine va_putF (D := D) (cl := vwCl) (ci := ci) (C := C) (T := T) (N := N) hx hb hts hin ty0 hty hnm hown hK e6 e7 e8 i (fs := fs.map (zT ad)) (zW_at hi) hc k hk (hts _ hlink) (fun _ h9 => h9) hfin hin9 hdc9 (ty := ty0 k) (v := zT ad v) (hty k hk) (hnar ad).1 (hnar ad).2 (by rw [List.length_map]; exact hl) hd (fun H1 locs1 q6 q7 q8 => ?_)
  have he : zW ad cA (hp.set i (.inr (ci, fs.set k v))) = (zW ad cA hp).set i (ad i, .inr (ci, (fs.map (zT ad)).set k (zT ad v))) := by
    rw [zW_set]
    show (zW ad cA hp).set i (ad i, .inr (ci, (fs.set k v).map (zT ad))) = _
    rw [List.map_set]
  rw [← he] at q6 q7
  have hlen : (hp.set i (.inr (ci, fs.set k v))).length = hp.length := List.length_set
  have hok : zOkC hp.length (.inr (ci, fs.set k v)) := by
    intro u hu
    rcases List.mem_or_eq_of_mem_set hu with h' | rfl
    · exact e3 _ (zmem hi) u h'
    · exact zOk_hd e5
  exact kk r h1 h2 ad H1 locs1 ls e1 (by rw [hlen]; exact e2) (zset_ok e3 hok) (by rw [hlen]; exact e4) (by rw [hlen]; exact zOk_tl (zOk_tl e5)) q6 q7 q8 e9
theorem z_putFI {idx ci N : Nat} {C : String} {T : u_T} {ty0 : Nat → FieldType} (k : Nat) {r0 : Option Nat} {v : Int} {f : zH → Option ρ} (X : zX K cc own Ts R0) (hd : decode cc pc = .ok (.putfield idx, 3)) (hin : ∀ w ∈ u_ws C T N, w ∈ Ts) (hty : ∀ k, k < N → parseFieldDescriptor (T k).2.2.1 = some (ty0 k)) (hnm : ∀ a, a < N → ∀ b, b < N → a ≠ b → (T a).2.1 ≠ (T b).2.1) (hc : vwCl[ci]? = some (C, T, N)) (hk : k < N) (hlink : Cond.fieldLink own idx (T k).1 (T k).2.1 (T k).2.2.1 ∈ Ts) (hfin : (T k).2.2.2 = true) (hin9 : K.2.2.2.2.2.2.2.2.1.name = "<init>") (hdc9 : (T k).1 = own) (hyt : ty0 k = .int) (kk : ∀ h', zS (f h') G (zJ K cells slots (pc + 3) lv st h')) : zS ((zpI hp r0 ci k v).bind f) G (zJ K cells slots pc lv (zI v :: zR r0 :: st) hp) := by
    intro r h1 h2
    obtain ⟨h', hv, h1⟩ := Option.bind_eq_some_iff.mp h1
    unfold zpI at hv
    exact zj_putF k X hd hin hty hnm hc hk hlink hfin hin9 hdc9 (fun ad => by rw [hyt]; exact ⟨rfl, rfl⟩) hv (kk h') r h1 h2
theorem z_putFJ {idx ci N : Nat} {C : String} {T : u_T} {ty0 : Nat → FieldType} (k : Nat) {r0 : Option Nat} {v : Int64} {f : zH → Option ρ} (X : zX K cc own Ts R0) (hd : decode cc pc = .ok (.putfield idx, 3)) (hin : ∀ w ∈ u_ws C T N, w ∈ Ts) (hty : ∀ k, k < N → parseFieldDescriptor (T k).2.2.1 = some (ty0 k)) (hnm : ∀ a, a < N → ∀ b, b < N → a ≠ b → (T a).2.1 ≠ (T b).2.1) (hc : vwCl[ci]? = some (C, T, N)) (hk : k < N) (hlink : Cond.fieldLink own idx (T k).1 (T k).2.1 (T k).2.2.1 ∈ Ts) (hfin : (T k).2.2.2 = true) (hin9 : K.2.2.2.2.2.2.2.2.1.name = "<init>") (hdc9 : (T k).1 = own) (hyt : ty0 k = .long) (kk : ∀ h', zS (f h') G (zJ K cells slots (pc + 3) lv st h')) : zS ((zpJ hp r0 ci k v).bind f) G (zJ K cells slots pc lv (zL v :: zR r0 :: st) hp) := by
    intro r h1 h2
    obtain ⟨h', hv, h1⟩ := Option.bind_eq_some_iff.mp h1
    unfold zpJ at hv
    exact zj_putF k X hd hin hty hnm hc hk hlink hfin hin9 hdc9 (fun ad => by rw [hyt]; exact ⟨rfl, rfl⟩) hv (kk h') r h1 h2
theorem z_putFR {idx ci N : Nat} {C : String} {T : u_T} {ty0 : Nat → FieldType} (k : Nat) {r0 : Option Nat} {v : Option Nat} {f : zH → Option ρ} (X : zX K cc own Ts R0) (hd : decode cc pc = .ok (.putfield idx, 3)) (hin : ∀ w ∈ u_ws C T N, w ∈ Ts) (hty : ∀ k, k < N → parseFieldDescriptor (T k).2.2.1 = some (ty0 k)) (hnm : ∀ a, a < N → ∀ b, b < N → a ≠ b → (T a).2.1 ≠ (T b).2.1) (hc : vwCl[ci]? = some (C, T, N)) (hk : k < N) (hlink : Cond.fieldLink own idx (T k).1 (T k).2.1 (T k).2.2.1 ∈ Ts) (hfin : (T k).2.2.2 = true) (hin9 : K.2.2.2.2.2.2.2.2.1.name = "<init>") (hdc9 : (T k).1 = own) (hyt : ∃ cn, ty0 k = .object cn ∨ ∃ t9, ty0 k = .array t9) (kk : ∀ h', zS (f h') G (zJ K cells slots (pc + 3) lv st h')) : zS ((zpR hp r0 ci k v).bind f) G (zJ K cells slots pc lv (zR v :: zR r0 :: st) hp) := by
    intro r h1 h2
    obtain ⟨h', hv, h1⟩ := Option.bind_eq_some_iff.mp h1
    unfold zpR at hv
    exact zj_putF k X hd hin hty hnm hc hk hlink hfin hin9 hdc9 (fun ad => by obtain ⟨cn, h9 | ⟨t9, h9⟩⟩ := hyt <;> rw [h9] <;> cases v <;> exact ⟨rfl, rfl⟩) hv (kk h') r h1 h2
theorem z_putFZ {idx ci N : Nat} {C : String} {T : u_T} {ty0 : Nat → FieldType} (k : Nat) {r0 : Option Nat} {v : Int} {f : zH → Option ρ} (X : zX K cc own Ts R0) (hd : decode cc pc = .ok (.putfield idx, 3)) (hin : ∀ w ∈ u_ws C T N, w ∈ Ts) (hty : ∀ k, k < N → parseFieldDescriptor (T k).2.2.1 = some (ty0 k)) (hnm : ∀ a, a < N → ∀ b, b < N → a ≠ b → (T a).2.1 ≠ (T b).2.1) (hc : vwCl[ci]? = some (C, T, N)) (hk : k < N) (hlink : Cond.fieldLink own idx (T k).1 (T k).2.1 (T k).2.2.1 ∈ Ts) (hfin : (T k).2.2.2 = true) (hin9 : K.2.2.2.2.2.2.2.2.1.name = "<init>") (hdc9 : (T k).1 = own) (hyt : ty0 k = .boolean) (kk : ∀ h', zS (f h') G (zJ K cells slots (pc + 3) lv st h')) : zS ((zpZ hp r0 ci k v).bind f) G (zJ K cells slots pc lv (zI v :: zR r0 :: st) hp) := by
    intro r h1 h2
    obtain ⟨h', hv, h1⟩ := Option.bind_eq_some_iff.mp h1
    unfold zpZ at hv
    by_cases hz : v = 0 ∨ v = 1
    · rw [if_pos hz] at hv
      exact zj_putF k X hd hin hty hnm hc hk hlink hfin hin9 hdc9 (fun ad => by rw [hyt]; exact zZ_fit hz) hv (kk h') r h1 h2
    · rw [if_neg hz] at hv
      cases hv
theorem z_putFC {idx ci N : Nat} {C : String} {T : u_T} {ty0 : Nat → FieldType} (k : Nat) {r0 : Option Nat} {v : Int} {f : zH → Option ρ} (X : zX K cc own Ts R0) (hd : decode cc pc = .ok (.putfield idx, 3)) (hin : ∀ w ∈ u_ws C T N, w ∈ Ts) (hty : ∀ k, k < N → parseFieldDescriptor (T k).2.2.1 = some (ty0 k)) (hnm : ∀ a, a < N → ∀ b, b < N → a ≠ b → (T a).2.1 ≠ (T b).2.1) (hc : vwCl[ci]? = some (C, T, N)) (hk : k < N) (hlink : Cond.fieldLink own idx (T k).1 (T k).2.1 (T k).2.2.1 ∈ Ts) (hfin : (T k).2.2.2 = true) (hin9 : K.2.2.2.2.2.2.2.2.1.name = "<init>") (hdc9 : (T k).1 = own) (hyt : ty0 k = .char) (kk : ∀ h', zS (f h') G (zJ K cells slots (pc + 3) lv st h')) : zS ((zpC hp r0 ci k v).bind f) G (zJ K cells slots pc lv (zI v :: zR r0 :: st) hp) := by
    intro r h1 h2
    obtain ⟨h', hv, h1⟩ := Option.bind_eq_some_iff.mp h1
    unfold zpC at hv
    by_cases hz : 0 ≤ v ∧ v ≤ 65535
    · rw [if_pos hz] at hv
      exact zj_putF k X hd hin hty hnm hc hk hlink hfin hin9 hdc9 (fun ad => by rw [hyt]; exact zC_fit hz) hv (kk h') r h1 h2
    · rw [if_neg hz] at hv
      cases hv
theorem z_iaload {r0 : Option Nat} {i : Int} {g : Int → Option ρ} (X : zX K cc own Ts R0) (hd : decode cc pc = .ok (.iaload, 1)) (kk : ∀ v, zS (g v) G (zJ K cells slots (pc + 1) lv (zI v :: st) hp)) : zS ((zaI hp 0 r0 i).bind g) G (zJ K cells slots pc lv (zI i :: zR r0 :: st) hp) := by
  obtain ⟨p, l, e, R, s, m, args, below, meth, c, D, cA, A, Q, nL, ad0, n0⟩ := K
  obtain ⟨hx, hb, hml, hown, hts, hK, hA, hR, hlk⟩ := X
  intro r h1 h2 ad H locs ls e1 e2 e3 e4 e5 e6 e7 e8 e9
  obtain ⟨v, hv, h3⟩ := Option.bind_eq_some_iff.mp h1
  clear h1
  unfold zaI at hv
  obtain ⟨⟨a, n, cf⟩, hz, hv⟩ := Option.bind_eq_some_iff.mp hv
  obtain ⟨f, hf, hv⟩ := Option.bind_eq_some_iff.mp hv
  cases hv
  have hf : cf = _ := zcI_some hf
  subst hf
  obtain ⟨rfl, hi, h0, hn⟩ := zarr_some hz
  have hiR : inR i := zOk_hd e5
  refine va_iald (D := D) (cl := vwCl) hx hb hK e6 a 0 (zW_at hi) rfl ((z32_in hiR).2 ⟨h0, hn⟩) hd ?_
  rw [z32_nat hiR]
  exact kk _ r h3 h2 ad H locs ls e1 e2 e3 e4 (zOk_cons (e3 _ (zmem hi) _) (zOk_tl (zOk_tl e5))) e6 e7 e8 e9
theorem z_zaload {r0 : Option Nat} {i : Int} {g : Int → Option ρ} (X : zX K cc own Ts R0) (hd : decode cc pc = .ok (.baload, 1)) (kk : ∀ v, zS (g v) G (zJ K cells slots (pc + 1) lv (zI v :: st) hp)) : zS ((zaI hp 2 r0 i).bind g) G (zJ K cells slots pc lv (zI i :: zR r0 :: st) hp) := by
  obtain ⟨p, l, e, R, s, m, args, below, meth, c, D, cA, A, Q, nL, ad0, n0⟩ := K
  obtain ⟨hx, hb, hml, hown, hts, hK, hA, hR, hlk⟩ := X
  intro r h1 h2 ad H locs ls e1 e2 e3 e4 e5 e6 e7 e8 e9
  obtain ⟨v, hv, h3⟩ := Option.bind_eq_some_iff.mp h1
  clear h1
  unfold zaI at hv
  obtain ⟨⟨a, n, cf⟩, hz, hv⟩ := Option.bind_eq_some_iff.mp hv
  obtain ⟨f, hf, hv⟩ := Option.bind_eq_some_iff.mp hv
  cases hv
  have hf : cf = _ := zcI_some hf
  subst hf
  obtain ⟨rfl, hi, h0, hn⟩ := zarr_some hz
  have hiR : inR i := zOk_hd e5
  refine va_zald (D := D) (cl := vwCl) hx hb hK e6 a 2 (zW_at hi) rfl ((z32_in hiR).2 ⟨h0, hn⟩) hd ?_
  rw [z32_nat hiR]
  exact kk _ r h3 h2 ad H locs ls e1 e2 e3 e4 (zOk_cons (e3 _ (zmem hi) _) (zOk_tl (zOk_tl e5))) e6 e7 e8 e9
theorem z_caload {r0 : Option Nat} {i : Int} {g : Int → Option ρ} (X : zX K cc own Ts R0) (hd : decode cc pc = .ok (.caload, 1)) (kk : ∀ v, zS (g v) G (zJ K cells slots (pc + 1) lv (zI v :: st) hp)) : zS ((zaI hp 3 r0 i).bind g) G (zJ K cells slots pc lv (zI i :: zR r0 :: st) hp) := by
  obtain ⟨p, l, e, R, s, m, args, below, meth, c, D, cA, A, Q, nL, ad0, n0⟩ := K
  obtain ⟨hx, hb, hml, hown, hts, hK, hA, hR, hlk⟩ := X
  intro r h1 h2 ad H locs ls e1 e2 e3 e4 e5 e6 e7 e8 e9
  obtain ⟨v, hv, h3⟩ := Option.bind_eq_some_iff.mp h1
  clear h1
  unfold zaI at hv
  obtain ⟨⟨a, n, cf⟩, hz, hv⟩ := Option.bind_eq_some_iff.mp hv
  obtain ⟨f, hf, hv⟩ := Option.bind_eq_some_iff.mp hv
  cases hv
  have hf : cf = _ := zcI_some hf
  subst hf
  obtain ⟨rfl, hi, h0, hn⟩ := zarr_some hz
  have hiR : inR i := zOk_hd e5
  refine va_cald (D := D) (cl := vwCl) hx hb hK e6 a 3 (zW_at hi) rfl ((z32_in hiR).2 ⟨h0, hn⟩) hd ?_
  rw [z32_nat hiR]
  exact kk _ r h3 h2 ad H locs ls e1 e2 e3 e4 (zOk_cons (e3 _ (zmem hi) _) (zOk_tl (zOk_tl e5))) e6 e7 e8 e9
theorem z_laload {r0 : Option Nat} {i : Int} {g : Int64 → Option ρ} (X : zX K cc own Ts R0) (hd : decode cc pc = .ok (.laload, 1)) (kk : ∀ v, zS (g v) G (zJ K cells slots (pc + 1) lv (zL v :: st) hp)) : zS ((zaJ hp r0 i).bind g) G (zJ K cells slots pc lv (zI i :: zR r0 :: st) hp) := by
  obtain ⟨p, l, e, R, s, m, args, below, meth, c, D, cA, A, Q, nL, ad0, n0⟩ := K
  obtain ⟨hx, hb, hml, hown, hts, hK, hA, hR, hlk⟩ := X
  intro r h1 h2 ad H locs ls e1 e2 e3 e4 e5 e6 e7 e8 e9
  obtain ⟨v, hv, h3⟩ := Option.bind_eq_some_iff.mp h1
  clear h1
  unfold zaJ at hv
  obtain ⟨⟨a, n, cf⟩, hz, hv⟩ := Option.bind_eq_some_iff.mp hv
  obtain ⟨f, hf, hv⟩ := Option.bind_eq_some_iff.mp hv
  cases hv
  have hf : cf = _ := zcJ_some hf
  subst hf
  obtain ⟨rfl, hi, h0, hn⟩ := zarr_some hz
  have hiR : inR i := zOk_hd e5
  refine va_lald (D := D) (cl := vwCl) hx hb hK e6 a 1 (zW_at hi) rfl ((z32_in hiR).2 ⟨h0, hn⟩) hd ?_
  rw [z32_nat hiR]
  exact kk _ r h3 h2 ad H locs ls e1 e2 e3 e4 (zOk_cons trivial (zOk_tl (zOk_tl e5))) e6 e7 e8 e9
theorem z_daload {r0 : Option Nat} {i : Int} {g : UInt64 → Option ρ} (X : zX K cc own Ts R0) (hd : decode cc pc = .ok (.daload, 1)) (kk : ∀ v, zS (g v) G (zJ K cells slots (pc + 1) lv (zD v :: st) hp)) : zS ((zaD hp r0 i).bind g) G (zJ K cells slots pc lv (zI i :: zR r0 :: st) hp) := by
  obtain ⟨p, l, e, R, s, m, args, below, meth, c, D, cA, A, Q, nL, ad0, n0⟩ := K
  obtain ⟨hx, hb, hml, hown, hts, hK, hA, hR, hlk⟩ := X
  intro r h1 h2 ad H locs ls e1 e2 e3 e4 e5 e6 e7 e8 e9
  obtain ⟨v, hv, h3⟩ := Option.bind_eq_some_iff.mp h1
  clear h1
  unfold zaD at hv
  obtain ⟨⟨a, n, cf⟩, hz, hv⟩ := Option.bind_eq_some_iff.mp hv
  obtain ⟨f, hf, hv⟩ := Option.bind_eq_some_iff.mp hv
  cases hv
  have hf : cf = _ := zcD_some hf
  subst hf
  obtain ⟨rfl, hi, h0, hn⟩ := zarr_some hz
  have hiR : inR i := zOk_hd e5
  refine va_dald (D := D) (cl := vwCl) hx hb hK e6 a 4 (zW_at hi) rfl ((z32_in hiR).2 ⟨h0, hn⟩) hd ?_
  rw [z32_nat hiR]
  exact kk _ r h3 h2 ad H locs ls e1 e2 e3 e4 (zOk_cons trivial (zOk_tl (zOk_tl e5))) e6 e7 e8 e9
theorem z_aaload5 {r0 : Option Nat} {i : Int} {g : Option Nat → Option ρ} (X : zX K cc own Ts R0) (hd : decode cc pc = .ok (.aaload, 1)) (kk : ∀ v, zS (g v) G (zJ K cells slots (pc + 1) lv (zR v :: st) hp)) : zS ((zaR hp 5 r0 i).bind g) G (zJ K cells slots pc lv (zI i :: zR r0 :: st) hp) := by
  obtain ⟨p, l, e, R, s, m, args, below, meth, c, D, cA, A, Q, nL, ad0, n0⟩ := K
  obtain ⟨hx, hb, hml, hown, hts, hK, hA, hR, hlk⟩ := X
  intro r h1 h2 ad H locs ls e1 e2 e3 e4 e5 e6 e7 e8 e9
  obtain ⟨v, hv, h3⟩ := Option.bind_eq_some_iff.mp h1
  clear h1
  unfold zaR at hv
  obtain ⟨⟨a, n, cf⟩, hz, hv⟩ := Option.bind_eq_some_iff.mp hv
  obtain ⟨f, hf, hv⟩ := Option.bind_eq_some_iff.mp hv
  cases hv
  have hf : cf = _ := zcR_some hf
  subst hf
  obtain ⟨rfl, hi, h0, hn⟩ := zarr_some hz
  have hiR : inR i := zOk_hd e5
  refine va_aldq (D := D) (cl := vwCl) hx hb hK e6 a 5 (zW_at hi) rfl ((z32_in hiR).2 ⟨h0, hn⟩) hd ?_
  rw [z32_nat hiR]
  exact kk _ r h3 h2 ad H locs ls e1 e2 e3 e4 (zOk_cons (fun j hj => e3 _ (zmem hi) i.toNat j hj) (zOk_tl (zOk_tl e5))) e6 e7 e8 e9
theorem z_aaload6 {r0 : Option Nat} {i : Int} {g : Option Nat → Option ρ} (X : zX K cc own Ts R0) (hd : decode cc pc = .ok (.aaload, 1)) (kk : ∀ v, zS (g v) G (zJ K cells slots (pc + 1) lv (zR v :: st) hp)) : zS ((zaR hp 6 r0 i).bind g) G (zJ K cells slots pc lv (zI i :: zR r0 :: st) hp) := by
  obtain ⟨p, l, e, R, s, m, args, below, meth, c, D, cA, A, Q, nL, ad0, n0⟩ := K
  obtain ⟨hx, hb, hml, hown, hts, hK, hA, hR, hlk⟩ := X
  intro r h1 h2 ad H locs ls e1 e2 e3 e4 e5 e6 e7 e8 e9
  obtain ⟨v, hv, h3⟩ := Option.bind_eq_some_iff.mp h1
  clear h1
  unfold zaR at hv
  obtain ⟨⟨a, n, cf⟩, hz, hv⟩ := Option.bind_eq_some_iff.mp hv
  obtain ⟨f, hf, hv⟩ := Option.bind_eq_some_iff.mp hv
  cases hv
  have hf : cf = _ := zcR_some hf
  subst hf
  obtain ⟨rfl, hi, h0, hn⟩ := zarr_some hz
  have hiR : inR i := zOk_hd e5
  refine va_aldq (D := D) (cl := vwCl) hx hb hK e6 a 6 (zW_at hi) rfl ((z32_in hiR).2 ⟨h0, hn⟩) hd ?_
  rw [z32_nat hiR]
  exact kk _ r h3 h2 ad H locs ls e1 e2 e3 e4 (zOk_cons (fun j hj => e3 _ (zmem hi) i.toNat j hj) (zOk_tl (zOk_tl e5))) e6 e7 e8 e9
theorem zup_T {f : Nat → Int} {k : Nat} {x : Int} : (fun j => Int32.ofInt (zup f k x j)) = upd (fun j => Int32.ofInt (f j)) k (Int32.ofInt x) := by
  funext j
  unfold zup upd
  split <;> rfl
theorem zup_R {f : Nat → Int} {k : Nat} {x : Int} (h : ∀ j, inR (f j)) (hx : inR x) : ∀ j, inR (zup f k x j) := by
  intro j
  unfold zup
  split
  · exact hx
  · exact h j
theorem znar_int (x : Int32) : narrow .int (.int x) = .int x := rfl
theorem znar2 {z : Int} (h : z = 0 ∨ z = 1) : vp_nar .boolean (Int32.ofInt z) = Int32.ofInt z := by
  rcases h with rfl | rfl <;> decide
theorem znar3 {z : Int} (h : 0 ≤ z ∧ z ≤ 65535) : vp_nar .char (Int32.ofInt z) = Int32.ofInt z := by
  obtain ⟨n, rfl⟩ := Int.eq_ofNat_of_zero_le h.1
  have := (pk_charN (q := n) (by omega)).1
  unfold vp_nar
  show (match narrow .char (.int (nI n)) with | .int y => y | _ => (nI n)) = nI n
  rw [this]
theorem z_iastore {r0 : Option Nat} {i x : Int} {g : zH → Option ρ} (X : zX K cc own Ts R0) (hd : decode cc pc = .ok (.iastore, 1)) (kk : ∀ h', zS (g h') G (zJ K cells slots (pc + 1) lv st h')) : zS ((zsI hp 0 r0 i x).bind g) G (zJ K cells slots pc lv (zI x :: zI i :: zR r0 :: st) hp) := by
  obtain ⟨p, l, e, R, s, m, args, below, meth, c, D, cA, A, Q, nL, ad0, n0⟩ := K
  obtain ⟨hx, hb, hml, hown, hts, hK, hA, hR, hlk⟩ := X
  intro r h1 h2 ad H locs ls e1 e2 e3 e4 e5 e6 e7 e8 e9
  obtain ⟨v, hv, h3⟩ := Option.bind_eq_some_iff.mp h1
  clear h1
  unfold zsI at hv
  obtain ⟨⟨a, n, cf⟩, hz, hv⟩ := Option.bind_eq_some_iff.mp hv
  obtain ⟨f, hf, hv⟩ := Option.bind_eq_some_iff.mp hv
  have hf : cf = _ := zcI_some hf
  subst hf
  · by_cases hz9 : (0 = 2 → x = 0 ∨ x = 1) ∧ (0 = 3 → 0 ≤ x ∧ x ≤ 65535)
    · rw [if_pos hz9] at hv
      cases hv
      obtain ⟨rfl, hi, h0, hn⟩ := zarr_some hz
      have hiR : inR i := zOk_hd (zOk_tl e5)
      have hxR : inR x := zOk_hd e5
      refine va_iast (D := D) (cl := vwCl) hx hb hK e6 e7 e8 a 0 (x := Int32.ofInt x) (i := Int32.ofInt i) (zW_at hi) rfl ((z32_in hiR).2 ⟨h0, hn⟩) hd (fun H1 locs1 q6 q7 q8 => ?_)
      rw [z32_nat hiR] at q6 q7
      have he : zW ad cA (hp.set a (.inl (0, n, .inl (zup f i.toNat x)))) = (zW ad cA hp).set a (ad a, .inl (cA 0, n, .inl (upd (fun j => Int32.ofInt (f j)) i.toNat (Int32.ofInt x)))) := by
        rw [zW_set, ← zup_T]
        rfl
      rw [← he] at q6 q7
      have hlen : (hp.set a (.inl (0, n, .inl (zup f i.toNat x)))).length = hp.length := List.length_set
      exact kk _ r h3 h2 ad H1 locs1 ls e1 (by rw [hlen]; exact e2) (zset_ok e3 (zup_R (e3 _ (zmem hi)) hxR)) (by rw [hlen]; exact e4) (by rw [hlen]; exact zOk_tl (zOk_tl (zOk_tl e5))) q6 q7 q8 e9
    · rw [if_neg hz9] at hv
      cases hv
theorem z_zastore {r0 : Option Nat} {i x : Int} {g : zH → Option ρ} (X : zX K cc own Ts R0) (hd : decode cc pc = .ok (.bastore, 1)) (kk : ∀ h', zS (g h') G (zJ K cells slots (pc + 1) lv st h')) : zS ((zsI hp 2 r0 i x).bind g) G (zJ K cells slots pc lv (zI x :: zI i :: zR r0 :: st) hp) := by
  obtain ⟨p, l, e, R, s, m, args, below, meth, c, D, cA, A, Q, nL, ad0, n0⟩ := K
  obtain ⟨hx, hb, hml, hown, hts, hK, hA, hR, hlk⟩ := X
  intro r h1 h2 ad H locs ls e1 e2 e3 e4 e5 e6 e7 e8 e9
  obtain ⟨v, hv, h3⟩ := Option.bind_eq_some_iff.mp h1
  clear h1
  unfold zsI at hv
  obtain ⟨⟨a, n, cf⟩, hz, hv⟩ := Option.bind_eq_some_iff.mp hv
  obtain ⟨f, hf, hv⟩ := Option.bind_eq_some_iff.mp hv
  have hf : cf = _ := zcI_some hf
  subst hf
  · by_cases hz9 : (2 = 2 → x = 0 ∨ x = 1) ∧ (2 = 3 → 0 ≤ x ∧ x ≤ 65535)
    · rw [if_pos hz9] at hv
      cases hv
      obtain ⟨rfl, hi, h0, hn⟩ := zarr_some hz
      have hiR : inR i := zOk_hd (zOk_tl e5)
      have hxR : inR x := zOk_hd e5
      refine va_zast (D := D) (cl := vwCl) hx hb hK e6 e7 e8 a 2 (x := Int32.ofInt x) (i := Int32.ofInt i) (zW_at hi) rfl ((z32_in hiR).2 ⟨h0, hn⟩) hd (fun H1 locs1 q6 q7 q8 => ?_)
      rw [z32_nat hiR] at q6 q7
      rw [znar2 (hz9.1 rfl)] at q6 q7
      have he : zW ad cA (hp.set a (.inl (2, n, .inl (zup f i.toNat x)))) = (zW ad cA hp).set a (ad a, .inl (cA 2, n, .inl (upd (fun j => Int32.ofInt (f j)) i.toNat (Int32.ofInt x)))) := by
        rw [zW_set, ← zup_T]
        rfl
      rw [← he] at q6 q7
      have hlen : (hp.set a (.inl (2, n, .inl (zup f i.toNat x)))).length = hp.length := List.length_set
      exact kk _ r h3 h2 ad H1 locs1 ls e1 (by rw [hlen]; exact e2) (zset_ok e3 (zup_R (e3 _ (zmem hi)) hxR)) (by rw [hlen]; exact e4) (by rw [hlen]; exact zOk_tl (zOk_tl (zOk_tl e5))) q6 q7 q8 e9
    · rw [if_neg hz9] at hv
      cases hv
theorem z_castore {r0 : Option Nat} {i x : Int} {g : zH → Option ρ} (X : zX K cc own Ts R0) (hd : decode cc pc = .ok (.castore, 1)) (kk : ∀ h', zS (g h') G (zJ K cells slots (pc + 1) lv st h')) : zS ((zsI hp 3 r0 i x).bind g) G (zJ K cells slots pc lv (zI x :: zI i :: zR r0 :: st) hp) := by
  obtain ⟨p, l, e, R, s, m, args, below, meth, c, D, cA, A, Q, nL, ad0, n0⟩ := K
  obtain ⟨hx, hb, hml, hown, hts, hK, hA, hR, hlk⟩ := X
  intro r h1 h2 ad H locs ls e1 e2 e3 e4 e5 e6 e7 e8 e9
  obtain ⟨v, hv, h3⟩ := Option.bind_eq_some_iff.mp h1
  clear h1
  unfold zsI at hv
  obtain ⟨⟨a, n, cf⟩, hz, hv⟩ := Option.bind_eq_some_iff.mp hv
  obtain ⟨f, hf, hv⟩ := Option.bind_eq_some_iff.mp hv
  have hf : cf = _ := zcI_some hf
  subst hf
  · by_cases hz9 : (3 = 2 → x = 0 ∨ x = 1) ∧ (3 = 3 → 0 ≤ x ∧ x ≤ 65535)
    · rw [if_pos hz9] at hv
      cases hv
      obtain ⟨rfl, hi, h0, hn⟩ := zarr_some hz
      have hiR : inR i := zOk_hd (zOk_tl e5)
      have hxR : inR x := zOk_hd e5
      refine va_cast (D := D) (cl := vwCl) hx hb hK e6 e7 e8 a 3 (x := Int32.ofInt x) (i := Int32.ofInt i) (zW_at hi) rfl ((z32_in hiR).2 ⟨h0, hn⟩) hd (fun H1 locs1 q6 q7 q8 => ?_)
      rw [z32_nat hiR] at q6 q7
      rw [znar3 (hz9.2 rfl)] at q6 q7
      have he : zW ad cA (hp.set a (.inl (3, n, .inl (zup f i.toNat x)))) = (zW ad cA hp).set a (ad a, .inl (cA 3, n, .inl (upd (fun j => Int32.ofInt (f j)) i.toNat (Int32.ofInt x)))) := by
        rw [zW_set, ← zup_T]
        rfl
      rw [← he] at q6 q7
      have hlen : (hp.set a (.inl (3, n, .inl (zup f i.toNat x)))).length = hp.length := List.length_set
      exact kk _ r h3 h2 ad H1 locs1 ls e1 (by rw [hlen]; exact e2) (zset_ok e3 (zup_R (e3 _ (zmem hi)) hxR)) (by rw [hlen]; exact e4) (by rw [hlen]; exact zOk_tl (zOk_tl (zOk_tl e5))) q6 q7 q8 e9
    · rw [if_neg hz9] at hv
      cases hv
theorem z_lastore {r0 : Option Nat} {i : Int} {x : Int64} {g : zH → Option ρ} (X : zX K cc own Ts R0) (hd : decode cc pc = .ok (.lastore, 1)) (kk : ∀ h', zS (g h') G (zJ K cells slots (pc + 1) lv st h')) : zS ((zsJ hp r0 i x).bind g) G (zJ K cells slots pc lv (zL x :: zI i :: zR r0 :: st) hp) := by
  obtain ⟨p, l, e, R, s, m, args, below, meth, c, D, cA, A, Q, nL, ad0, n0⟩ := K
  obtain ⟨hx, hb, hml, hown, hts, hK, hA, hR, hlk⟩ := X
  intro r h1 h2 ad H locs ls e1 e2 e3 e4 e5 e6 e7 e8 e9
  obtain ⟨v, hv, h3⟩ := Option.bind_eq_some_iff.mp h1
  clear h1
  unfold zsJ at hv
  obtain ⟨⟨a, n, cf⟩, hz, hv⟩ := Option.bind_eq_some_iff.mp hv
  obtain ⟨f, hf, hv⟩ := Option.bind_eq_some_iff.mp hv
  have hf : cf = _ := zcJ_some hf
  subst hf
  · cases hv
    obtain ⟨rfl, hi, h0, hn⟩ := zarr_some hz
    have hiR : inR i := zOk_hd (zOk_tl e5)
    refine va_last (D := D) (cl := vwCl) hx hb hK e6 e7 e8 a 1 (x := x) (i := Int32.ofInt i) (zW_at hi) rfl ((z32_in hiR).2 ⟨h0, hn⟩) hd (fun H1 locs1 q6 q7 q8 => ?_)
    rw [z32_nat hiR] at q6 q7
    have he : zW ad cA (hp.set a (.inl (1, n, .inr (.inl (zup f i.toNat x))))) = (zW ad cA hp).set a (ad a, .inl (cA 1, n, .inr (.inl (vp_updL f i.toNat x)))) := by
      rw [zW_set]
      rfl
    rw [← he] at q6 q7
    have hlen : (hp.set a (.inl (1, n, .inr (.inl (zup f i.toNat x))))).length = hp.length := List.length_set
    exact kk _ r h3 h2 ad H1 locs1 ls e1 (by rw [hlen]; exact e2) (zset_ok e3 trivial) (by rw [hlen]; exact e4) (by rw [hlen]; exact zOk_tl (zOk_tl (zOk_tl e5))) q6 q7 q8 e9
theorem z_dastore {r0 : Option Nat} {i : Int} {x : UInt64} {g : zH → Option ρ} (X : zX K cc own Ts R0) (hd : decode cc pc = .ok (.dastore, 1)) (kk : ∀ h', zS (g h') G (zJ K cells slots (pc + 1) lv st h')) : zS ((zsD hp r0 i x).bind g) G (zJ K cells slots pc lv (zD x :: zI i :: zR r0 :: st) hp) := by
  obtain ⟨p, l, e, R, s, m, args, below, meth, c, D, cA, A, Q, nL, ad0, n0⟩ := K
  obtain ⟨hx, hb, hml, hown, hts, hK, hA, hR, hlk⟩ := X
  intro r h1 h2 ad H locs ls e1 e2 e3 e4 e5 e6 e7 e8 e9
  obtain ⟨v, hv, h3⟩ := Option.bind_eq_some_iff.mp h1
  clear h1
  unfold zsD at hv
  obtain ⟨⟨a, n, cf⟩, hz, hv⟩ := Option.bind_eq_some_iff.mp hv
  obtain ⟨f, hf, hv⟩ := Option.bind_eq_some_iff.mp hv
  have hf : cf = _ := zcD_some hf
  subst hf
  · cases hv
    obtain ⟨rfl, hi, h0, hn⟩ := zarr_some hz
    have hiR : inR i := zOk_hd (zOk_tl e5)
    refine va_dast (D := D) (cl := vwCl) hx hb hK e6 e7 e8 a 4 (x := x) (i := Int32.ofInt i) (zW_at hi) rfl ((z32_in hiR).2 ⟨h0, hn⟩) hd (fun H1 locs1 q6 q7 q8 => ?_)
    rw [z32_nat hiR] at q6 q7
    have he : zW ad cA (hp.set a (.inl (4, n, .inr (.inr (.inl (zup f i.toNat x)))))) = (zW ad cA hp).set a (ad a, .inl (cA 4, n, .inr (.inr (.inr (.inl (vf_upd f i.toNat x)))))) := by
      rw [zW_set]
      rfl
    rw [← he] at q6 q7
    have hlen : (hp.set a (.inl (4, n, .inr (.inr (.inl (zup f i.toNat x)))))).length = hp.length := List.length_set
    exact kk _ r h3 h2 ad H1 locs1 ls e1 (by rw [hlen]; exact e2) (zset_ok e3 trivial) (by rw [hlen]; exact e4) (by rw [hlen]; exact zOk_tl (zOk_tl (zOk_tl e5))) q6 q7 q8 e9
theorem z_aastore5 {r0 z0 : Option Nat} {i : Int} {g : zH → Option ρ} (X : zX K cc own Ts R0) (hd : decode cc pc = .ok (.aastore, 1)) (kk : ∀ h', zS (g h') G (zJ K cells slots (pc + 1) lv st h')) : zS ((zsR hp 5 r0 i z0 7).bind g) G (zJ K cells slots pc lv (zR z0 :: zI i :: zR r0 :: st) hp) := by
  obtain ⟨p, l, e, R, s, m, args, below, meth, c, D, cA, A, Q, nL, ad0, n0⟩ := K
  obtain ⟨hx, hb, hml, hown, hts, hK, hA, hR, hlk⟩ := X
  intro r h1 h2 ad H locs ls e1 e2 e3 e4 e5 e6 e7 e8 e9
  obtain ⟨v, hv, h3⟩ := Option.bind_eq_some_iff.mp h1
  clear h1
  unfold zsR at hv
  obtain ⟨⟨a, n, cf⟩, hz, hv⟩ := Option.bind_eq_some_iff.mp hv
  obtain ⟨f, hf, hv⟩ := Option.bind_eq_some_iff.mp hv
  obtain ⟨⟨q, fs0⟩, hq, hv⟩ := Option.bind_eq_some_iff.mp hv
  have hf : cf = _ := zcR_some hf
  subst hf
  obtain ⟨hq8, hq9⟩ := zobj_some hq
  clear hq
  subst hq8
  · · cases hv
      obtain ⟨rfl, hi, h0, hn⟩ := zarr_some hz
      have hiR : inR i := zOk_hd (zOk_tl e5)
      refine va_astq (D := D) (cl := vwCl) hx hb hK e6 e7 e8 a 5 q 7 (r := (RX6, TX6, 8)) (i := Int32.ofInt i) (v := ad q) (vs := fs0.map (zT ad)) (zW_at hi) rfl (zW_at hq9) rfl ((z32_in hiR).2 ⟨h0, hn⟩) hd (fun H1 locs1 q6 q7 q8 => ?_)
      rw [z32_nat hiR] at q6 q7
      have he : zW ad cA (hp.set a (.inl (5, n, .inr (.inr (.inr (zup f i.toNat (some q))))))) = (zW ad cA hp).set a (ad a, .inl (cA 5, n, .inr (.inr (.inr (.inr (va_up (fun j => (f j).map ad) i.toNat (some (ad q)))))))) := by
        rw [zW_set]
        show (zW ad cA hp).set a (ad a, .inl (cA 5, n, .inr (.inr (.inr (.inr (fun j => (zup f i.toNat (some q) j).map ad)))))) = _
        have : (fun j => (zup f i.toNat (some q) j).map ad) = va_up (fun j => (f j).map ad) i.toNat (some (ad q)) := by
          funext j
          unfold zup va_up
          split <;> rfl
        rw [this]
      rw [← he] at q6 q7
      have hlen : (hp.set a (.inl (5, n, .inr (.inr (.inr (zup f i.toNat (some q))))))).length = hp.length := List.length_set
      have hok : zOkC hp.length (.inl (5, n, .inr (.inr (.inr (zup f i.toNat (some q)))))) := by
        intro j k hk
        unfold zup at hk
        split at hk
        · cases hk
          exact zlt hq9
        · exact e3 _ (zmem hi) j k hk
      exact kk _ r h3 h2 ad H1 locs1 ls e1 (by rw [hlen]; exact e2) (zset_ok e3 hok) (by rw [hlen]; exact e4) (by rw [hlen]; exact zOk_tl (zOk_tl (zOk_tl e5))) q6 q7 q8 e9
theorem z_aastore6 {r0 z0 : Option Nat} {i : Int} {g : zH → Option ρ} (X : zX K cc own Ts R0) (hd : decode cc pc = .ok (.aastore, 1)) (kk : ∀ h', zS (g h') G (zJ K cells slots (pc + 1) lv st h')) : zS ((zsR hp 6 r0 i z0 2).bind g) G (zJ K cells slots pc lv (zR z0 :: zI i :: zR r0 :: st) hp) := by
  obtain ⟨p, l, e, R, s, m, args, below, meth, c, D, cA, A, Q, nL, ad0, n0⟩ := K
  obtain ⟨hx, hb, hml, hown, hts, hK, hA, hR, hlk⟩ := X
  intro r h1 h2 ad H locs ls e1 e2 e3 e4 e5 e6 e7 e8 e9
  obtain ⟨v, hv, h3⟩ := Option.bind_eq_some_iff.mp h1
  clear h1
  unfold zsR at hv
  obtain ⟨⟨a, n, cf⟩, hz, hv⟩ := Option.bind_eq_some_iff.mp hv
  obtain ⟨f, hf, hv⟩ := Option.bind_eq_some_iff.mp hv
  obtain ⟨⟨q, fs0⟩, hq, hv⟩ := Option.bind_eq_some_iff.mp hv
  have hf : cf = _ := zcR_some hf
  subst hf
  obtain ⟨hq8, hq9⟩ := zobj_some hq
  clear hq
  subst hq8
  · · cases hv
      obtain ⟨rfl, hi, h0, hn⟩ := zarr_some hz
      have hiR : inR i := zOk_hd (zOk_tl e5)
      refine va_astq (D := D) (cl := vwCl) hx hb hK e6 e7 e8 a 6 q 2 (r := (RX0, TX0, 5)) (i := Int32.ofInt i) (v := ad q) (vs := fs0.map (zT ad)) (zW_at hi) rfl (zW_at hq9) rfl ((z32_in hiR).2 ⟨h0, hn⟩) hd (fun H1 locs1 q6 q7 q8 => ?_)
      rw [z32_nat hiR] at q6 q7
      have he : zW ad cA (hp.set a (.inl (6, n, .inr (.inr (.inr (zup f i.toNat (some q))))))) = (zW ad cA hp).set a (ad a, .inl (cA 6, n, .inr (.inr (.inr (.inr (va_up (fun j => (f j).map ad) i.toNat (some (ad q)))))))) := by
        rw [zW_set]
        show (zW ad cA hp).set a (ad a, .inl (cA 6, n, .inr (.inr (.inr (.inr (fun j => (zup f i.toNat (some q) j).map ad)))))) = _
        have : (fun j => (zup f i.toNat (some q) j).map ad) = va_up (fun j => (f j).map ad) i.toNat (some (ad q)) := by
          funext j
          unfold zup va_up
          split <;> rfl
        rw [this]
      rw [← he] at q6 q7
      have hlen : (hp.set a (.inl (6, n, .inr (.inr (.inr (zup f i.toNat (some q))))))).length = hp.length := List.length_set
      have hok : zOkC hp.length (.inl (6, n, .inr (.inr (.inr (zup f i.toNat (some q)))))) := by
        intro j k hk
        unfold zup at hk
        split at hk
        · cases hk
          exact zlt hq9
        · exact e3 _ (zmem hi) j k hk
      exact kk _ r h3 h2 ad H1 locs1 ls e1 (by rw [hlen]; exact e2) (zset_ok e3 hok) (by rw [hlen]; exact e4) (by rw [hlen]; exact zOk_tl (zOk_tl (zOk_tl e5))) q6 q7 q8 e9
theorem z_alen {r0 : Option Nat} {g : Int → Option ρ} (X : zX K cc own Ts R0) (hd : decode cc pc = .ok (.arraylength, 1)) (kk : ∀ v, zS (g v) G (zJ K cells slots (pc + 1) lv (zI v :: st) hp)) : zS ((zlen hp r0).bind g) G (zJ K cells slots pc lv (zR r0 :: st) hp) := by
  obtain ⟨p, l, e, R, s, m, args, below, meth, c, D, cA, A, Q, nL, ad0, n0⟩ := K
  obtain ⟨hx, hb, hml, hown, hts, hK, hA, hR, hlk⟩ := X
  intro r h1 h2 ad H locs ls e1 e2 e3 e4 e5 e6 e7 e8 e9
  obtain ⟨v, hv, h3⟩ := Option.bind_eq_some_iff.mp h1
  clear h1
  unfold zlen at hv
  obtain ⟨a, ha9, hw9⟩ := Option.bind_eq_some_iff.mp hv
  clear hv
  subst ha9
  obtain ⟨x9, hi, hv⟩ := Option.bind_eq_some_iff.mp hw9
  clear hw9
  rcases x9 with ⟨t, n, f⟩ | x9
  · have hv : (if t < 7 ∧ n ≤ 2147483647 then some (n : Int) else none) = some v := hv
    by_cases ht : t < 7 ∧ n ≤ 2147483647
    · rw [if_pos ht] at hv
      cases hv
      obtain ⟨ht, hn⟩ := ht
      have hty : ∃ ty, (zTY cA)[t]? = some (cA t, ty) := by
        have : t = 0 ∨ t = 1 ∨ t = 2 ∨ t = 3 ∨ t = 4 ∨ t = 5 ∨ t = 6 := by omega
        rcases this with rfl | rfl | rfl | rfl | rfl | rfl | rfl <;> exact ⟨_, rfl⟩
      obtain ⟨ty, hty⟩ := hty
      have hc : ∃ x : vp_A, zTC ad cA (.inl (t, n, f)) = .inl (cA t, x) ∧ x.1 = n := by
        match f with
        | .inl f => exact ⟨_, rfl, rfl⟩
        | .inr (.inl f) => exact ⟨_, rfl, rfl⟩
        | .inr (.inr (.inl f)) => exact ⟨_, rfl, rfl⟩
        | .inr (.inr (.inr f)) => exact ⟨_, rfl, rfl⟩
      obtain ⟨x, hc, hxn⟩ := hc
      refine va_alen (D := D) (cl := vwCl) hx hb hK e6 a t (x := x) (by rw [zW_at hi, hc]) hty (v := Int32.ofInt n) (by rw [hxn]; rfl) hd ?_
      exact kk _ r h3 h2 ad H locs ls e1 e2 e3 e4 (zOk_cons ⟨by omega, by omega⟩ (zOk_tl e5)) e6 e7 e8 e9
    · rw [if_neg ht] at hv
      cases hv
  · cases hv
end zHeap
end
section
/-! ===== BEGIN .. of methods that hand back an object of the pool ===== -/
section
variable {p : Program} {l : Launch} {e : Env} {R : Room} {s : State} {m : MethodId} {args : Array Value} {below : List Frame} {meth : Method} {c : Code} {H : Heap} {locs : List Loc} {cells slots : Nat} {Q : State → Prop}
variable {mc ms : Nat} {free : Addr → Prop} {A0 A1 : Nat → Prop} {H0 : Heap} {a : Array Value} {pc : Nat} {ls : Array Slot} {st0 rest : List Value}
theorem vx_callq {S SX : Type} {post : Option Nat → S → Prop} {px : SX → Prop} {B : S → State → Prop} {BX : String → SX → State → Prop} {AX : Nat → Prop} (hr : vx_Run p l e R s m args below meth c H locs cells slots mc ms (F0 m pc ls st0) rest (va_Qq post B A1 a) (vx_X px BX AX) free) (hS : va_S A0 H0 H locs) (hA : ∀ q, q < H.size → A1 q → A0 q) (hf : ∀ q, free q → A0 q) (hAX : ∀ q, q < H.size → AX q → A0 q)
    (kx : ∀ (E : String) (ce : Cell) (q9 : Addr) (u : SX) (t : State) (H1 : Heap) (locs1 : List Loc), t.heap = H1 → s.vm.Alike t.vm → px u → BX E u t → H.size ≤ H1.size → (∀ q : Nat, q < H.size → ¬ AX q → H1[q]? = H[q]?) → va_S A0 H0 H1 locs1 → H1[q9]? = some ce → ce.vm = .none → s.vm.findClass E = some ce.cls → vx_W p l e R s m args below meth c H1 locs1 (cells + mc) (slots + ms) Q (F0 m pc ls rest) q9)
    (kk : ∀ (r : Option Nat) (u : S) (t : State) (H1 : Heap) (locs1 : List Loc), t.heap = H1 → s.vm.Alike t.vm → post r u → B u t → H.size ≤ H1.size → (∀ q : Nat, q < H.size → ¬ A1 q → H1[q]? = H[q]?) → va_S A0 H0 H1 locs1 → W p l e R s m args below meth c H1 locs1 (cells + mc) (slots + ms) Q (F0 m (pc + 3) ls (va_rf r :: rest))) : W p l e R s m args below meth c H locs cells slots Q (F0 m pc ls st0) := by
  intro T hT X
  rcases hr T hT X with ⟨v, st₀, t, T', L, h0, X', hL, e1, e2, ⟨⟨r, u, hv, hp, hb⟩, hF⟩, st⟩ | ⟨q, st₀, t, T', L, E, ce, h0, X', hL, e1, e2, ⟨u, hp, hb, hF⟩, hce, hcv, hcl, st⟩
  · cases hv
    obtain ⟨k1, k2, k3⟩ := vx_keep h0 e1 hS hA hf hL hF
    obtain ⟨t2, a1, b1⟩ := kk r u t T'.heap (locs ++ L) e1.symm (by rw [← e2]; exact X'.warmed.alike) hp hb k1 k2 k3 T' rfl X'
    exact ⟨t2, st t2 a1, b1⟩
  · obtain ⟨k1, k2, k3⟩ := vx_keep h0 e1 hS hAX hf hL hF
    obtain ⟨t2, a1, b1⟩ := kx E ce q u t T'.heap (locs ++ L) e1.symm (by rw [← e2]; exact X'.warmed.alike) hp hb k1 k2 k3 (by rw [e1]; exact hce) hcv hcl T' rfl X'
    exact ⟨t2, st.trans a1, b1⟩
end
/-! NEW OBJECTS, CALLS, ENDS over the pure picture -/
section zCalls
variable {ρ : Type} {o : Option ρ} {G : ρ → Prop} {K : zK} {cc : ByteArray} {own : String} {Ts : List Cond} {R0 : Room} {cells slots pc : Nat} {lv : List (Nat × zPV)} {st : List zPV} {hp : zH}
theorem zOk_up {n n' : Nat} {v : zPV} (h : zOk n v) (hn : n ≤ n') : zOk n' v := by
  rcases v with v | v | v | v | v | v
  · exact h
  · trivial
  · exact fun i hi => Nat.lt_of_lt_of_le (h i hi) hn
  · trivial
  · trivial
  · trivial
theorem zOkC_up {n n' : Nat} {x : zCell} (h : zOkC n x) (hn : n ≤ n') : zOkC n' x := by
  rcases x with ⟨t, k, f | f | f | f⟩ | ⟨c, fs⟩
  · exact h
  · trivial
  · trivial
  · exact fun j i hi => Nat.lt_of_lt_of_le (h j i hi) hn
  · exact fun v hv => zOk_up (h v hv) hn
theorem zT_ext {n : Nat} {v : zPV} {ad ad' : Nat → Nat} (h : zOk n v) (he : ∀ i, i < n → ad' i = ad i) : zT ad' v = zT ad v := by
  rcases v with v | v | v | v | v | v
  · rfl
  · rfl
  · cases v with
    | none => rfl
    | some i => exact congrArg Value.ref (he i (h i rfl))
  · rfl
  · rfl
  · rfl
theorem zTC_ext {n : Nat} {x : zCell} {ad ad' : Nat → Nat} {cA : Nat → ClassId} (h : zOkC n x) (he : ∀ i, i < n → ad' i = ad i) : zTC ad' cA x = zTC ad cA x := by
  rcases x with ⟨t, k, f | f | f | f⟩ | ⟨c, fs⟩
  · rfl
  · rfl
  · rfl
  · have : (fun j => (f j).map ad') = (fun j => (f j).map ad) := by
      funext j
      cases hj : f j with
      | none => rfl
      | some i => exact congrArg some (he i (h j i hj))
    exact congrArg (fun g => (Sum.inl (cA t, k, Sum.inr (Sum.inr (Sum.inr (Sum.inr g)))) : va_E)) this
  · have : fs.map (zT ad') = fs.map (zT ad) := List.map_congr_left fun v hv => zT_ext (h v hv) he
    exact congrArg (fun g => (Sum.inr (c, g) : va_E)) this
theorem zW_ext {n : Nat} {hp : zH} {ad ad' : Nat → Nat} {cA : Nat → ClassId} (h : ∀ c ∈ hp, zOkC n c) (hn : hp.length ≤ n) (he : ∀ i, i < n → ad' i = ad i) : zW ad' cA hp = zW ad cA hp := by
  unfold zW
  apply List.ext_getElem?
  intro k
  rw [List.getElem?_mapIdx, List.getElem?_mapIdx]
  cases hk : hp[k]? with
  | none => rfl
  | some x =>
    show some (ad' k, zTC ad' cA x) = some (ad k, zTC ad cA x)
    rw [he k (Nat.lt_of_lt_of_le (zlt hk) hn), zTC_ext (h x (zmem hk)) he]
theorem zW_push {hp : zH} {x : zCell} {ad ad' : Nat → Nat} {cA : Nat → ClassId} (h : ∀ c ∈ hp, zOkC hp.length c) (he : ∀ i, i < hp.length → ad' i = ad i) : zW ad' cA (hp ++ [x]) = zW ad cA hp ++ [(ad' hp.length, zTC ad' cA x)] := by
  rw [← zW_ext h (Nat.le_refl _) he]
  unfold zW
  rw [List.mapIdx_concat]
theorem zlv_ext {n : Nat} {lv : List (Nat × zPV)} {ad ad' : Nat → Nat} (h : ∀ q ∈ lv, zOk n q.2) (he : ∀ i, i < n → ad' i = ad i) : lv.map (fun q => (q.1, zT ad' q.2)) = lv.map (fun q => (q.1, zT ad q.2)) :=
  List.map_congr_left fun q hq => by rw [zT_ext (h q hq) he]
theorem zst_ext {n : Nat} {st : List zPV} {ad ad' : Nat → Nat} (h : ∀ v ∈ st, zOk n v) (he : ∀ i, i < n → ad' i = ad i) : st.map (zT ad') = st.map (zT ad) :=
  List.map_congr_left fun v hv => zT_ext (h v hv) he
/-- a cell more: the picture goes on with it -/
theorem zj_alloc {p : Program} {l : Launch} {e : Env} {R : Room} {s : State} {m : MethodId} {args : Array Value} {below : List Frame} {meth : Method} {c : Code} {D : va_G} {cA : Nat → ClassId} {A : Nat → Prop} {Q : State → Prop} {nL : Nat} {ad0 : Nat → Nat} {n0 : Nat} {x : zCell} {q : Nat} {ad : Nat → Nat} {H1 : Heap} {locs : List Loc} {ls : Array Slot}
    (kk : zJ (p, l, e, R, s, m, args, below, meth, c, D, cA, A, Q, nL, ad0, n0) cells slots pc lv (zR (some hp.length) :: st) (hp ++ [x]))
    (e1 : ∀ i, i < n0 → ad i = ad0 i) (e2 : n0 ≤ hp.length) (e3 : ∀ c ∈ hp, zOkC hp.length c) (e4 : ∀ q ∈ lv, zOk hp.length q.2) (e5 : ∀ v ∈ st, zOk hp.length v)
    (e9 : lv_has ls nL (lv.map (fun q => (q.1, zT ad q.2)))) (hx0 : zOkC 0 x) (q6 : va_P D vwCl (zW ad cA hp ++ [(q, zTC ad cA x)]) H1) (q7 : va_D A (zW ad cA hp ++ [(q, zTC ad cA x)])) (q8 : va_S A s.heap H1 locs) :
    W p l e R s m args below meth c H1 locs cells slots Q (F0 m pc ls (.ref q :: st.map (zT ad))) := by
  obtain ⟨ad', hE, hq⟩ : ∃ ad' : Nat → Nat, (∀ i, i < hp.length → ad' i = ad i) ∧ ad' hp.length = q := ⟨fun i => if i = hp.length then q else ad i, fun i hi => if_neg (Nat.ne_of_lt hi), if_pos rfl⟩
  have hxT : zTC ad' cA x = zTC ad cA x := zTC_ext hx0 (fun i hi => absurd hi (Nat.not_lt_zero _))
  have hw : zW ad' cA (hp ++ [x]) = zW ad cA hp ++ [(q, zTC ad cA x)] := by
    rw [zW_push e3 hE, hq, hxT]
  rw [← hw] at q6 q7
  have hlen : (hp ++ [x]).length = hp.length + 1 := by rw [List.length_append]; rfl
  have hup : hp.length ≤ (hp ++ [x]).length := by omega
  have k9 := kk ad' H1 locs ls (fun i hi => (hE i (Nat.lt_of_lt_of_le hi e2)).trans (e1 i hi)) (Nat.le_trans e2 hup)
    (by
      intro y hy
      rcases List.mem_append.1 hy with hy | hy
      · exact zOkC_up (e3 y hy) hup
      · rw [List.mem_singleton.1 hy]
        exact zOkC_up hx0 (Nat.zero_le _))
    (fun q hq => zOk_up (e4 q hq) hup)
    (zOk_cons (fun i hi => by cases hi; omega) (fun v hv => zOk_up (e5 v hv) hup)) q6 q7 q8 (by rw [zlv_ext e4 hE]; exact e9)
  have hs : (zR (some hp.length) :: st).map (zT ad') = .ref q :: st.map (zT ad) := by
    show Value.ref (ad' hp.length) :: st.map (zT ad') = _
    rw [hq, zst_ext e5 hE]
  rw [hs] at k9
  exact k9
theorem z_new {idx ci N : Nat} {C : String} {T : u_T} {ty0 : Nat → FieldType} {fs : List zPV} (X : zX K cc own Ts R0) (hd : decode cc pc = .ok (.new idx, 3)) (hin : ∀ w ∈ u_ws C T N, w ∈ Ts) (hty : ∀ k, k < N → parseFieldDescriptor (T k).2.2.1 = some (ty0 k)) (hcl : Cond.classLink own idx C ∈ Ts) (hinst : Cond.instantiable C N ∈ Ts) (hini : Cond.initialized C ∈ Ts) (hc : vwCl[ci]? = some (C, T, N)) (hfs : ∀ ad, ∀ j, j < N → defaultValue (ty0 j) = vp_V (fs.map (zT ad)) j) (hok : ∀ v ∈ fs, zOk 0 v) (hcells : cells + 1 ≤ R0.cells) (hslots : slots + N ≤ R0.slots)
    (kk : zS o G (zJ K (cells + 1) (slots + N) (pc + 3) lv (zR (some hp.length) :: st) (hp ++ [.inr (ci, fs)]))) : zS o G (zJ K cells slots pc lv st hp) := by
  obtain ⟨p, l, e, R, s, m, args, below, meth, c, D, cA, A, Q, nL, ad0, n0⟩ := K
  obtain ⟨hx, hb, hml, hown, hts, hK, hA, hR, hlk, hst9, hEnv⟩ := X
  intro r h1 h2 ad H locs ls e1 e2 e3 e4 e5 e6 e7 e8 e9
  subst hR
  refine va_new (c0 := c) (D := D) (cl := vwCl) (ci := ci) (C := C) (T := T) (N := N) (fs := fs.map (zT ad)) hx hb hts hin ty0 hty hown (hts _ hcl) (hts _ hinst) (hts _ hini) hK e6 e7 e8 hA hc (hfs ad) hcells hslots hd (fun q H1 q6 q7 q8 => ?_)
  exact zj_alloc (kk r h1 h2) e1 e2 e3 e4 e5 e9 (x := .inr (ci, fs)) hok q6 q7 q8
theorem zTY_uniq {s : State} {D : va_G} {cA : Nat → ClassId} {cA' : ClassId} {ty : FieldType} (h : va_K D vwCl (zTY cA) s) (h' : va_K D vwCl (zTY cA ++ [(cA', ty)]) s) (t : Nat) (ht : (zTY cA)[t]? = some (cA t, ty)) : cA' = cA t := by
  have a := (h.2 t _ ht).2
  have b := (h'.2 7 (cA', ty) rfl).2
  cases ty with
  | object C =>
    obtain ⟨_, _, _, _, _, a4⟩ := a
    obtain ⟨_, _, _, _, _, b4⟩ := b
    exact Option.some.inj (b4.symm.trans a4)
  | _ => exact Option.some.inj (b.symm.trans a)
theorem z_newI {z : Int} (n : Nat) (X : zX K cc own Ts R0) (hd : decode cc pc = .ok (.newarray .int, 2)) (harr : Cond.arrayClass .int ∈ Ts) (hz : z = (n : Int)) (hn9 : n ≤ 60000) (hcells : cells + 1 ≤ R0.cells) (hslots : slots + n ≤ R0.slots)
    (kk : zS o G (zJ K (cells + 1) (slots + n) (pc + 2) lv (zR (some hp.length) :: st) (hp ++ [.inl (0, n, .inl (fun _ => 0))]))) : zS o G (zJ K cells slots pc lv (zI z :: st) hp) := by
  obtain ⟨p, l, e, R, s, m, args, below, meth, c, D, cA, A, Q, nL, ad0, n0⟩ := K
  obtain ⟨hx, hb, hml, hown, hts, hK, hA, hR, hlk, hst9, hEnv⟩ := X
  intro r h1 h2 ad H locs ls e1 e2 e3 e4 e5 e6 e7 e8 e9
  subst hR
  subst hz
  have hiR : inR (n : Int) := ⟨by omega, by omega⟩
  refine va_newa (D := D) (cl := vwCl) (atype := .int) (ty := .int) (n := Int32.ofInt (n : Int)) (N' := n) (a0 := (n, .inl (fun _ => 0))) hx hb (hts _ harr) rfl hK e6 e7 e8 hA (fun cA => rfl) ?_ (by rw [z32_nat hiR]; rfl) ?_ hcells hslots hd (fun q cA' H1 hK' q6 q7 q8 => ?_)
  · rw [z32_0, z32_lt hiR inR_0]
    omega
  · refine Nat.le_trans (Nat.mul_le_mul hn9 (show componentBytes .int ≤ 8 by decide)) (by decide)
  · have hu : cA' = cA 0 := zTY_uniq hK hK' 0 rfl
    subst hu
    exact zj_alloc (kk r h1 h2) e1 e2 e3 e4 (zOk_tl e5) e9 (x := .inl (0, n, .inl (fun _ => 0))) (fun _ => inR_0) q6 q7 q8
theorem z_newZ {z : Int} (n : Nat) (X : zX K cc own Ts R0) (hd : decode cc pc = .ok (.newarray .boolean, 2)) (harr : Cond.arrayClass .boolean ∈ Ts) (hz : z = (n : Int)) (hn9 : n ≤ 60000) (hcells : cells + 1 ≤ R0.cells) (hslots : slots + n ≤ R0.slots)
    (kk : zS o G (zJ K (cells + 1) (slots + n) (pc + 2) lv (zR (some hp.length) :: st) (hp ++ [.inl (2, n, .inl (fun _ => 0))]))) : zS o G (zJ K cells slots pc lv (zI z :: st) hp) := by
  obtain ⟨p, l, e, R, s, m, args, below, meth, c, D, cA, A, Q, nL, ad0, n0⟩ := K
  obtain ⟨hx, hb, hml, hown, hts, hK, hA, hR, hlk, hst9, hEnv⟩ := X
  intro r h1 h2 ad H locs ls e1 e2 e3 e4 e5 e6 e7 e8 e9
  subst hR
  subst hz
  have hiR : inR (n : Int) := ⟨by omega, by omega⟩
  refine va_newa (D := D) (cl := vwCl) (atype := .boolean) (ty := .boolean) (n := Int32.ofInt (n : Int)) (N' := n) (a0 := (n, .inl (fun _ => 0))) hx hb (hts _ harr) rfl hK e6 e7 e8 hA (fun cA => rfl) ?_ (by rw [z32_nat hiR]; rfl) ?_ hcells hslots hd (fun q cA' H1 hK' q6 q7 q8 => ?_)
  · rw [z32_0, z32_lt hiR inR_0]
    omega
  · refine Nat.le_trans (Nat.mul_le_mul hn9 (show componentBytes .boolean ≤ 8 by decide)) (by decide)
  · have hu : cA' = cA 2 := zTY_uniq hK hK' 2 rfl
    subst hu
    exact zj_alloc (kk r h1 h2) e1 e2 e3 e4 (zOk_tl e5) e9 (x := .inl (2, n, .inl (fun _ => 0))) (fun _ => inR_0) q6 q7 q8
theorem z_newC {z : Int} (n : Nat) (X : zX K cc own Ts R0) (hd : decode cc pc = .ok (.newarray .char, 2)) (harr : Cond.arrayClass .char ∈ Ts) (hz : z = (n : Int)) (hn9 : n ≤ 60000) (hcells : cells + 1 ≤ R0.cells) (hslots : slots + n ≤ R0.slots)
    (kk : zS o G (zJ K (cells + 1) (slots + n) (pc + 2) lv (zR (some hp.length) :: st) (hp ++ [.inl (3, n, .inl (fun _ => 0))]))) : zS o G (zJ K cells slots pc lv (zI z :: st) hp) := by
  obtain ⟨p, l, e, R, s, m, args, below, meth, c, D, cA, A, Q, nL, ad0, n0⟩ := K
  obtain ⟨hx, hb, hml, hown, hts, hK, hA, hR, hlk, hst9, hEnv⟩ := X
  intro r h1 h2 ad H locs ls e1 e2 e3 e4 e5 e6 e7 e8 e9
  subst hR
  subst hz
  have hiR : inR (n : Int) := ⟨by omega, by omega⟩
  refine va_newa (D := D) (cl := vwCl) (atype := .char) (ty := .char) (n := Int32.ofInt (n : Int)) (N' := n) (a0 := (n, .inl (fun _ => 0))) hx hb (hts _ harr) rfl hK e6 e7 e8 hA (fun cA => rfl) ?_ (by rw [z32_nat hiR]; rfl) ?_ hcells hslots hd (fun q cA' H1 hK' q6 q7 q8 => ?_)
  · rw [z32_0, z32_lt hiR inR_0]
    omega
  · refine Nat.le_trans (Nat.mul_le_mul hn9 (show componentBytes .char ≤ 8 by decide)) (by decide)
  · have hu : cA' = cA 3 := zTY_uniq hK hK' 3 rfl
    subst hu
    exact zj_alloc (kk r h1 h2) e1 e2 e3 e4 (zOk_tl e5) e9 (x := .inl (3, n, .inl (fun _ => 0))) (fun _ => inR_0) q6 q7 q8
theorem z_newJ {z : Int} (n : Nat) (X : zX K cc own Ts R0) (hd : decode cc pc = .ok (.newarray .long, 2)) (harr : Cond.arrayClass .long ∈ Ts) (hz : z = (n : Int)) (hn9 : n ≤ 60000) (hcells : cells + 1 ≤ R0.cells) (hslots : slots + n ≤ R0.slots)
    (kk : zS o G (zJ K (cells + 1) (slots + n) (pc + 2) lv (zR (some hp.length) :: st) (hp ++ [.inl (1, n, .inr (.inl (fun _ => 0)))]))) : zS o G (zJ K cells slots pc lv (zI z :: st) hp) := by
  obtain ⟨p, l, e, R, s, m, args, below, meth, c, D, cA, A, Q, nL, ad0, n0⟩ := K
  obtain ⟨hx, hb, hml, hown, hts, hK, hA, hR, hlk, hst9, hEnv⟩ := X
  intro r h1 h2 ad H locs ls e1 e2 e3 e4 e5 e6 e7 e8 e9
  subst hR
  subst hz
  have hiR : inR (n : Int) := ⟨by omega, by omega⟩
  refine va_newa (D := D) (cl := vwCl) (atype := .long) (ty := .long) (n := Int32.ofInt (n : Int)) (N' := n) (a0 := (n, .inr (.inl (fun _ => 0)))) hx hb (hts _ harr) rfl hK e6 e7 e8 hA (fun cA => rfl) ?_ (by rw [z32_nat hiR]; rfl) ?_ hcells hslots hd (fun q cA' H1 hK' q6 q7 q8 => ?_)
  · rw [z32_0, z32_lt hiR inR_0]
    omega
  · refine Nat.le_trans (Nat.mul_le_mul hn9 (show componentBytes .long ≤ 8 by decide)) (by decide)
  · have hu : cA' = cA 1 := zTY_uniq hK hK' 1 rfl
    subst hu
    exact zj_alloc (kk r h1 h2) e1 e2 e3 e4 (zOk_tl e5) e9 (x := .inl (1, n, .inr (.inl (fun _ => 0)))) trivial q6 q7 q8
theorem z_newD {z : Int} (n : Nat) (X : zX K cc own Ts R0) (hd : decode cc pc = .ok (.newarray .double, 2)) (harr : Cond.arrayClass .double ∈ Ts) (hz : z = (n : Int)) (hn9 : n ≤ 60000) (hcells : cells + 1 ≤ R0.cells) (hslots : slots + n ≤ R0.slots)
    (kk : zS o G (zJ K (cells + 1) (slots + n) (pc + 2) lv (zR (some hp.length) :: st) (hp ++ [.inl (4, n, .inr (.inr (.inl (fun _ => 0))))]))) : zS o G (zJ K cells slots pc lv (zI z :: st) hp) := by
  obtain ⟨p, l, e, R, s, m, args, below, meth, c, D, cA, A, Q, nL, ad0, n0⟩ := K
  obtain ⟨hx, hb, hml, hown, hts, hK, hA, hR, hlk, hst9, hEnv⟩ := X
  intro r h1 h2 ad H locs ls e1 e2 e3 e4 e5 e6 e7 e8 e9
  subst hR
  subst hz
  have hiR : inR (n : Int) := ⟨by omega, by omega⟩
  refine va_newa (D := D) (cl := vwCl) (atype := .double) (ty := .double) (n := Int32.ofInt (n : Int)) (N' := n) (a0 := (n, .inr (.inr (.inr (.inl (fun _ => 0)))))) hx hb (hts _ harr) rfl hK e6 e7 e8 hA (fun cA => rfl) ?_ (by rw [z32_nat hiR]; rfl) ?_ hcells hslots hd (fun q cA' H1 hK' q6 q7 q8 => ?_)
  · rw [z32_0, z32_lt hiR inR_0]
    omega
  · refine Nat.le_trans (Nat.mul_le_mul hn9 (show componentBytes .double ≤ 8 by decide)) (by decide)
  · have hu : cA' = cA 4 := zTY_uniq hK hK' 4 rfl
    subst hu
    exact zj_alloc (kk r h1 h2) e1 e2 e3 e4 (zOk_tl e5) e9 (x := .inl (4, n, .inr (.inr (.inl (fun _ => 0))))) trivial q6 q7 q8
theorem z_newR5 {z : Int} {idx : Nat} (n : Nat) (X : zX K cc own Ts R0) (hd : decode cc pc = .ok (.anewarray idx, 3)) (hcl : Cond.classLink own idx "StreetNamer$Street" ∈ Ts) (hz : z = (n : Int)) (hn9 : n ≤ 60000) (hcells : cells + 1 ≤ R0.cells) (hslots : slots + n ≤ R0.slots)
    (kk : zS o G (zJ K (cells + 1) (slots + n) (pc + 3) lv (zR (some hp.length) :: st) (hp ++ [.inl (5, n, .inr (.inr (.inr (fun _ => none))))]))) : zS o G (zJ K cells slots pc lv (zI z :: st) hp) := by
  obtain ⟨p, l, e, R, s, m, args, below, meth, c, D, cA, A, Q, nL, ad0, n0⟩ := K
  obtain ⟨hx, hb, hml, hown, hts, hK, hA, hR, hlk, hst9, hEnv⟩ := X
  intro r h1 h2 ad H locs ls e1 e2 e3 e4 e5 e6 e7 e8 e9
  subst hR
  subst hz
  have hiR : inR (n : Int) := ⟨by omega, by omega⟩
  refine va_newq (D := D) (cl := vwCl) (C := "StreetNamer$Street") (n := Int32.ofInt (n : Int)) (N' := n) hx hb hown (hts _ hcl) hEnv.2.2.2.2.1 hK e6 e7 e8 hA ?_ (by rw [z32_nat hiR]; rfl) ?_ hcells hslots hd (fun q cA' H1 hK' q6 q7 q8 => ?_)
  · rw [z32_0, z32_lt hiR inR_0]
    omega
  · refine Nat.le_trans (Nat.mul_le_mul hn9 (Nat.le_refl 4)) (by decide)
  · have hu : cA' = cA 5 := zTY_uniq hK hK' 5 rfl
    subst hu
    exact zj_alloc (kk r h1 h2) e1 e2 e3 e4 (zOk_tl e5) e9 (x := .inl (5, n, .inr (.inr (.inr (fun _ => none))))) (fun _ _ h => by cases h) q6 q7 q8
theorem z_newR6 {z : Int} {idx : Nat} (n : Nat) (X : zX K cc own Ts R0) (hd : decode cc pc = .ok (.anewarray idx, 3)) (hcl : Cond.classLink own idx "StreetNamer$Door" ∈ Ts) (hz : z = (n : Int)) (hn9 : n ≤ 60000) (hcells : cells + 1 ≤ R0.cells) (hslots : slots + n ≤ R0.slots)
    (kk : zS o G (zJ K (cells + 1) (slots + n) (pc + 3) lv (zR (some hp.length) :: st) (hp ++ [.inl (6, n, .inr (.inr (.inr (fun _ => none))))]))) : zS o G (zJ K cells slots pc lv (zI z :: st) hp) := by
  obtain ⟨p, l, e, R, s, m, args, below, meth, c, D, cA, A, Q, nL, ad0, n0⟩ := K
  obtain ⟨hx, hb, hml, hown, hts, hK, hA, hR, hlk, hst9, hEnv⟩ := X
  intro r h1 h2 ad H locs ls e1 e2 e3 e4 e5 e6 e7 e8 e9
  subst hR
  subst hz
  have hiR : inR (n : Int) := ⟨by omega, by omega⟩
  refine va_newq (D := D) (cl := vwCl) (C := "StreetNamer$Door") (n := Int32.ofInt (n : Int)) (N' := n) hx hb hown (hts _ hcl) hEnv.2.2.2.2.2 hK e6 e7 e8 hA ?_ (by rw [z32_nat hiR]; rfl) ?_ hcells hslots hd (fun q cA' H1 hK' q6 q7 q8 => ?_)
  · rw [z32_0, z32_lt hiR inR_0]
    omega
  · refine Nat.le_trans (Nat.mul_le_mul hn9 (Nat.le_refl 4)) (by decide)
  · have hu : cA' = cA 6 := zTY_uniq hK hK' 6 rfl
    subst hu
    exact zj_alloc (kk r h1 h2) e1 e2 e3 e4 (zOk_tl e5) e9 (x := .inl (6, n, .inr (.inr (.inr (fun _ => none))))) (fun _ _ h => by cases h) q6 q7 q8
theorem zcat_sum (ad : Nat → Nat) (st : List zPV) : ((st.map (zT ad)).map fun v => v.category).sum = (st.map zcat).sum := by
  rw [List.map_map]
  congr 1
  apply List.map_congr_left
  intro v _
  exact zcat_T ad v
theorem z_objInit {idx : Nat} {r0 : Option Nat} {a : Nat} (hr0 : r0 = some a) (X : zX K cc own Ts R0) (hd : decode cc pc = .ok (.invokespecial idx, 3)) (hlink : Cond.methodLink own idx Lib.objectInit ∈ Ts) (hinst : Cond.instanceMethod Lib.objectInit ∈ Ts) (hcode : Cond.code Lib.objectInit ⟨#[0xb1]⟩ 1 none ∈ Ts) (hfr : 1 ≤ R0.frames) (hlo : (st.map zcat).sum + 12 ≤ R0.locals) (kk : zS o G (zJ K cells slots (pc + 3) lv st hp)) : zS o G (zJ K cells slots pc lv (zR r0 :: st) hp) := by
  obtain ⟨p, l, e, R, s, m, args, below, meth, c, D, cA, A, Q, nL, ad0, n0⟩ := K
  obtain ⟨hx, hb, hml, hown, hts, hK, hA, hR, hlk, hst9, hEnv⟩ := X
  intro r h1 h2 ad H locs ls e1 e2 e3 e4 e5 e6 e7 e8 e9
  subst hR
  subst hr0
  refine W.objInit hx hb hown (hts _ hlink) (hts _ hinst) (hts _ hcode) rfl (by rw [hml]; exact e9.1) (a := ad a) (rest := st.map (zT ad)) rfl hd hfr ?_ ?_
  · show 2 * 0 + _ + 12 ≤ _
    rw [zcat_sum]
    omega
  · exact kk r h1 h2 ad H locs ls e1 e2 e3 e4 (zOk_tl e5) e6 e7 e8 e9
def zmax (a b : Int) : Int := if a < b then b else a
def zmin (a b : Int) : Int := if b < a then b else a
def zabs (a : Int) : Int := if 0 ≤ a then a else 0 - a
theorem z_max {idx : Nat} {a b : Int} (X : zX K cc own Ts R0) (hd : decode cc pc = .ok (.invokestatic idx, 3)) (hlink : Cond.methodLink own idx Lib.Math.max.name ∈ Ts) (hstat : Cond.static Lib.Math.max.name ∈ Ts) (hini : Cond.initialized "java/lang/Math" ∈ Ts) (hcode : Cond.code Lib.Math.max.name Lib.Math.max.code 2 (some .int) ∈ Ts) (hfr : 1 ≤ R0.frames) (hlo : (st.map zcat).sum + 13 ≤ R0.locals) (hcs : cells ≤ R0.cells) (hss : slots ≤ R0.slots) (kk : zS o G (zJ K cells slots (pc + 3) lv (zI (zmax a b) :: st) hp)) : zS o G (zJ K cells slots pc lv (zI b :: zI a :: st) hp) := by
  obtain ⟨p, l, e, R, s, m, args, below, meth, c, D, cA, A, Q, nL, ad0, n0⟩ := K
  obtain ⟨hx, hb, hml, hown, hts, hK, hA, hR, hlk, hst9, hEnv⟩ := X
  intro r h1 h2 ad H locs ls e1 e2 e3 e4 e5 e6 e7 e8 e9
  subst hR
  have hbR : inR b := zOk_hd e5
  have haR : inR a := zOk_hd (zOk_tl e5)
  refine va_mmax hx hb (by rw [hml]; exact e9.1.symm) hown (hts _ hlink) (hts _ hstat) (hts _ hini) (hts _ hcode) hfr (by rw [zcat_sum]; exact hlo) hcs hss hd ?_
  have he : (if Int32.ofInt a < Int32.ofInt b then Int32.ofInt b else Int32.ofInt a) = Int32.ofInt (zmax a b) := by
    unfold zmax
    by_cases hc : a < b
    · rw [if_pos hc, if_pos ((z32_lt haR hbR).2 hc)]
    · rw [if_neg hc, if_neg (fun h => hc ((z32_lt haR hbR).1 h))]
  rw [he]
  exact kk r h1 h2 ad H locs ls e1 e2 e3 e4 (zOk_cons (by show inR (zmax a b); unfold zmax; split <;> assumption) (zOk_tl (zOk_tl e5))) e6 e7 e8 e9
theorem z_min {idx : Nat} {a b : Int} (X : zX K cc own Ts R0) (hd : decode cc pc = .ok (.invokestatic idx, 3)) (hlink : Cond.methodLink own idx Lib.Math.min.name ∈ Ts) (hstat : Cond.static Lib.Math.min.name ∈ Ts) (hini : Cond.initialized "java/lang/Math" ∈ Ts) (hcode : Cond.code Lib.Math.min.name Lib.Math.min.code 2 (some .int) ∈ Ts) (hfr : 1 ≤ R0.frames) (hlo : (st.map zcat).sum + 13 ≤ R0.locals) (hcs : cells ≤ R0.cells) (hss : slots ≤ R0.slots) (kk : zS o G (zJ K cells slots (pc + 3) lv (zI (zmin a b) :: st) hp)) : zS o G (zJ K cells slots pc lv (zI b :: zI a :: st) hp) := by
  obtain ⟨p, l, e, R, s, m, args, below, meth, c, D, cA, A, Q, nL, ad0, n0⟩ := K
  obtain ⟨hx, hb, hml, hown, hts, hK, hA, hR, hlk, hst9, hEnv⟩ := X
  intro r h1 h2 ad H locs ls e1 e2 e3 e4 e5 e6 e7 e8 e9
  subst hR
  have hbR : inR b := zOk_hd e5
  have haR : inR a := zOk_hd (zOk_tl e5)
  refine va_mmin hx hb (by rw [hml]; exact e9.1.symm) hown (hts _ hlink) (hts _ hstat) (hts _ hini) (hts _ hcode) hfr (by rw [zcat_sum]; exact hlo) hcs hss hd ?_
  have he : (if Int32.ofInt b < Int32.ofInt a then Int32.ofInt b else Int32.ofInt a) = Int32.ofInt (zmin a b) := by
    unfold zmin
    by_cases hc : b < a
    · rw [if_pos hc, if_pos ((z32_lt hbR haR).2 hc)]
    · rw [if_neg hc, if_neg (fun h => hc ((z32_lt hbR haR).1 h))]
  rw [he]
  exact kk r h1 h2 ad H locs ls e1 e2 e3 e4 (zOk_cons (by show inR (zmin a b); unfold zmin; split <;> assumption) (zOk_tl (zOk_tl e5))) e6 e7 e8 e9
theorem z_abs {idx : Nat} {a : Int} (ha9 : -2147483648 < a) (X : zX K cc own Ts R0) (hd : decode cc pc = .ok (.invokestatic idx, 3)) (hlink : Cond.methodLink own idx Lib.Math.abs.name ∈ Ts) (hstat : Cond.static Lib.Math.abs.name ∈ Ts) (hini : Cond.initialized "java/lang/Math" ∈ Ts) (hcode : Cond.code Lib.Math.abs.name Lib.Math.abs.code 1 (some .int) ∈ Ts) (hfr : 1 ≤ R0.frames) (hlo : (st.map zcat).sum + 13 ≤ R0.locals) (hcs : cells ≤ R0.cells) (hss : slots ≤ R0.slots) (kk : zS o G (zJ K cells slots (pc + 3) lv (zI (zabs a) :: st) hp)) : zS o G (zJ K cells slots pc lv (zI a :: st) hp) := by
  obtain ⟨p, l, e, R, s, m, args, below, meth, c, D, cA, A, Q, nL, ad0, n0⟩ := K
  obtain ⟨hx, hb, hml, hown, hts, hK, hA, hR, hlk, hst9, hEnv⟩ := X
  intro r h1 h2 ad H locs ls e1 e2 e3 e4 e5 e6 e7 e8 e9
  subst hR
  have haR : inR a := zOk_hd e5
  refine va_mabs hx hb (by rw [hml]; exact e9.1.symm) hown (hts _ hlink) (hts _ hstat) (hts _ hini) (hts _ hcode) hfr (by rw [zcat_sum]; exact hlo) hcs hss hd ?_
  have he : (if 0 ≤ Int32.ofInt a then Int32.ofInt a else 0 - Int32.ofInt a) = Int32.ofInt (zabs a) := by
    unfold zabs
    by_cases hc : 0 ≤ a
    · rw [if_pos hc, if_pos (show (0 : Int32) ≤ Int32.ofInt a from (z32_le inR_0 haR).2 hc)]
    · rw [if_neg hc, if_neg (show ¬ (0 : Int32) ≤ Int32.ofInt a from fun h => hc ((z32_le inR_0 haR).1 h)), Int32.ofInt_sub]
      rfl
  rw [he]
  refine kk r h1 h2 ad H locs ls e1 e2 e3 e4 (zOk_cons ?_ (zOk_tl e5)) e6 e7 e8 e9
  show inR (zabs a)
  unfold zabs
  have := haR.1
  have := haR.2
  split
  · exact haR
  · exact ⟨by omega, by omega⟩
def zi2f (a : Int) : UInt32 := FP.i2f (Int32.ofInt a)
def zi2d (a : Int) : UInt64 := FP.i2d (Int32.ofInt a)
def zfdiv (x y : UInt32) : Option UInt32 := if FP.fdiv x y &&& 0x7fffffff ≤ 0x7f800000 then some (FP.fdiv x y) else none
def zddiv (x y : UInt64) : Option UInt64 := if FP.ddiv x y &&& 0x7fffffffffffffff ≤ 0x7ff0000000000000 then some (FP.ddiv x y) else none
def zf2d (x : UInt32) : Option UInt64 := if FP.f2d x &&& 0x7fffffffffffffff ≤ 0x7ff0000000000000 then some (FP.f2d x) else none
theorem z_i2f {a : Int} (X : zX K cc own Ts R0) (hd : decode cc pc = .ok (.i2f, 1)) (kk : zS o G (zJ K cells slots (pc + 1) lv (zF (zi2f a) :: st) hp)) : zS o G (zJ K cells slots pc lv (zI a :: st) hp) := by
  obtain ⟨p, l, e, R, s, m, args, below, meth, c, D, cA, A, Q, nL, ad0, n0⟩ := K
  obtain ⟨hx, hb, hml, hown, hts, hK, hA, hR, hlk, hst9, hEnv⟩ := X
  intro r h1 h2 ad H locs ls e1 e2 e3 e4 e5 e6 e7 e8 e9
  refine lv_i2f hx hb hd ?_
  exact kk r h1 h2 ad H locs ls e1 e2 e3 e4 (zOk_cons trivial (zOk_tl e5)) e6 e7 e8 e9
theorem z_i2d {a : Int} (X : zX K cc own Ts R0) (hd : decode cc pc = .ok (.i2d, 1)) (kk : zS o G (zJ K cells slots (pc + 1) lv (zD (zi2d a) :: st) hp)) : zS o G (zJ K cells slots pc lv (zI a :: st) hp) := by
  obtain ⟨p, l, e, R, s, m, args, below, meth, c, D, cA, A, Q, nL, ad0, n0⟩ := K
  obtain ⟨hx, hb, hml, hown, hts, hK, hA, hR, hlk, hst9, hEnv⟩ := X
  intro r h1 h2 ad H locs ls e1 e2 e3 e4 e5 e6 e7 e8 e9
  refine lv_i2d hx hb hd ?_
  exact kk r h1 h2 ad H locs ls e1 e2 e3 e4 (zOk_cons trivial (zOk_tl e5)) e6 e7 e8 e9
theorem z_fdiv {x y : UInt32} {f : UInt32 → Option ρ} (X : zX K cc own Ts R0) (hd : decode cc pc = .ok (.fdiv, 1)) (kk : ∀ v, zS (f v) G (zJ K cells slots (pc + 1) lv (zF v :: st) hp)) : zS ((zfdiv x y).bind f) G (zJ K cells slots pc lv (zF y :: zF x :: st) hp) := by
  obtain ⟨p, l, e, R, s, m, args, below, meth, c, D, cA, A, Q, nL, ad0, n0⟩ := K
  obtain ⟨hx, hb, hml, hown, hts, hK, hA, hR, hlk, hst9, hEnv⟩ := X
  intro r h1 h2 ad H locs ls e1 e2 e3 e4 e5 e6 e7 e8 e9
  obtain ⟨v, hv, h3⟩ := Option.bind_eq_some_iff.mp h1
  unfold zfdiv at hv
  split at hv
  · rename_i hz
    cases hv
    refine lv_fdiv hx hb hd hz ?_
    exact kk _ r h3 h2 ad H locs ls e1 e2 e3 e4 (zOk_cons trivial (zOk_tl (zOk_tl e5))) e6 e7 e8 e9
  · cases hv
theorem z_ddiv {x y : UInt64} {f : UInt64 → Option ρ} (X : zX K cc own Ts R0) (hd : decode cc pc = .ok (.ddiv, 1)) (kk : ∀ v, zS (f v) G (zJ K cells slots (pc + 1) lv (zD v :: st) hp)) : zS ((zddiv x y).bind f) G (zJ K cells slots pc lv (zD y :: zD x :: st) hp) := by
  obtain ⟨p, l, e, R, s, m, args, below, meth, c, D, cA, A, Q, nL, ad0, n0⟩ := K
  obtain ⟨hx, hb, hml, hown, hts, hK, hA, hR, hlk, hst9, hEnv⟩ := X
  intro r h1 h2 ad H locs ls e1 e2 e3 e4 e5 e6 e7 e8 e9
  obtain ⟨v, hv, h3⟩ := Option.bind_eq_some_iff.mp h1
  unfold zddiv at hv
  split at hv
  · rename_i hz
    cases hv
    refine lv_ddiv hx hb hd hz ?_
    exact kk _ r h3 h2 ad H locs ls e1 e2 e3 e4 (zOk_cons trivial (zOk_tl (zOk_tl e5))) e6 e7 e8 e9
  · cases hv
theorem z_f2d {x : UInt32} {f : UInt64 → Option ρ} (X : zX K cc own Ts R0) (hd : decode cc pc = .ok (.f2d, 1)) (kk : ∀ v, zS (f v) G (zJ K cells slots (pc + 1) lv (zD v :: st) hp)) : zS ((zf2d x).bind f) G (zJ K cells slots pc lv (zF x :: st) hp) := by
  obtain ⟨p, l, e, R, s, m, args, below, meth, c, D, cA, A, Q, nL, ad0, n0⟩ := K
  obtain ⟨hx, hb, hml, hown, hts, hK, hA, hR, hlk, hst9, hEnv⟩ := X
  intro r h1 h2 ad H locs ls e1 e2 e3 e4 e5 e6 e7 e8 e9
  obtain ⟨v, hv, h3⟩ := Option.bind_eq_some_iff.mp h1
  unfold zf2d at hv
  split at hv
  · rename_i hz
    cases hv
    refine lv_f2d hx hb hd hz ?_
    exact kk _ r h3 h2 ad H locs ls e1 e2 e3 e4 (zOk_cons trivial (zOk_tl e5)) e6 e7 e8 e9
  · cases hv
end zCalls
end
section
/-! CONTRACTS over the pure picture, and calls by them -/
section zMet
variable {ρ : Type} {o : Option ρ} {G : ρ → Prop} {K : zK} {cc : ByteArray} {own : String} {R0 : Room} {cells slots pc : Nat} {lv : List (Nat × zPV)} {st : List zPV} {hp : zH}
def zfit (ty : FieldType) (z : Int) : Prop := match ty with
  | .boolean => z = 0 ∨ z = 1
  | .char => 0 ≤ z ∧ z ≤ 65535
  | _ => True
theorem zfit_nar {ty : FieldType} {z : Int} (hty : ty = .int ∨ ty = .boolean ∨ ty = .char) (h : zfit ty z) : narrow ty (.int (Int32.ofInt z)) = .int (Int32.ofInt z) := by
  rcases hty with rfl | rfl | rfl
  · rfl
  · exact (zZ_fit (ad := id) h).1
  · exact (zC_fit (ad := id) h).1
def zargs : Nat → List zPV → List (Nat × zPV)
  | _, [] => []
  | i, v :: vs => (i, v) :: zargs (if zcat v = 2 then i + 2 else i + 1) vs
theorem zargs_map (ad : Nat → Nat) (pvs : List zPV) : ∀ i, lv_args i (pvs.map (zT ad)) = (zargs i pvs).map (fun q => (q.1, zT ad q.2)) := by
  induction pvs with
  | nil => intro i; rfl
  | cons v vs ih =>
    intro i
    show (i, zT ad v) :: lv_args (if (zT ad v).category = 2 then i + 2 else i + 1) (vs.map (zT ad)) = (i, zT ad v) :: _
    rw [zcat_T, ih]
theorem zcat_12 (v : zPV) : zcat v = 1 ∨ zcat v = 2 := by
  rcases v with v | v | v | v | v | v
  · exact Or.inl rfl
  · exact Or.inr rfl
  · exact Or.inl rfl
  · exact Or.inl rfl
  · exact Or.inr rfl
  · exact Or.inl rfl
theorem zlen_sl (ad : Nat → Nat) (pvs : List zPV) : (lg_sl (pvs.map (zT ad))).length = (pvs.map zcat).sum := by
  induction pvs with
  | nil => rfl
  | cons v vs ih =>
    have e : lg_sl ((v :: vs).map (zT ad)) = (if (zT ad v).category = 2 then [.val (zT ad v), .second] else [.val (zT ad v)]) ++ lg_sl (vs.map (zT ad)) := rfl
    rw [e, List.length_append, ih, zcat_T, List.map_cons, List.sum_cons]
    rcases zcat_12 v with h | h <;> rw [h] <;> rfl
theorem zargs_ok {n : Nat} {pvs : List zPV} (h : ∀ v ∈ pvs, zOk n v) : ∀ i, ∀ q ∈ zargs i pvs, zOk n q.2 := by
  induction pvs with
  | nil => intro i q hq; cases hq
  | cons v vs ih =>
    intro i q hq
    rcases List.mem_cons.1 hq with rfl | hq
    · exact h v List.mem_cons_self
    · exact ih (fun u hu => h u (List.mem_cons_of_mem _ hu)) _ q hq
def zexn : Nat → String
  | 0 => "java/lang/IllegalArgumentException"
  | 1 => "java/lang/IllegalStateException"
  | 2 => "java/lang/UnsupportedOperationException"
  | 3 => "java/lang/IndexOutOfBoundsException"
  | 4 => "java/util/NoSuchElementException"
  | _ => "java/lang/ArithmeticException"
def zPc (D : va_G) (cA : Nat → ClassId) (ad : Nat → Nat) (sz : Nat) (pvs : List zPV) (hp : zH) : Array Value → State → Prop := va_Pc (pvs.map (zT ad)) (fun U => U.heap.size = sz ∧ va_P D vwCl (zW ad cA hp) U.heap ∧ va_K D vwCl (zTY cA) U ∧ va_D (fun _ => True) (zW ad cA hp) ∧ zEnv (va_A (zW ad cA hp) sz) U U.heap)
def zPost (D : va_G) (cA : Nat → ClassId) (ad : Nat → Nat) (hp hp' : zH) (A : Nat → Prop) (ad' : Nat → Nat) (t : State) : Prop := (∀ i, i < hp.length → ad' i = ad i) ∧ hp.length ≤ hp'.length ∧ (∀ c ∈ hp', zOkC hp'.length c) ∧ va_P D vwCl (zW ad' cA hp') t.heap ∧ va_K D vwCl (zTY cA) t ∧ va_D A (zW ad' cA hp')
def zE (K : zK) (cells slots pc : Nat) (lv : List (Nat × zPV)) (k : Nat) (hp : zH) : Prop := match K with
  | (p, l, e, R, s, m, args, below, meth, c, D, cA, A, Q, nL, ad0, n0) =>
    ∀ (ad : Nat → Nat) (H : Heap) (locs : List Loc) (ls : Array Slot) (rest : List Value) (q : Addr) (ce : Cell), (∀ i, i < n0 → ad i = ad0 i) → n0 ≤ hp.length → (∀ c ∈ hp, zOkC hp.length c) → (∀ q ∈ lv, zOk hp.length q.2) →
      va_P D vwCl (zW ad cA hp) H → va_D A (zW ad cA hp) → va_S A s.heap H locs → lv_has ls nL (lv.map (fun q => (q.1, zT ad q.2))) → H[q]? = some ce → ce.vm = .none → s.vm.findClass (zexn k) = some ce.cls →
      vx_W p l e R s m args below meth c H locs cells slots Q (F0 m pc ls rest) q
theorem zNw_same {w : Cond} (hw : zng w = true) {u U : State} (h : u.vm = U.vm) (hZ : va_Nw w u) : va_Nw w U := by
  cases w <;> first | exact va_Nw.same rfl h hZ | cases hw
theorem zNw_warm {w : Cond} (hw : zng w = true) {s U : State} (hW : s.WarmedH U.vm) (hZ : va_Nw w s) : va_Nw w U := by
  cases w <;> first | exact va_Nw.warmC hW hZ | exact va_Nw.warmD hW hZ | exact va_Nw.warmM hW hZ | cases hw
theorem zEnv_blind {A : Nat → Prop} {U : State} {g : JFrame} {mk : MethodId} {a : Array Value} (h : zEnv A U U.heap) : zEnv A (U.calling g mk a) (U.calling g mk a).heap :=
  ⟨vx_Zq.moved (u := U) (Vm.Alike.refl U.vm) h.1, vx_Zq.moved (u := U) (Vm.Alike.refl U.vm) h.2.1, fun w h1 h2 => zNw_same (u := U) h2 rfl (h.2.2.1 w h1 h2), fun k tx hk => (h.2.2.2.1 k tx hk).imp fun a ha => vk_R.same (u := U) rfl ha, va_AO.moved (u := U) (Vm.Alike.refl U.vm) h.2.2.2.2.1, va_AO.moved (u := U) (Vm.Alike.refl U.vm) h.2.2.2.2.2⟩
theorem zEnv_call {A B : Nat → Prop} {s U : State} {H : Heap} {locs : List Loc} (h : zEnv A s s.heap) (hS : va_S A s.heap H locs) (hU : U.heap = H) (hW : s.WarmedH U.vm) (hF : ∀ q, B q → A q) : zEnv B U U.heap := by
  rw [hU]
  exact ⟨((vx_Zq.moved hW.alike h.1).kept hS.2.1).narrow hF, ((vx_Zq.moved hW.alike h.2.1).kept hS.2.1).narrow hF, fun w h1 h2 => zNw_warm h2 hW (h.2.2.1 w h1 h2), fun k tx hk => (h.2.2.2.1 k tx hk).imp fun a ha => vk_R.warm hW ha, va_AO.moved hW.alike h.2.2.2.2.1, va_AO.moved hW.alike h.2.2.2.2.2⟩
theorem zPc_blind {D : va_G} {cA : Nat → ClassId} {ad : Nat → Nat} {sz : Nat} {pvs : List zPV} {hp : zH} : FrameBlind (zPc D cA ad sz pvs hp) := by
  intro a U g mk q
  obtain ⟨h0, h1, h2, h3, h4, h5⟩ := q
  exact ⟨h0, h1, h2, va_K.moved (u := U) (U := U.calling g mk a) (Vm.Alike.refl U.vm) h3, h4, zEnv_blind h5⟩
theorem zPc_pre {D : va_G} {cA : Nat → ClassId} {ad : Nat → Nat} {pvs : List zPV} {hp : zH} {A : Nat → Prop} {s U : State} {H : Heap} {locs : List Loc} (hP : va_P D vwCl (zW ad cA hp) H) (hK : va_K D vwCl (zTY cA) s) (hD : va_D A (zW ad cA hp)) (hE : zEnv A s s.heap) (hS : va_S A s.heap H locs) (hF : ∀ q, va_A (zW ad cA hp) H.size q → A q) (hU : U.heap = H) (hW : s.WarmedH U.vm) : zPc D cA ad H.size pvs hp (pvs.map (zT ad)).toArray U :=
  ⟨rfl, by rw [hU], by rw [hU]; exact hP, va_K.moved hW.alike hK, ⟨hD.1, fun _ _ _ => trivial⟩, zEnv_call hE hS hU hW hF⟩
theorem zfree {ad : Nat → Nat} {cA : Nat → ClassId} {hp : zH} {A : Nat → Prop} {s : State} {H : Heap} {locs : List Loc} (hD : va_D A (zW ad cA hp)) (hS : va_S A s.heap H locs) (hA : ∀ q, s.heap.size ≤ q → A q) : ∀ q, va_A (zW ad cA hp) H.size q → A q := by
  intro q h
  rcases h with ⟨k, e, h⟩ | h
  · exact hD.2 k (q, e) h
  · exact hA q (Nat.le_trans hS.1 h)
theorem zgood {w0 : Cond} (hw : w0 ∈ zALL) : GoodIn zALL (w0 :: zALL) := by
  intro w h
  rcases List.mem_cons.1 h with rfl | h
  · exact ⟨hw, good_of_word (List.mem_filter.1 hw).2⟩
  · exact ⟨h, good_of_word (List.mem_filter.1 h).2⟩
def zkB (own : String) (idx : Nat) (y : MethodName) (bytes : ByteArray) (maxL : Nat) (ret : Option FieldType) (n : Nat) : Prop := Cond.methodLink own idx y ∈ zALL ∧ Cond.code y bytes maxL ret ∈ zALL ∧ Cond.initialized y.cls ∈ zALL ∧ (y.cls ≠ "java/lang/invoke/MethodHandle" ∧ y.cls ≠ "java/lang/invoke/VarHandle" ∧ (parseMethodDescriptor y.desc).map (fun d => d.parameters.length) = some n)
def zkV (own : String) (idx : Nat) (C : String) (y : MethodName) (bytes : ByteArray) (maxL : Nat) (ret : Option FieldType) (n : Nat) : Prop := zkB own idx y bytes maxL ret n ∧ Cond.instanceMethod y ∈ zALL ∧ Cond.selects C y y ∈ zALL
def zkS (own : String) (idx : Nat) (y : MethodName) (bytes : ByteArray) (maxL : Nat) (ret : Option FieldType) (n : Nat) : Prop := zkB own idx y bytes maxL ret n ∧ Cond.static y ∈ zALL
def zkI (own : String) (idx : Nat) (y : MethodName) (bytes : ByteArray) (maxL : Nat) (n : Nat) : Prop := zkB own idx y bytes maxL none n ∧ y.name = "<init>" ∧ Cond.instanceMethod y ∈ zALL
def zkN (own : String) (idx : Nat) (y : MethodName) (host : String) (bytes : ByteArray) (maxL : Nat) (ret : Option FieldType) (n : Nat) : Prop := Cond.methodLinkNest own idx y host ∈ lw_tbl ∧ Cond.code y bytes maxL ret ∈ zALL ∧ Cond.initialized y.cls ∈ zALL ∧ (y.cls ≠ "java/lang/invoke/MethodHandle" ∧ y.cls ≠ "java/lang/invoke/VarHandle" ∧ (parseMethodDescriptor y.desc).map (fun d => d.parameters.length) = some n) ∧ Cond.static y ∈ zALL
def zrm (rm R0 : Room) (mc ms maxL cells slots : Nat) : Prop := rm.cells = mc ∧ rm.slots = ms ∧ (rm.frames + 1 ≤ R0.frames ∧ 8 + (maxL + 11) + rm.locals ≤ R0.locals) ∧ (cells + mc ≤ R0.cells ∧ slots + ms ≤ R0.slots)
theorem zCallB {R : Room} {s : State} {args : Array Value} {idx : Nat} {y : MethodName} {bytes : ByteArray} {maxL : Nat} {ret : Option FieldType} {n mc ms : Nat} {rm : Room} (hts : ∀ w ∈ zALL, w.before args s = true) (h : zkB own idx y bytes maxL ret n) (hr : zrm rm R mc ms maxL cells slots) : CallB R s args own idx y bytes maxL ret (Cond.code y bytes maxL ret :: zALL) rm mc ms n :=
  callB_of n hts (zgood h.2.1) rfl hr.1 hr.2.1 (hts _ h.2.2.1) (hts _ h.1) h.2.2.2 hr.2.2.1

def zMi (y : MethodName) (ws : List Cond) (rm : Room) (mc ms : Nat) (pvs : List zPV) (hp : zH) (z : Int) (hp' : zH) : Prop := ∀ (l : Launch), l.stackTraces = false → ∀ (D : va_G) (cA : Nat → ClassId) (ad : Nat → Nat) (sz : Nat), (∀ c ∈ hp, zOkC hp.length c) → (∀ v ∈ pvs, zOk hp.length v) →
  Met l y ws rm (zPc D cA ad sz pvs hp) (va_Qi (fun (r : Int32) (_ : Nat → Nat) => r = Int32.ofInt z ∧ inR z) (zPost D cA ad hp hp' (va_A (zW ad cA hp) sz)) (va_A (zW ad cA hp) sz)) mc ms (va_A (zW ad cA hp) sz)
def zXi (y : MethodName) (ws : List Cond) (rm : Room) (mc ms : Nat) (pvs : List zPV) (hp : zH) (res : Int ⊕ Nat) (hp' : zH) : Prop := ∀ (l : Launch), l.stackTraces = false → ∀ (D : va_G) (cA : Nat → ClassId) (ad : Nat → Nat) (sz : Nat), (∀ c ∈ hp, zOkC hp.length c) → (∀ v ∈ pvs, zOk hp.length v) →
  vx_Met l y ws rm (zPc D cA ad sz pvs hp) (va_Qi (fun (r : Int32) (_ : Nat → Nat) => ∃ z, res = .inl z ∧ r = Int32.ofInt z ∧ inR z) (zPost D cA ad hp hp' (va_A (zW ad cA hp) sz)) (va_A (zW ad cA hp) sz)) (vx_X (fun (_ : Nat → Nat) => True) (fun E ad' t => (∃ k, res = .inr k ∧ E = zexn k) ∧ zPost D cA ad hp hp' (va_A (zW ad cA hp) sz) ad' t) (va_A (zW ad cA hp) sz)) mc ms (va_A (zW ad cA hp) sz)
def zMl (y : MethodName) (ws : List Cond) (rm : Room) (mc ms : Nat) (pvs : List zPV) (hp : zH) (z : Int64) (hp' : zH) : Prop := ∀ (l : Launch), l.stackTraces = false → ∀ (D : va_G) (cA : Nat → ClassId) (ad : Nat → Nat) (sz : Nat), (∀ c ∈ hp, zOkC hp.length c) → (∀ v ∈ pvs, zOk hp.length v) →
  Met l y ws rm (zPc D cA ad sz pvs hp) (va_Ql (fun (r : Int64) (_ : Nat → Nat) => r = z) (zPost D cA ad hp hp' (va_A (zW ad cA hp) sz)) (va_A (zW ad cA hp) sz)) mc ms (va_A (zW ad cA hp) sz)
def zMf (y : MethodName) (ws : List Cond) (rm : Room) (mc ms : Nat) (pvs : List zPV) (hp : zH) (z : UInt32) (hp' : zH) : Prop := ∀ (l : Launch), l.stackTraces = false → ∀ (D : va_G) (cA : Nat → ClassId) (ad : Nat → Nat) (sz : Nat), (∀ c ∈ hp, zOkC hp.length c) → (∀ v ∈ pvs, zOk hp.length v) →
  Met l y ws rm (zPc D cA ad sz pvs hp) (va_Qf (fun (r : UInt32) (_ : Nat → Nat) => r = z) (zPost D cA ad hp hp' (va_A (zW ad cA hp) sz)) (va_A (zW ad cA hp) sz)) mc ms (va_A (zW ad cA hp) sz)
def zXf (y : MethodName) (ws : List Cond) (rm : Room) (mc ms : Nat) (pvs : List zPV) (hp : zH) (res : UInt32 ⊕ Nat) (hp' : zH) : Prop := ∀ (l : Launch), l.stackTraces = false → ∀ (D : va_G) (cA : Nat → ClassId) (ad : Nat → Nat) (sz : Nat), (∀ c ∈ hp, zOkC hp.length c) → (∀ v ∈ pvs, zOk hp.length v) →
  vx_Met l y ws rm (zPc D cA ad sz pvs hp) (va_Qf (fun (r : UInt32) (_ : Nat → Nat) => res = .inl r) (zPost D cA ad hp hp' (va_A (zW ad cA hp) sz)) (va_A (zW ad cA hp) sz)) (vx_X (fun (_ : Nat → Nat) => True) (fun E ad' t => (∃ k, res = .inr k ∧ E = zexn k) ∧ zPost D cA ad hp hp' (va_A (zW ad cA hp) sz) ad' t) (va_A (zW ad cA hp) sz)) mc ms (va_A (zW ad cA hp) sz)
def zMd (y : MethodName) (ws : List Cond) (rm : Room) (mc ms : Nat) (pvs : List zPV) (hp : zH) (z : UInt64) (hp' : zH) : Prop := ∀ (l : Launch), l.stackTraces = false → ∀ (D : va_G) (cA : Nat → ClassId) (ad : Nat → Nat) (sz : Nat), (∀ c ∈ hp, zOkC hp.length c) → (∀ v ∈ pvs, zOk hp.length v) →
  Met l y ws rm (zPc D cA ad sz pvs hp) (va_Qd (fun (r : UInt64) (_ : Nat → Nat) => r = z) (zPost D cA ad hp hp' (va_A (zW ad cA hp) sz)) (va_A (zW ad cA hp) sz)) mc ms (va_A (zW ad cA hp) sz)
def zXd (y : MethodName) (ws : List Cond) (rm : Room) (mc ms : Nat) (pvs : List zPV) (hp : zH) (res : UInt64 ⊕ Nat) (hp' : zH) : Prop := ∀ (l : Launch), l.stackTraces = false → ∀ (D : va_G) (cA : Nat → ClassId) (ad : Nat → Nat) (sz : Nat), (∀ c ∈ hp, zOkC hp.length c) → (∀ v ∈ pvs, zOk hp.length v) →
  vx_Met l y ws rm (zPc D cA ad sz pvs hp) (va_Qd (fun (r : UInt64) (_ : Nat → Nat) => res = .inl r) (zPost D cA ad hp hp' (va_A (zW ad cA hp) sz)) (va_A (zW ad cA hp) sz)) (vx_X (fun (_ : Nat → Nat) => True) (fun E ad' t => (∃ k, res = .inr k ∧ E = zexn k) ∧ zPost D cA ad hp hp' (va_A (zW ad cA hp) sz) ad' t) (va_A (zW ad cA hp) sz)) mc ms (va_A (zW ad cA hp) sz)
def zMq (y : MethodName) (ws : List Cond) (rm : Room) (mc ms : Nat) (pvs : List zPV) (hp : zH) (z : Option Nat) (hp' : zH) : Prop := ∀ (l : Launch), l.stackTraces = false → ∀ (D : va_G) (cA : Nat → ClassId) (ad : Nat → Nat) (sz : Nat), (∀ c ∈ hp, zOkC hp.length c) → (∀ v ∈ pvs, zOk hp.length v) →
  Met l y ws rm (zPc D cA ad sz pvs hp) (va_Qq (fun (r : Option Nat) (ad' : Nat → Nat) => r = z.map ad' ∧ ∀ i, z = some i → i < hp'.length) (zPost D cA ad hp hp' (va_A (zW ad cA hp) sz)) (va_A (zW ad cA hp) sz)) mc ms (va_A (zW ad cA hp) sz)
def zXq (y : MethodName) (ws : List Cond) (rm : Room) (mc ms : Nat) (pvs : List zPV) (hp : zH) (res : Option Nat ⊕ Nat) (hp' : zH) : Prop := ∀ (l : Launch), l.stackTraces = false → ∀ (D : va_G) (cA : Nat → ClassId) (ad : Nat → Nat) (sz : Nat), (∀ c ∈ hp, zOkC hp.length c) → (∀ v ∈ pvs, zOk hp.length v) →
  vx_Met l y ws rm (zPc D cA ad sz pvs hp) (va_Qq (fun (r : Option Nat) (ad' : Nat → Nat) => ∃ z, res = .inl z ∧ r = z.map ad' ∧ ∀ i, z = some i → i < hp'.length) (zPost D cA ad hp hp' (va_A (zW ad cA hp) sz)) (va_A (zW ad cA hp) sz)) (vx_X (fun (_ : Nat → Nat) => True) (fun E ad' t => (∃ k, res = .inr k ∧ E = zexn k) ∧ zPost D cA ad hp hp' (va_A (zW ad cA hp) sz) ad' t) (va_A (zW ad cA hp) sz)) mc ms (va_A (zW ad cA hp) sz)
def zMv (y : MethodName) (ws : List Cond) (rm : Room) (mc ms : Nat) (pvs : List zPV) (hp : zH) (hp' : zH) : Prop := ∀ (l : Launch), l.stackTraces = false → ∀ (D : va_G) (cA : Nat → ClassId) (ad : Nat → Nat) (sz : Nat), (∀ c ∈ hp, zOkC hp.length c) → (∀ v ∈ pvs, zOk hp.length v) →
  Met l y ws rm (zPc D cA ad sz pvs hp) (va_Qv (fun (_ : Nat → Nat) => True) (zPost D cA ad hp hp' (va_A (zW ad cA hp) sz)) (va_A (zW ad cA hp) sz)) mc ms (va_A (zW ad cA hp) sz)
theorem zMi_of {y : MethodName} {maxL : Nat} {ty : FieldType} {rm : Room} {mc ms : Nat} {pvs : List zPV} {ε : Type} {o : Option ε} {res : ε → Int} {hp2 : ε → zH} (hy : plainName y.cls = true) (hown : y.cls = own) (hty : ty = .int ∨ ty = .boolean ∨ ty = .char) (hsl : (pvs.map zcat).sum ≤ maxL)
    (body : ∀ (K : zK) (r0 : ε), zX K cc own zALL rm → K.2.2.2.2.2.2.2.2.2.2.2.2.2.2.1 = maxL → (∀ cells slots pc lv, cells ≤ mc → slots ≤ ms → decode cc pc = .ok (.ireturn, 1) → zfit ty (res r0) → zJ K cells slots pc lv [zI (res r0)] (hp2 r0)) → zS o (fun r => r = r0) (zJ K 0 0 0 (zargs 0 pvs) [] hp)) :
    ∀ r, o = some r → zMi y (Cond.code y cc maxL (some ty) :: zALL) rm mc ms pvs hp (res r) (hp2 r) := by
  intro r hr l hl D cA ad sz hok hpv
  refine Met.ofW (cc := cc) (maxL := maxL) (ret := some ty) hy rfl ?_
  intro p e s m args below meth c s₁ B hml hv
  obtain ⟨rfl, hsz, hP, hK, hD0, hEnv⟩ := hv
  subst hsz
  have hx := B.exec
  have hb := B.bytes
  have hr9 := B.returns
  have hts0 := atoms_spec (ws := Cond.code y cc maxL (some ty) :: zALL) B.pre
  have hts : ∀ w ∈ zALL, w.before (pvs.map (zT ad)).toArray s = true := fun w hw => hts0 w (List.mem_cons_of_mem _ hw)
  have hown9 : s.vm.findClass own = some m.cls := by rw [← hown]; exact findClass_of_methodNamed B.named
  have hlk := B.notSynchronized
  have hD := hD0.self (sz := s.heap.size)
  have hA : ∀ q, s.heap.size ≤ q → va_A (zW ad cA hp) s.heap.size q := fun q h => Or.inr h
  have hl0 := lv_entry (pvs.map (zT ad)) (n := maxL) (by rw [zlen_sl]; exact hsl)
  rw [lg_entry_eq]
  rw [zargs_map] at hl0
  refine body (p, l, e, (headSpec (Cond.code y cc maxL (some ty) :: zALL) rm).room, s, m, (pvs.map (zT ad)).toArray, below, meth, c, D, cA, va_A (zW ad cA hp) s.heap.size, _, maxL, ad, hp.length) r ⟨hx, hb, hml, hown9, hts, hK, hA, rfl, hlk, hl, hEnv⟩ rfl ?_ r hr rfl ad s.heap [] _ (fun _ _ => rfl) (Nat.le_refl _) hok (zargs_ok hpv 0) (fun _ h => by cases h) hP hD va_S.rf hl0
  intro cells slots pc lv hc hs hdg hfit ad' H locs ls e1 e2 e3 e4 e5 e6 e7 e8 e9
  refine W.widen hc hs ?_
  exact W.zret (ty := ty) hx hb hr9 (zfit_nar hty hfit) (fun t ht hW => ⟨⟨_, ad', rfl, ⟨rfl, zOk_hd e5⟩, e1, e2, e3, by rw [ht]; exact e6, va_K.moved hW.alike hK, e7⟩, e8.F ht⟩) e8.2.2 hdg hlk
theorem zMl_of {y : MethodName} {maxL : Nat} {rm : Room} {mc ms : Nat} {pvs : List zPV} {ε : Type} {o : Option ε} {res : ε → Int64} {hp2 : ε → zH} (hy : plainName y.cls = true) (hown : y.cls = own) (hsl : (pvs.map zcat).sum ≤ maxL)
    (body : ∀ (K : zK) (r0 : ε), zX K cc own zALL rm → K.2.2.2.2.2.2.2.2.2.2.2.2.2.2.1 = maxL → (∀ cells slots pc lv, cells ≤ mc → slots ≤ ms → decode cc pc = .ok (.lreturn, 1) → zJ K cells slots pc lv [zL (res r0)] (hp2 r0)) → zS o (fun r => r = r0) (zJ K 0 0 0 (zargs 0 pvs) [] hp)) :
    ∀ r, o = some r → zMl y (Cond.code y cc maxL (some .long) :: zALL) rm mc ms pvs hp (res r) (hp2 r) := by
  intro r hr l hl D cA ad sz hok hpv
  refine Met.ofW (cc := cc) (maxL := maxL) (ret := some .long) hy rfl ?_
  intro p e s m args below meth c s₁ B hml hv
  obtain ⟨rfl, hsz, hP, hK, hD0, hEnv⟩ := hv
  subst hsz
  have hx := B.exec
  have hb := B.bytes
  have hr9 := B.returns
  have hts0 := atoms_spec (ws := Cond.code y cc maxL (some .long) :: zALL) B.pre
  have hts : ∀ w ∈ zALL, w.before (pvs.map (zT ad)).toArray s = true := fun w hw => hts0 w (List.mem_cons_of_mem _ hw)
  have hown9 : s.vm.findClass own = some m.cls := by rw [← hown]; exact findClass_of_methodNamed B.named
  have hlk := B.notSynchronized
  have hD := hD0.self (sz := s.heap.size)
  have hA : ∀ q, s.heap.size ≤ q → va_A (zW ad cA hp) s.heap.size q := fun q h => Or.inr h
  have hl0 := lv_entry (pvs.map (zT ad)) (n := maxL) (by rw [zlen_sl]; exact hsl)
  rw [lg_entry_eq]
  rw [zargs_map] at hl0
  refine body (p, l, e, (headSpec (Cond.code y cc maxL (some .long) :: zALL) rm).room, s, m, (pvs.map (zT ad)).toArray, below, meth, c, D, cA, va_A (zW ad cA hp) s.heap.size, _, maxL, ad, hp.length) r ⟨hx, hb, hml, hown9, hts, hK, hA, rfl, hlk, hl, hEnv⟩ rfl ?_ r hr rfl ad s.heap [] _ (fun _ _ => rfl) (Nat.le_refl _) hok (zargs_ok hpv 0) (fun _ h => by cases h) hP hD va_S.rf hl0
  intro cells slots pc lv hc hs hdg ad' H locs ls e1 e2 e3 e4 e5 e6 e7 e8 e9
  refine W.widen hc hs ?_
  exact W.lret hx hb hr9 (fun t ht hW => ⟨⟨_, ad', rfl, rfl, e1, e2, e3, by rw [ht]; exact e6, va_K.moved hW.alike hK, e7⟩, e8.F ht⟩) e8.2.2 hdg hlk
theorem zMf_of {y : MethodName} {maxL : Nat} {rm : Room} {mc ms : Nat} {pvs : List zPV} {ε : Type} {o : Option ε} {res : ε → UInt32} {hp2 : ε → zH} (hy : plainName y.cls = true) (hown : y.cls = own) (hsl : (pvs.map zcat).sum ≤ maxL)
    (body : ∀ (K : zK) (r0 : ε), zX K cc own zALL rm → K.2.2.2.2.2.2.2.2.2.2.2.2.2.2.1 = maxL → (∀ cells slots pc lv, cells ≤ mc → slots ≤ ms → decode cc pc = .ok (.freturn, 1) → zJ K cells slots pc lv [zF (res r0)] (hp2 r0)) → zS o (fun r => r = r0) (zJ K 0 0 0 (zargs 0 pvs) [] hp)) :
    ∀ r, o = some r → zMf y (Cond.code y cc maxL (some .float) :: zALL) rm mc ms pvs hp (res r) (hp2 r) := by
  intro r hr l hl D cA ad sz hok hpv
  refine Met.ofW (cc := cc) (maxL := maxL) (ret := some .float) hy rfl ?_
  intro p e s m args below meth c s₁ B hml hv
  obtain ⟨rfl, hsz, hP, hK, hD0, hEnv⟩ := hv
  subst hsz
  have hx := B.exec
  have hb := B.bytes
  have hr9 := B.returns
  have hts0 := atoms_spec (ws := Cond.code y cc maxL (some .float) :: zALL) B.pre
  have hts : ∀ w ∈ zALL, w.before (pvs.map (zT ad)).toArray s = true := fun w hw => hts0 w (List.mem_cons_of_mem _ hw)
  have hown9 : s.vm.findClass own = some m.cls := by rw [← hown]; exact findClass_of_methodNamed B.named
  have hlk := B.notSynchronized
  have hD := hD0.self (sz := s.heap.size)
  have hA : ∀ q, s.heap.size ≤ q → va_A (zW ad cA hp) s.heap.size q := fun q h => Or.inr h
  have hl0 := lv_entry (pvs.map (zT ad)) (n := maxL) (by rw [zlen_sl]; exact hsl)
  rw [lg_entry_eq]
  rw [zargs_map] at hl0
  refine body (p, l, e, (headSpec (Cond.code y cc maxL (some .float) :: zALL) rm).room, s, m, (pvs.map (zT ad)).toArray, below, meth, c, D, cA, va_A (zW ad cA hp) s.heap.size, _, maxL, ad, hp.length) r ⟨hx, hb, hml, hown9, hts, hK, hA, rfl, hlk, hl, hEnv⟩ rfl ?_ r hr rfl ad s.heap [] _ (fun _ _ => rfl) (Nat.le_refl _) hok (zargs_ok hpv 0) (fun _ h => by cases h) hP hD va_S.rf hl0
  intro cells slots pc lv hc hs hdg ad' H locs ls e1 e2 e3 e4 e5 e6 e7 e8 e9
  refine W.widen hc hs ?_
  exact W.fret hx hb hr9 (fun t ht hW => ⟨⟨_, ad', rfl, rfl, e1, e2, e3, by rw [ht]; exact e6, va_K.moved hW.alike hK, e7⟩, e8.F ht⟩) e8.2.2 hdg hlk
theorem zMd_of {y : MethodName} {maxL : Nat} {rm : Room} {mc ms : Nat} {pvs : List zPV} {ε : Type} {o : Option ε} {res : ε → UInt64} {hp2 : ε → zH} (hy : plainName y.cls = true) (hown : y.cls = own) (hsl : (pvs.map zcat).sum ≤ maxL)
    (body : ∀ (K : zK) (r0 : ε), zX K cc own zALL rm → K.2.2.2.2.2.2.2.2.2.2.2.2.2.2.1 = maxL → (∀ cells slots pc lv, cells ≤ mc → slots ≤ ms → decode cc pc = .ok (.dreturn, 1) → zJ K cells slots pc lv [zD (res r0)] (hp2 r0)) → zS o (fun r => r = r0) (zJ K 0 0 0 (zargs 0 pvs) [] hp)) :
    ∀ r, o = some r → zMd y (Cond.code y cc maxL (some .double) :: zALL) rm mc ms pvs hp (res r) (hp2 r) := by
  intro r hr l hl D cA ad sz hok hpv
  refine Met.ofW (cc := cc) (maxL := maxL) (ret := some .double) hy rfl ?_
  intro p e s m args below meth c s₁ B hml hv
  obtain ⟨rfl, hsz, hP, hK, hD0, hEnv⟩ := hv
  subst hsz
  have hx := B.exec
  have hb := B.bytes
  have hr9 := B.returns
  have hts0 := atoms_spec (ws := Cond.code y cc maxL (some .double) :: zALL) B.pre
  have hts : ∀ w ∈ zALL, w.before (pvs.map (zT ad)).toArray s = true := fun w hw => hts0 w (List.mem_cons_of_mem _ hw)
  have hown9 : s.vm.findClass own = some m.cls := by rw [← hown]; exact findClass_of_methodNamed B.named
  have hlk := B.notSynchronized
  have hD := hD0.self (sz := s.heap.size)
  have hA : ∀ q, s.heap.size ≤ q → va_A (zW ad cA hp) s.heap.size q := fun q h => Or.inr h
  have hl0 := lv_entry (pvs.map (zT ad)) (n := maxL) (by rw [zlen_sl]; exact hsl)
  rw [lg_entry_eq]
  rw [zargs_map] at hl0
  refine body (p, l, e, (headSpec (Cond.code y cc maxL (some .double) :: zALL) rm).room, s, m, (pvs.map (zT ad)).toArray, below, meth, c, D, cA, va_A (zW ad cA hp) s.heap.size, _, maxL, ad, hp.length) r ⟨hx, hb, hml, hown9, hts, hK, hA, rfl, hlk, hl, hEnv⟩ rfl ?_ r hr rfl ad s.heap [] _ (fun _ _ => rfl) (Nat.le_refl _) hok (zargs_ok hpv 0) (fun _ h => by cases h) hP hD va_S.rf hl0
  intro cells slots pc lv hc hs hdg ad' H locs ls e1 e2 e3 e4 e5 e6 e7 e8 e9
  refine W.widen hc hs ?_
  exact W.dret hx hb hr9 (fun t ht hW => ⟨⟨_, ad', rfl, rfl, e1, e2, e3, by rw [ht]; exact e6, va_K.moved hW.alike hK, e7⟩, e8.F ht⟩) e8.2.2 hdg hlk
theorem zMq_of {y : MethodName} {maxL : Nat} {ty : FieldType} {rm : Room} {mc ms : Nat} {pvs : List zPV} {ε : Type} {o : Option ε} {res : ε → Option Nat} {hp2 : ε → zH} (hy : plainName y.cls = true) (hown : y.cls = own) (hty : (∃ n, ty = .object n) ∨ ∃ t, ty = .array t) (hsl : (pvs.map zcat).sum ≤ maxL)
    (body : ∀ (K : zK) (r0 : ε), zX K cc own zALL rm → K.2.2.2.2.2.2.2.2.2.2.2.2.2.2.1 = maxL → (∀ cells slots pc lv, cells ≤ mc → slots ≤ ms → decode cc pc = .ok (.areturn, 1) → zJ K cells slots pc lv [zR (res r0)] (hp2 r0)) → zS o (fun r => r = r0) (zJ K 0 0 0 (zargs 0 pvs) [] hp)) :
    ∀ r, o = some r → zMq y (Cond.code y cc maxL (some ty) :: zALL) rm mc ms pvs hp (res r) (hp2 r) := by
  intro r hr l hl D cA ad sz hok hpv
  refine Met.ofW (cc := cc) (maxL := maxL) (ret := some ty) hy rfl ?_
  intro p e s m args below meth c s₁ B hml hv
  obtain ⟨rfl, hsz, hP, hK, hD0, hEnv⟩ := hv
  subst hsz
  have hx := B.exec
  have hb := B.bytes
  have hr9 := B.returns
  have hts0 := atoms_spec (ws := Cond.code y cc maxL (some ty) :: zALL) B.pre
  have hts : ∀ w ∈ zALL, w.before (pvs.map (zT ad)).toArray s = true := fun w hw => hts0 w (List.mem_cons_of_mem _ hw)
  have hown9 : s.vm.findClass own = some m.cls := by rw [← hown]; exact findClass_of_methodNamed B.named
  have hlk := B.notSynchronized
  have hD := hD0.self (sz := s.heap.size)
  have hA : ∀ q, s.heap.size ≤ q → va_A (zW ad cA hp) s.heap.size q := fun q h => Or.inr h
  have hl0 := lv_entry (pvs.map (zT ad)) (n := maxL) (by rw [zlen_sl]; exact hsl)
  rw [lg_entry_eq]
  rw [zargs_map] at hl0
  refine body (p, l, e, (headSpec (Cond.code y cc maxL (some ty) :: zALL) rm).room, s, m, (pvs.map (zT ad)).toArray, below, meth, c, D, cA, va_A (zW ad cA hp) s.heap.size, _, maxL, ad, hp.length) r ⟨hx, hb, hml, hown9, hts, hK, hA, rfl, hlk, hl, hEnv⟩ rfl ?_ r hr rfl ad s.heap [] _ (fun _ _ => rfl) (Nat.le_refl _) hok (zargs_ok hpv 0) (fun _ h => by cases h) hP hD va_S.rf hl0
  intro cells slots pc lv hc hs hdg ad' H locs ls e1 e2 e3 e4 e5 e6 e7 e8 e9
  refine W.widen hc hs ?_
  exact W.aret hx hb hr9 hty (va_rf_or _) (fun t ht hW => ⟨⟨_, ad', rfl, ⟨rfl, zOk_hd e5⟩, e1, e2, e3, by rw [ht]; exact e6, va_K.moved hW.alike hK, e7⟩, e8.F ht⟩) e8.2.2 hdg hlk
theorem zMv_of {y : MethodName} {maxL : Nat} {rm : Room} {mc ms : Nat} {pvs : List zPV} {ε : Type} {o : Option ε} {hp2 : ε → zH} (hy : plainName y.cls = true) (hown : y.cls = own) (hsl : (pvs.map zcat).sum ≤ maxL)
    (body : ∀ (K : zK) (r0 : ε), zX K cc own zALL rm → K.2.2.2.2.2.2.2.2.2.2.2.2.2.2.1 = maxL → K.2.2.2.2.2.2.2.2.1.name = y.name → (∀ cells slots pc lv, cells ≤ mc → slots ≤ ms → decode cc pc = .ok (.return_, 1) → zJ K cells slots pc lv [] (hp2 r0)) → zS o (fun r => r = r0) (zJ K 0 0 0 (zargs 0 pvs) [] hp)) :
    ∀ r, o = some r → zMv y (Cond.code y cc maxL (none) :: zALL) rm mc ms pvs hp (hp2 r) := by
  intro r hr l hl D cA ad sz hok hpv
  refine Met.ofW (cc := cc) (maxL := maxL) (ret := none) hy rfl ?_
  intro p e s m args below meth c s₁ B hml hv
  obtain ⟨rfl, hsz, hP, hK, hD0, hEnv⟩ := hv
  subst hsz
  have hx := B.exec
  have hb := B.bytes
  have hr9 := B.returns
  have hts0 := atoms_spec (ws := Cond.code y cc maxL (none) :: zALL) B.pre
  have hts : ∀ w ∈ zALL, w.before (pvs.map (zT ad)).toArray s = true := fun w hw => hts0 w (List.mem_cons_of_mem _ hw)
  have hown9 : s.vm.findClass own = some m.cls := by rw [← hown]; exact findClass_of_methodNamed B.named
  have hlk := B.notSynchronized
  have hD := hD0.self (sz := s.heap.size)
  have hA : ∀ q, s.heap.size ≤ q → va_A (zW ad cA hp) s.heap.size q := fun q h => Or.inr h
  have hl0 := lv_entry (pvs.map (zT ad)) (n := maxL) (by rw [zlen_sl]; exact hsl)
  rw [lg_entry_eq]
  rw [zargs_map] at hl0
  refine body (p, l, e, (headSpec (Cond.code y cc maxL (none) :: zALL) rm).room, s, m, (pvs.map (zT ad)).toArray, below, meth, c, D, cA, va_A (zW ad cA hp) s.heap.size, _, maxL, ad, hp.length) r ⟨hx, hb, hml, hown9, hts, hK, hA, rfl, hlk, hl, hEnv⟩ rfl (name_of_methodNamed B.named B.method).1 ?_ r hr rfl ad s.heap [] _ (fun _ _ => rfl) (Nat.le_refl _) hok (zargs_ok hpv 0) (fun _ h => by cases h) hP hD va_S.rf hl0
  intro cells slots pc lv hc hs hdg ad' H locs ls e1 e2 e3 e4 e5 e6 e7 e8 e9
  refine W.widen hc hs ?_
  exact W.vret hx hb hr9 (fun t ht hW => ⟨⟨ad', rfl, trivial, e1, e2, e3, by rw [ht]; exact e6, va_K.moved hW.alike hK, e7⟩, e8.F ht⟩) e8.2.2 hdg hlk
theorem zXi_of {y : MethodName} {maxL : Nat} {ty : FieldType} {rm : Room} {mc ms : Nat} {pvs : List zPV} {ε : Type} {o : Option ε} {res : ε → Int ⊕ Nat} {hp2 : ε → zH} (hy : plainName y.cls = true) (hown : y.cls = own) (hty : ty = .int ∨ ty = .boolean ∨ ty = .char) (hsl : (pvs.map zcat).sum ≤ maxL)
    (body : ∀ (K : zK) (r0 : ε), zX K cc own zALL rm → K.2.2.2.2.2.2.2.2.2.2.2.2.2.2.1 = maxL → (∀ cells slots pc lv z, res r0 = .inl z → cells ≤ mc → slots ≤ ms → decode cc pc = .ok (.ireturn, 1) → zfit ty z → zJ K cells slots pc lv [zI z] (hp2 r0)) →
      (∀ cells slots pc lv k, res r0 = .inr k → cells ≤ mc → slots ≤ ms → zE K cells slots pc lv k (hp2 r0)) →
      (∀ cells slots pc lv k ik is ic text d9 dl, res r0 = .inr k → decode cc pc = .ok (.new ik, 3) → decode cc (pc + 3) = .ok (.dup, 1) → (decode cc (pc + 4) = .ok (.ldc is, 2) ∧ dl = 6 ∨ decode cc (pc + 4) = .ok (.ldc_w is, 3) ∧ dl = 7) → decode cc (pc + dl) = .ok (.invokespecial ic, 3) → d9 = dl + 3 → decode cc (pc + d9) = .ok (.athrow, 1) → Cond.classLink own ik (zexn k) ∈ zALL → Cond.initialized (zexn k) ∈ zALL → own = RX7 → Cond.stringRef RX7 is text ∈ lw_tbl →
        (∀ w ∈ vx_atS own ic (zexn k) ["java/lang/RuntimeException", "java/lang/Exception"], w ∈ lw_tbl ∧ (goodWord w || zng w) = true ∧ vx_ot w = true) → Bundle.fit (zexn k) = true → 5 < rm.frames → 82 ≤ rm.locals → cells + 1 ≤ mc ∧ mc ≤ rm.cells → slots + 6 ≤ ms ∧ ms ≤ rm.slots → zJ K cells slots pc lv [] (hp2 r0)) →
      zS o (fun r => r = r0) (zJ K 0 0 0 (zargs 0 pvs) [] hp)) :
    ∀ r, o = some r → zXi y (Cond.code y cc maxL (some ty) :: zALL) rm mc ms pvs hp (res r) (hp2 r) := by
  intro r hr l hl D cA ad sz hok hpv
  refine vx_ofW (cc := cc) (maxL := maxL) (ret := some ty) hy rfl ?_
  intro p e s m args below meth c s₁ B hml hnoex hv
  obtain ⟨rfl, hsz, hP, hK, hD0, hEnv⟩ := hv
  subst hsz
  have hx := B.exec
  have hb := B.bytes
  have hr9 := B.returns
  have hts0 := atoms_spec (ws := Cond.code y cc maxL (some ty) :: zALL) B.pre
  have hts : ∀ w ∈ zALL, w.before (pvs.map (zT ad)).toArray s = true := fun w hw => hts0 w (List.mem_cons_of_mem _ hw)
  have hown9 : s.vm.findClass own = some m.cls := by rw [← hown]; exact findClass_of_methodNamed B.named
  have hlk := B.notSynchronized
  have hD := hD0.self (sz := s.heap.size)
  have hA : ∀ q, s.heap.size ≤ q → va_A (zW ad cA hp) s.heap.size q := fun q h => Or.inr h
  have hl0 := lv_entry (pvs.map (zT ad)) (n := maxL) (by rw [zlen_sl]; exact hsl)
  rw [lg_entry_eq]
  rw [zargs_map] at hl0
  refine body (p, l, e, (headSpec (Cond.code y cc maxL (some ty) :: zALL) rm).room, s, m, (pvs.map (zT ad)).toArray, below, meth, c, D, cA, va_A (zW ad cA hp) s.heap.size, _, maxL, ad, hp.length) r ⟨hx, hb, hml, hown9, hts, hK, hA, rfl, hlk, hl, hEnv⟩ rfl ?_ ?_ ?_ r hr rfl ad s.heap [] _ (fun _ _ => rfl) (Nat.le_refl _) hok (zargs_ok hpv 0) (fun _ h => by cases h) hP hD va_S.rf hl0
  · intro cells slots pc lv z hz hc hs hdg hfit ad' H locs ls e1 e2 e3 e4 e5 e6 e7 e8 e9
    refine vx_ret (W.widen hc hs ?_)
    exact W.zret (ty := ty) hx hb hr9 (zfit_nar hty hfit) (fun t ht hW => ⟨⟨_, ad', rfl, ⟨_, hz, rfl, zOk_hd e5⟩, e1, e2, e3, by rw [ht]; exact e6, va_K.moved hW.alike hK, e7⟩, e8.F ht⟩) e8.2.2 hdg hlk
  · intro cells slots pc lv k hk hc hs ad' H locs ls rest q ce e1 e2 e3 e4 e6 e7 e8 e9 c1 c2 c3
    refine vx_out (fun x hx9 => (hnoex x hx9).elim) hlk c1 c2 c3 (fun t ht hvm => ⟨ad', trivial, ⟨⟨k, hk, rfl⟩, e1, e2, e3, by rw [ht]; exact e6, va_K.moved hvm hK, e7⟩, e8.F ht⟩) e8.2.2 hc hs
  · intro cells slots pc lv k ik is ic text d9 dl hk q0 q3 q4 q6 hd9 q9 w1 w2 hown7 w3 w4 hfit9 hfr hlo hc hs ad' H locs ls e1 e2 e3 e4 e5 e6 e7 e8 e9
    subst hd9
    obtain ⟨sa, hsa⟩ := hEnv.2.2.2.1 is text w3
    have hat : ∀ w ∈ vx_atS own ic (zexn k) ["java/lang/RuntimeException", "java/lang/Exception"], w.before (pvs.map (zT ad)).toArray s = true := by
      intro w hw
      obtain ⟨a1, a2, a3⟩ := w4 w hw
      rcases Bool.or_eq_true_iff.mp a2 with a2 | a2
      · exact hts w (zin a1 a2)
      · have a4 := hEnv.2.2.1 w a1 a2
        exact vx_ot_at (State.WarmedH.refl s) rfl a3 a4
    have hgd : ∀ w ∈ Cond.classLink own ik (zexn k) :: Cond.initialized (zexn k) :: vx_atS own ic (zexn k) ["java/lang/RuntimeException", "java/lang/Exception"], vx_ot w = true := by
      intro w hw
      rcases List.mem_cons.1 hw with rfl | hw
      · rfl
      · rcases List.mem_cons.1 hw with rfl | hw
        · rfl
        · exact (w4 w hw).2.2
    have hX : ∀ t : State, s.vm.Alike t.vm → H.size ≤ t.heap.size → (∀ q : Nat, q < H.size → t.heap[q]? = H[q]?) → vx_X (fun (_ : Nat → Nat) => True) (fun E ad' t => (∃ k, res r = .inr k ∧ E = zexn k) ∧ zPost D cA ad hp (hp2 r) (va_A (zW ad cA hp) s.heap.size) ad' t) (va_A (zW ad cA hp) s.heap.size) (zexn k) s t := by
      intro t hvm hsz hq
      refine ⟨ad', trivial, ⟨⟨k, hk, rfl⟩, e1, e2, e3, fun i x hx9 => (e6 i x hx9).kept (hq _ (e6 i x hx9).lt), va_K.moved hvm hK, e7⟩, ⟨Nat.le_trans e8.1 hsz, fun q hq1 hq2 => ?_⟩⟩
      rw [hq q (Nat.lt_of_lt_of_le hq1 e8.1)]
      exact e8.2.1 q hq1 hq2
    have hnm : ∀ n ∈ ["java/lang/RuntimeException", "java/lang/Exception"], Bundle.fit n = true := by
      intro n hn
      simp only [List.mem_cons, List.not_mem_nil, or_false] at hn
      rcases hn with rfl | rfl <;> decide
    rw [← hown7] at hsa
    rcases q4 with ⟨q4, rfl⟩ | ⟨q4, rfl⟩
    · exact vx_throwS hx hb hl hown9 hfit9 hnm (hts _ w1) (hts _ w2) hsa hat hgd hEnv.1 hEnv.2.1 e8 (by rw [hml]; exact e9.1) q0 q3 q4 q6 q9 (fun x hx9 => (hnoex x hx9).elim) hfr hlo (Nat.le_trans hc.1 hc.2) (Nat.le_trans hs.1 hs.2) hlk hX e8.2.2 hc.1 hs.1
    · exact vx_throwSW hx hb hl hown9 hfit9 hnm (hts _ w1) (hts _ w2) hsa hat hgd hEnv.1 hEnv.2.1 e8 (by rw [hml]; exact e9.1) q0 q3 q4 q6 q9 (fun x hx9 => (hnoex x hx9).elim) hfr hlo (Nat.le_trans hc.1 hc.2) (Nat.le_trans hs.1 hs.2) hlk hX e8.2.2 hc.1 hs.1
theorem zXq_of {y : MethodName} {maxL : Nat} {ty : FieldType} {rm : Room} {mc ms : Nat} {pvs : List zPV} {ε : Type} {o : Option ε} {res : ε → Option Nat ⊕ Nat} {hp2 : ε → zH} (hy : plainName y.cls = true) (hown : y.cls = own) (hty : (∃ n, ty = .object n) ∨ ∃ t, ty = .array t) (hsl : (pvs.map zcat).sum ≤ maxL)
    (body : ∀ (K : zK) (r0 : ε), zX K cc own zALL rm → K.2.2.2.2.2.2.2.2.2.2.2.2.2.2.1 = maxL → (∀ cells slots pc lv z, res r0 = .inl z → cells ≤ mc → slots ≤ ms → decode cc pc = .ok (.areturn, 1) → zJ K cells slots pc lv [zR z] (hp2 r0)) →
      (∀ cells slots pc lv k, res r0 = .inr k → cells ≤ mc → slots ≤ ms → zE K cells slots pc lv k (hp2 r0)) →
      (∀ cells slots pc lv k ik is ic text d9 dl, res r0 = .inr k → decode cc pc = .ok (.new ik, 3) → decode cc (pc + 3) = .ok (.dup, 1) → (decode cc (pc + 4) = .ok (.ldc is, 2) ∧ dl = 6 ∨ decode cc (pc + 4) = .ok (.ldc_w is, 3) ∧ dl = 7) → decode cc (pc + dl) = .ok (.invokespecial ic, 3) → d9 = dl + 3 → decode cc (pc + d9) = .ok (.athrow, 1) → Cond.classLink own ik (zexn k) ∈ zALL → Cond.initialized (zexn k) ∈ zALL → own = RX7 → Cond.stringRef RX7 is text ∈ lw_tbl →
        (∀ w ∈ vx_atS own ic (zexn k) ["java/lang/RuntimeException", "java/lang/Exception"], w ∈ lw_tbl ∧ (goodWord w || zng w) = true ∧ vx_ot w = true) → Bundle.fit (zexn k) = true → 5 < rm.frames → 82 ≤ rm.locals → cells + 1 ≤ mc ∧ mc ≤ rm.cells → slots + 6 ≤ ms ∧ ms ≤ rm.slots → zJ K cells slots pc lv [] (hp2 r0)) →
      zS o (fun r => r = r0) (zJ K 0 0 0 (zargs 0 pvs) [] hp)) :
    ∀ r, o = some r → zXq y (Cond.code y cc maxL (some ty) :: zALL) rm mc ms pvs hp (res r) (hp2 r) := by
  intro r hr l hl D cA ad sz hok hpv
  refine vx_ofW (cc := cc) (maxL := maxL) (ret := some ty) hy rfl ?_
  intro p e s m args below meth c s₁ B hml hnoex hv
  obtain ⟨rfl, hsz, hP, hK, hD0, hEnv⟩ := hv
  subst hsz
  have hx := B.exec
  have hb := B.bytes
  have hr9 := B.returns
  have hts0 := atoms_spec (ws := Cond.code y cc maxL (some ty) :: zALL) B.pre
  have hts : ∀ w ∈ zALL, w.before (pvs.map (zT ad)).toArray s = true := fun w hw => hts0 w (List.mem_cons_of_mem _ hw)
  have hown9 : s.vm.findClass own = some m.cls := by rw [← hown]; exact findClass_of_methodNamed B.named
  have hlk := B.notSynchronized
  have hD := hD0.self (sz := s.heap.size)
  have hA : ∀ q, s.heap.size ≤ q → va_A (zW ad cA hp) s.heap.size q := fun q h => Or.inr h
  have hl0 := lv_entry (pvs.map (zT ad)) (n := maxL) (by rw [zlen_sl]; exact hsl)
  rw [lg_entry_eq]
  rw [zargs_map] at hl0
  refine body (p, l, e, (headSpec (Cond.code y cc maxL (some ty) :: zALL) rm).room, s, m, (pvs.map (zT ad)).toArray, below, meth, c, D, cA, va_A (zW ad cA hp) s.heap.size, _, maxL, ad, hp.length) r ⟨hx, hb, hml, hown9, hts, hK, hA, rfl, hlk, hl, hEnv⟩ rfl ?_ ?_ ?_ r hr rfl ad s.heap [] _ (fun _ _ => rfl) (Nat.le_refl _) hok (zargs_ok hpv 0) (fun _ h => by cases h) hP hD va_S.rf hl0
  · intro cells slots pc lv z hz hc hs hdg ad' H locs ls e1 e2 e3 e4 e5 e6 e7 e8 e9
    refine vx_ret (W.widen hc hs ?_)
    exact W.aret hx hb hr9 hty (va_rf_or _) (fun t ht hW => ⟨⟨_, ad', rfl, ⟨_, hz, rfl, zOk_hd e5⟩, e1, e2, e3, by rw [ht]; exact e6, va_K.moved hW.alike hK, e7⟩, e8.F ht⟩) e8.2.2 hdg hlk
  · intro cells slots pc lv k hk hc hs ad' H locs ls rest q ce e1 e2 e3 e4 e6 e7 e8 e9 c1 c2 c3
    refine vx_out (fun x hx9 => (hnoex x hx9).elim) hlk c1 c2 c3 (fun t ht hvm => ⟨ad', trivial, ⟨⟨k, hk, rfl⟩, e1, e2, e3, by rw [ht]; exact e6, va_K.moved hvm hK, e7⟩, e8.F ht⟩) e8.2.2 hc hs
  · intro cells slots pc lv k ik is ic text d9 dl hk q0 q3 q4 q6 hd9 q9 w1 w2 hown7 w3 w4 hfit9 hfr hlo hc hs ad' H locs ls e1 e2 e3 e4 e5 e6 e7 e8 e9
    subst hd9
    obtain ⟨sa, hsa⟩ := hEnv.2.2.2.1 is text w3
    have hat : ∀ w ∈ vx_atS own ic (zexn k) ["java/lang/RuntimeException", "java/lang/Exception"], w.before (pvs.map (zT ad)).toArray s = true := by
      intro w hw
      obtain ⟨a1, a2, a3⟩ := w4 w hw
      rcases Bool.or_eq_true_iff.mp a2 with a2 | a2
      · exact hts w (zin a1 a2)
      · have a4 := hEnv.2.2.1 w a1 a2
        exact vx_ot_at (State.WarmedH.refl s) rfl a3 a4
    have hgd : ∀ w ∈ Cond.classLink own ik (zexn k) :: Cond.initialized (zexn k) :: vx_atS own ic (zexn k) ["java/lang/RuntimeException", "java/lang/Exception"], vx_ot w = true := by
      intro w hw
      rcases List.mem_cons.1 hw with rfl | hw
      · rfl
      · rcases List.mem_cons.1 hw with rfl | hw
        · rfl
        · exact (w4 w hw).2.2
    have hX : ∀ t : State, s.vm.Alike t.vm → H.size ≤ t.heap.size → (∀ q : Nat, q < H.size → t.heap[q]? = H[q]?) → vx_X (fun (_ : Nat → Nat) => True) (fun E ad' t => (∃ k, res r = .inr k ∧ E = zexn k) ∧ zPost D cA ad hp (hp2 r) (va_A (zW ad cA hp) s.heap.size) ad' t) (va_A (zW ad cA hp) s.heap.size) (zexn k) s t := by
      intro t hvm hsz hq
      refine ⟨ad', trivial, ⟨⟨k, hk, rfl⟩, e1, e2, e3, fun i x hx9 => (e6 i x hx9).kept (hq _ (e6 i x hx9).lt), va_K.moved hvm hK, e7⟩, ⟨Nat.le_trans e8.1 hsz, fun q hq1 hq2 => ?_⟩⟩
      rw [hq q (Nat.lt_of_lt_of_le hq1 e8.1)]
      exact e8.2.1 q hq1 hq2
    have hnm : ∀ n ∈ ["java/lang/RuntimeException", "java/lang/Exception"], Bundle.fit n = true := by
      intro n hn
      simp only [List.mem_cons, List.not_mem_nil, or_false] at hn
      rcases hn with rfl | rfl <;> decide
    rw [← hown7] at hsa
    rcases q4 with ⟨q4, rfl⟩ | ⟨q4, rfl⟩
    · exact vx_throwS hx hb hl hown9 hfit9 hnm (hts _ w1) (hts _ w2) hsa hat hgd hEnv.1 hEnv.2.1 e8 (by rw [hml]; exact e9.1) q0 q3 q4 q6 q9 (fun x hx9 => (hnoex x hx9).elim) hfr hlo (Nat.le_trans hc.1 hc.2) (Nat.le_trans hs.1 hs.2) hlk hX e8.2.2 hc.1 hs.1
    · exact vx_throwSW hx hb hl hown9 hfit9 hnm (hts _ w1) (hts _ w2) hsa hat hgd hEnv.1 hEnv.2.1 e8 (by rw [hml]; exact e9.1) q0 q3 q4 q6 q9 (fun x hx9 => (hnoex x hx9).elim) hfr hlo (Nat.le_trans hc.1 hc.2) (Nat.le_trans hs.1 hs.2) hlk hX e8.2.2 hc.1 hs.1
theorem zXf_of {y : MethodName} {maxL : Nat} {rm : Room} {mc ms : Nat} {pvs : List zPV} {ε : Type} {o : Option ε} {res : ε → UInt32 ⊕ Nat} {hp2 : ε → zH} (hy : plainName y.cls = true) (hown : y.cls = own) (hsl : (pvs.map zcat).sum ≤ maxL)
    (body : ∀ (K : zK) (r0 : ε), zX K cc own zALL rm → K.2.2.2.2.2.2.2.2.2.2.2.2.2.2.1 = maxL → (∀ cells slots pc lv z, res r0 = .inl z → cells ≤ mc → slots ≤ ms → decode cc pc = .ok (.freturn, 1) → zJ K cells slots pc lv [zF z] (hp2 r0)) →
      (∀ cells slots pc lv k, res r0 = .inr k → cells ≤ mc → slots ≤ ms → zE K cells slots pc lv k (hp2 r0)) →
      (∀ cells slots pc lv k ik is ic text d9 dl, res r0 = .inr k → decode cc pc = .ok (.new ik, 3) → decode cc (pc + 3) = .ok (.dup, 1) → (decode cc (pc + 4) = .ok (.ldc is, 2) ∧ dl = 6 ∨ decode cc (pc + 4) = .ok (.ldc_w is, 3) ∧ dl = 7) → decode cc (pc + dl) = .ok (.invokespecial ic, 3) → d9 = dl + 3 → decode cc (pc + d9) = .ok (.athrow, 1) → Cond.classLink own ik (zexn k) ∈ zALL → Cond.initialized (zexn k) ∈ zALL → own = RX7 → Cond.stringRef RX7 is text ∈ lw_tbl →
        (∀ w ∈ vx_atS own ic (zexn k) ["java/lang/RuntimeException", "java/lang/Exception"], w ∈ lw_tbl ∧ (goodWord w || zng w) = true ∧ vx_ot w = true) → Bundle.fit (zexn k) = true → 5 < rm.frames → 82 ≤ rm.locals → cells + 1 ≤ mc ∧ mc ≤ rm.cells → slots + 6 ≤ ms ∧ ms ≤ rm.slots → zJ K cells slots pc lv [] (hp2 r0)) →
      zS o (fun r => r = r0) (zJ K 0 0 0 (zargs 0 pvs) [] hp)) :
    ∀ r, o = some r → zXf y (Cond.code y cc maxL (some .float) :: zALL) rm mc ms pvs hp (res r) (hp2 r) := by
  intro r hr l hl D cA ad sz hok hpv
  refine vx_ofW (cc := cc) (maxL := maxL) (ret := some .float) hy rfl ?_
  intro p e s m args below meth c s₁ B hml hnoex hv
  obtain ⟨rfl, hsz, hP, hK, hD0, hEnv⟩ := hv
  subst hsz
  have hx := B.exec
  have hb := B.bytes
  have hr9 := B.returns
  have hts0 := atoms_spec (ws := Cond.code y cc maxL (some .float) :: zALL) B.pre
  have hts : ∀ w ∈ zALL, w.before (pvs.map (zT ad)).toArray s = true := fun w hw => hts0 w (List.mem_cons_of_mem _ hw)
  have hown9 : s.vm.findClass own = some m.cls := by rw [← hown]; exact findClass_of_methodNamed B.named
  have hlk := B.notSynchronized
  have hD := hD0.self (sz := s.heap.size)
  have hA : ∀ q, s.heap.size ≤ q → va_A (zW ad cA hp) s.heap.size q := fun q h => Or.inr h
  have hl0 := lv_entry (pvs.map (zT ad)) (n := maxL) (by rw [zlen_sl]; exact hsl)
  rw [lg_entry_eq]
  rw [zargs_map] at hl0
  refine body (p, l, e, (headSpec (Cond.code y cc maxL (some .float) :: zALL) rm).room, s, m, (pvs.map (zT ad)).toArray, below, meth, c, D, cA, va_A (zW ad cA hp) s.heap.size, _, maxL, ad, hp.length) r ⟨hx, hb, hml, hown9, hts, hK, hA, rfl, hlk, hl, hEnv⟩ rfl ?_ ?_ ?_ r hr rfl ad s.heap [] _ (fun _ _ => rfl) (Nat.le_refl _) hok (zargs_ok hpv 0) (fun _ h => by cases h) hP hD va_S.rf hl0
  · intro cells slots pc lv z hz hc hs hdg ad' H locs ls e1 e2 e3 e4 e5 e6 e7 e8 e9
    refine vx_ret (W.widen hc hs ?_)
    exact W.fret hx hb hr9 (fun t ht hW => ⟨⟨_, ad', rfl, hz, e1, e2, e3, by rw [ht]; exact e6, va_K.moved hW.alike hK, e7⟩, e8.F ht⟩) e8.2.2 hdg hlk
  · intro cells slots pc lv k hk hc hs ad' H locs ls rest q ce e1 e2 e3 e4 e6 e7 e8 e9 c1 c2 c3
    refine vx_out (fun x hx9 => (hnoex x hx9).elim) hlk c1 c2 c3 (fun t ht hvm => ⟨ad', trivial, ⟨⟨k, hk, rfl⟩, e1, e2, e3, by rw [ht]; exact e6, va_K.moved hvm hK, e7⟩, e8.F ht⟩) e8.2.2 hc hs
  · intro cells slots pc lv k ik is ic text d9 dl hk q0 q3 q4 q6 hd9 q9 w1 w2 hown7 w3 w4 hfit9 hfr hlo hc hs ad' H locs ls e1 e2 e3 e4 e5 e6 e7 e8 e9
    subst hd9
    obtain ⟨sa, hsa⟩ := hEnv.2.2.2.1 is text w3
    have hat : ∀ w ∈ vx_atS own ic (zexn k) ["java/lang/RuntimeException", "java/lang/Exception"], w.before (pvs.map (zT ad)).toArray s = true := by
      intro w hw
      obtain ⟨a1, a2, a3⟩ := w4 w hw
      rcases Bool.or_eq_true_iff.mp a2 with a2 | a2
      · exact hts w (zin a1 a2)
      · have a4 := hEnv.2.2.1 w a1 a2
        exact vx_ot_at (State.WarmedH.refl s) rfl a3 a4
    have hgd : ∀ w ∈ Cond.classLink own ik (zexn k) :: Cond.initialized (zexn k) :: vx_atS own ic (zexn k) ["java/lang/RuntimeException", "java/lang/Exception"], vx_ot w = true := by
      intro w hw
      rcases List.mem_cons.1 hw with rfl | hw
      · rfl
      · rcases List.mem_cons.1 hw with rfl | hw
        · rfl
        · exact (w4 w hw).2.2
    have hX : ∀ t : State, s.vm.Alike t.vm → H.size ≤ t.heap.size → (∀ q : Nat, q < H.size → t.heap[q]? = H[q]?) → vx_X (fun (_ : Nat → Nat) => True) (fun E ad' t => (∃ k, res r = .inr k ∧ E = zexn k) ∧ zPost D cA ad hp (hp2 r) (va_A (zW ad cA hp) s.heap.size) ad' t) (va_A (zW ad cA hp) s.heap.size) (zexn k) s t := by
      intro t hvm hsz hq
      refine ⟨ad', trivial, ⟨⟨k, hk, rfl⟩, e1, e2, e3, fun i x hx9 => (e6 i x hx9).kept (hq _ (e6 i x hx9).lt), va_K.moved hvm hK, e7⟩, ⟨Nat.le_trans e8.1 hsz, fun q hq1 hq2 => ?_⟩⟩
      rw [hq q (Nat.lt_of_lt_of_le hq1 e8.1)]
      exact e8.2.1 q hq1 hq2
    have hnm : ∀ n ∈ ["java/lang/RuntimeException", "java/lang/Exception"], Bundle.fit n = true := by
      intro n hn
      simp only [List.mem_cons, List.not_mem_nil, or_false] at hn
      rcases hn with rfl | rfl <;> decide
    rw [← hown7] at hsa
    rcases q4 with ⟨q4, rfl⟩ | ⟨q4, rfl⟩
    · exact vx_throwS hx hb hl hown9 hfit9 hnm (hts _ w1) (hts _ w2) hsa hat hgd hEnv.1 hEnv.2.1 e8 (by rw [hml]; exact e9.1) q0 q3 q4 q6 q9 (fun x hx9 => (hnoex x hx9).elim) hfr hlo (Nat.le_trans hc.1 hc.2) (Nat.le_trans hs.1 hs.2) hlk hX e8.2.2 hc.1 hs.1
    · exact vx_throwSW hx hb hl hown9 hfit9 hnm (hts _ w1) (hts _ w2) hsa hat hgd hEnv.1 hEnv.2.1 e8 (by rw [hml]; exact e9.1) q0 q3 q4 q6 q9 (fun x hx9 => (hnoex x hx9).elim) hfr hlo (Nat.le_trans hc.1 hc.2) (Nat.le_trans hs.1 hs.2) hlk hX e8.2.2 hc.1 hs.1
theorem zXd_of {y : MethodName} {maxL : Nat} {rm : Room} {mc ms : Nat} {pvs : List zPV} {ε : Type} {o : Option ε} {res : ε → UInt64 ⊕ Nat} {hp2 : ε → zH} (hy : plainName y.cls = true) (hown : y.cls = own) (hsl : (pvs.map zcat).sum ≤ maxL)
    (body : ∀ (K : zK) (r0 : ε), zX K cc own zALL rm → K.2.2.2.2.2.2.2.2.2.2.2.2.2.2.1 = maxL → (∀ cells slots pc lv z, res r0 = .inl z → cells ≤ mc → slots ≤ ms → decode cc pc = .ok (.dreturn, 1) → zJ K cells slots pc lv [zD z] (hp2 r0)) →
      (∀ cells slots pc lv k, res r0 = .inr k → cells ≤ mc → slots ≤ ms → zE K cells slots pc lv k (hp2 r0)) →
      (∀ cells slots pc lv k ik is ic text d9 dl, res r0 = .inr k → decode cc pc = .ok (.new ik, 3) → decode cc (pc + 3) = .ok (.dup, 1) → (decode cc (pc + 4) = .ok (.ldc is, 2) ∧ dl = 6 ∨ decode cc (pc + 4) = .ok (.ldc_w is, 3) ∧ dl = 7) → decode cc (pc + dl) = .ok (.invokespecial ic, 3) → d9 = dl + 3 → decode cc (pc + d9) = .ok (.athrow, 1) → Cond.classLink own ik (zexn k) ∈ zALL → Cond.initialized (zexn k) ∈ zALL → own = RX7 → Cond.stringRef RX7 is text ∈ lw_tbl →
        (∀ w ∈ vx_atS own ic (zexn k) ["java/lang/RuntimeException", "java/lang/Exception"], w ∈ lw_tbl ∧ (goodWord w || zng w) = true ∧ vx_ot w = true) → Bundle.fit (zexn k) = true → 5 < rm.frames → 82 ≤ rm.locals → cells + 1 ≤ mc ∧ mc ≤ rm.cells → slots + 6 ≤ ms ∧ ms ≤ rm.slots → zJ K cells slots pc lv [] (hp2 r0)) →
      zS o (fun r => r = r0) (zJ K 0 0 0 (zargs 0 pvs) [] hp)) :
    ∀ r, o = some r → zXd y (Cond.code y cc maxL (some .double) :: zALL) rm mc ms pvs hp (res r) (hp2 r) := by
  intro r hr l hl D cA ad sz hok hpv
  refine vx_ofW (cc := cc) (maxL := maxL) (ret := some .double) hy rfl ?_
  intro p e s m args below meth c s₁ B hml hnoex hv
  obtain ⟨rfl, hsz, hP, hK, hD0, hEnv⟩ := hv
  subst hsz
  have hx := B.exec
  have hb := B.bytes
  have hr9 := B.returns
  have hts0 := atoms_spec (ws := Cond.code y cc maxL (some .double) :: zALL) B.pre
  have hts : ∀ w ∈ zALL, w.before (pvs.map (zT ad)).toArray s = true := fun w hw => hts0 w (List.mem_cons_of_mem _ hw)
  have hown9 : s.vm.findClass own = some m.cls := by rw [← hown]; exact findClass_of_methodNamed B.named
  have hlk := B.notSynchronized
  have hD := hD0.self (sz := s.heap.size)
  have hA : ∀ q, s.heap.size ≤ q → va_A (zW ad cA hp) s.heap.size q := fun q h => Or.inr h
  have hl0 := lv_entry (pvs.map (zT ad)) (n := maxL) (by rw [zlen_sl]; exact hsl)
  rw [lg_entry_eq]
  rw [zargs_map] at hl0
  refine body (p, l, e, (headSpec (Cond.code y cc maxL (some .double) :: zALL) rm).room, s, m, (pvs.map (zT ad)).toArray, below, meth, c, D, cA, va_A (zW ad cA hp) s.heap.size, _, maxL, ad, hp.length) r ⟨hx, hb, hml, hown9, hts, hK, hA, rfl, hlk, hl, hEnv⟩ rfl ?_ ?_ ?_ r hr rfl ad s.heap [] _ (fun _ _ => rfl) (Nat.le_refl _) hok (zargs_ok hpv 0) (fun _ h => by cases h) hP hD va_S.rf hl0
  · intro cells slots pc lv z hz hc hs hdg ad' H locs ls e1 e2 e3 e4 e5 e6 e7 e8 e9
    refine vx_ret (W.widen hc hs ?_)
    exact W.dret hx hb hr9 (fun t ht hW => ⟨⟨_, ad', rfl, hz, e1, e2, e3, by rw [ht]; exact e6, va_K.moved hW.alike hK, e7⟩, e8.F ht⟩) e8.2.2 hdg hlk
  · intro cells slots pc lv k hk hc hs ad' H locs ls rest q ce e1 e2 e3 e4 e6 e7 e8 e9 c1 c2 c3
    refine vx_out (fun x hx9 => (hnoex x hx9).elim) hlk c1 c2 c3 (fun t ht hvm => ⟨ad', trivial, ⟨⟨k, hk, rfl⟩, e1, e2, e3, by rw [ht]; exact e6, va_K.moved hvm hK, e7⟩, e8.F ht⟩) e8.2.2 hc hs
  · intro cells slots pc lv k ik is ic text d9 dl hk q0 q3 q4 q6 hd9 q9 w1 w2 hown7 w3 w4 hfit9 hfr hlo hc hs ad' H locs ls e1 e2 e3 e4 e5 e6 e7 e8 e9
    subst hd9
    obtain ⟨sa, hsa⟩ := hEnv.2.2.2.1 is text w3
    have hat : ∀ w ∈ vx_atS own ic (zexn k) ["java/lang/RuntimeException", "java/lang/Exception"], w.before (pvs.map (zT ad)).toArray s = true := by
      intro w hw
      obtain ⟨a1, a2, a3⟩ := w4 w hw
      rcases Bool.or_eq_true_iff.mp a2 with a2 | a2
      · exact hts w (zin a1 a2)
      · have a4 := hEnv.2.2.1 w a1 a2
        exact vx_ot_at (State.WarmedH.refl s) rfl a3 a4
    have hgd : ∀ w ∈ Cond.classLink own ik (zexn k) :: Cond.initialized (zexn k) :: vx_atS own ic (zexn k) ["java/lang/RuntimeException", "java/lang/Exception"], vx_ot w = true := by
      intro w hw
      rcases List.mem_cons.1 hw with rfl | hw
      · rfl
      · rcases List.mem_cons.1 hw with rfl | hw
        · rfl
        · exact (w4 w hw).2.2
    have hX : ∀ t : State, s.vm.Alike t.vm → H.size ≤ t.heap.size → (∀ q : Nat, q < H.size → t.heap[q]? = H[q]?) → vx_X (fun (_ : Nat → Nat) => True) (fun E ad' t => (∃ k, res r = .inr k ∧ E = zexn k) ∧ zPost D cA ad hp (hp2 r) (va_A (zW ad cA hp) s.heap.size) ad' t) (va_A (zW ad cA hp) s.heap.size) (zexn k) s t := by
      intro t hvm hsz hq
      refine ⟨ad', trivial, ⟨⟨k, hk, rfl⟩, e1, e2, e3, fun i x hx9 => (e6 i x hx9).kept (hq _ (e6 i x hx9).lt), va_K.moved hvm hK, e7⟩, ⟨Nat.le_trans e8.1 hsz, fun q hq1 hq2 => ?_⟩⟩
      rw [hq q (Nat.lt_of_lt_of_le hq1 e8.1)]
      exact e8.2.1 q hq1 hq2
    have hnm : ∀ n ∈ ["java/lang/RuntimeException", "java/lang/Exception"], Bundle.fit n = true := by
      intro n hn
      simp only [List.mem_cons, List.not_mem_nil, or_false] at hn
      rcases hn with rfl | rfl <;> decide
    rw [← hown7] at hsa
    rcases q4 with ⟨q4, rfl⟩ | ⟨q4, rfl⟩
    · exact vx_throwS hx hb hl hown9 hfit9 hnm (hts _ w1) (hts _ w2) hsa hat hgd hEnv.1 hEnv.2.1 e8 (by rw [hml]; exact e9.1) q0 q3 q4 q6 q9 (fun x hx9 => (hnoex x hx9).elim) hfr hlo (Nat.le_trans hc.1 hc.2) (Nat.le_trans hs.1 hs.2) hlk hX e8.2.2 hc.1 hs.1
    · exact vx_throwSW hx hb hl hown9 hfit9 hnm (hts _ w1) (hts _ w2) hsa hat hgd hEnv.1 hEnv.2.1 e8 (by rw [hml]; exact e9.1) q0 q3 q4 q6 q9 (fun x hx9 => (hnoex x hx9).elim) hfr hlo (Nat.le_trans hc.1 hc.2) (Nat.le_trans hs.1 hs.2) hlk hX e8.2.2 hc.1 hs.1
end zMet
end
section
/-! CALL ROWS -/
section zCallRows
variable {ρ : Type} {o : Option ρ} {G : ρ → Prop} {K : zK} {cc : ByteArray} {own : String} {R0 : Room} {cells slots pc : Nat} {lv : List (Nat × zPV)} {st : List zPV} {hp : zH}
theorem zst_app {n : Nat} {as st : List zPV} (h : ∀ v ∈ as.reverse ++ st, zOk n v) : (∀ v ∈ as, zOk n v) ∧ ∀ v ∈ st, zOk n v := ⟨fun v hv => h v (List.mem_append_left _ (List.mem_reverse.2 hv)), fun v hv => h v (List.mem_append_right _ hv)⟩

theorem z_callV_i {ε : Type} {o1 : Option ε} {f : ε → Option ρ} {res : ε → Int} {hp2 : ε → zH} {y : MethodName} {bytes : ByteArray} {maxL mc ms idx n : Nat} {ret : Option FieldType} {rm : Room} {ci N : Nat} {C : String} {T : u_T} {r0 : Option Nat} {stk : List zPV} (as : List zPV) (X : zX K cc own zALL R0) (hd : decode cc pc = .ok (.invokevirtual idx, 3)) (hM : ∀ x, o1 = some x → zMi y (Cond.code y bytes maxL ret :: zALL) rm mc ms (zR r0 :: as) hp (res x) (hp2 x)) (hw : zkV own idx C y bytes maxL ret n) (hn : as.length = n) (hc : vwCl[ci]? = some (C, T, N)) (hrm : zrm rm R0 mc ms maxL cells slots) (hlo : (st.map zcat).sum ≤ 8) (hstk : stk = as.reverse ++ zR r0 :: st)
    (kk : ∀ x, zS (f x) G (zJ K (cells + mc) (slots + ms) (pc + 3) lv (zI (res x) :: st) (hp2 x))) : zS (((zobj hp r0 ci).bind fun _ => o1).bind f) G (zJ K cells slots pc lv stk hp) := by
  obtain ⟨p, l, e, R, s, m, args, below, meth, c, D, cA, A, Q, nL, ad0, n0⟩ := K
  obtain ⟨hx, hb, hml, hown, hts, hK, hA, hR, hlk, hst9, hEnv⟩ := X
  intro r h1 h2 ad H locs ls e1 e2 e3 e4 e5 e6 e7 e8 e9
  subst hR
  subst hstk
  obtain ⟨x, hx1, h3⟩ := Option.bind_eq_some_iff.mp h1
  clear h1
  obtain ⟨⟨b, fs⟩, ho, hx2⟩ := Option.bind_eq_some_iff.mp hx1
  clear hx1
  obtain ⟨hr0, hb0⟩ := zobj_some ho
  clear ho
  subst hr0
  obtain ⟨q1, q2⟩ := zst_app e5
  have hM9 := hM x hx2 l hst9 D cA ad H.size e3 (zOk_cons (zOk_hd q2) q1)
  have q2 := zOk_tl q2
  have hF := zfree e7 e8 hA
  refine va_calli (va_runV (As := as.map (zT ad)) (rest := st.map (zT ad)) (b := ad b) ⟨hx, hb, hml, hown, hts⟩ hM9 ⟨zCallB hts hw.1 hrm, hts _ hw.2.1, hts _ hw.2.2⟩ ⟨zPc_blind, va_recv hK e6 hc (q0 := b) (fs := fs.map (zT ad)) (zW_at hb0), fun U hU hW => zPc_pre e6 hK e7 hEnv e8 hF hU hW⟩ rfl (by rw [List.length_map]; exact hn) e9.1 (by show ((as.reverse ++ zR (some b) :: st).map (zT ad)) = _; rw [List.map_append, List.map_reverse]; rfl) (lv_room (by rw [zcat_sum]; exact hlo)) hd hrm.2.2.2) e8 (fun q _ h => hF q h) hF (fun r9 u t H1 locs1 ht hvm hw9 hB hz1 hk1 hS1 => ?_)
  obtain ⟨b1, b2, b3, b4, b5, b6⟩ := hB
  rw [ht] at b4
  obtain ⟨hr9, hrR⟩ := hw9
  subst hr9
  have k9 := kk x r h3 h2 u H1 locs1 ls (fun i hi => (b1 i (Nat.lt_of_lt_of_le hi e2)).trans (e1 i hi)) (Nat.le_trans e2 b2) b3 (fun q hq => zOk_up (e4 q hq) b2) (zOk_cons hrR (fun v hv => zOk_up (q2 v hv) b2)) b4 ⟨b6.1, fun k q hq => hF _ (b6.2 k q hq)⟩ hS1 (by rw [zlv_ext e4 b1]; exact e9)
  have hs : (zI (res x) :: st).map (zT u) = zT u (zI (res x)) :: st.map (zT ad) := by rw [List.map_cons, zst_ext q2 b1]
  rw [hs] at k9
  exact k9
theorem z_callV_l {ε : Type} {o1 : Option ε} {f : ε → Option ρ} {res : ε → Int64} {hp2 : ε → zH} {y : MethodName} {bytes : ByteArray} {maxL mc ms idx n : Nat} {ret : Option FieldType} {rm : Room} {ci N : Nat} {C : String} {T : u_T} {r0 : Option Nat} {stk : List zPV} (as : List zPV) (X : zX K cc own zALL R0) (hd : decode cc pc = .ok (.invokevirtual idx, 3)) (hM : ∀ x, o1 = some x → zMl y (Cond.code y bytes maxL ret :: zALL) rm mc ms (zR r0 :: as) hp (res x) (hp2 x)) (hw : zkV own idx C y bytes maxL ret n) (hn : as.length = n) (hc : vwCl[ci]? = some (C, T, N)) (hrm : zrm rm R0 mc ms maxL cells slots) (hlo : (st.map zcat).sum ≤ 8) (hstk : stk = as.reverse ++ zR r0 :: st)
    (kk : ∀ x, zS (f x) G (zJ K (cells + mc) (slots + ms) (pc + 3) lv (zL (res x) :: st) (hp2 x))) : zS (((zobj hp r0 ci).bind fun _ => o1).bind f) G (zJ K cells slots pc lv stk hp) := by
  obtain ⟨p, l, e, R, s, m, args, below, meth, c, D, cA, A, Q, nL, ad0, n0⟩ := K
  obtain ⟨hx, hb, hml, hown, hts, hK, hA, hR, hlk, hst9, hEnv⟩ := X
  intro r h1 h2 ad H locs ls e1 e2 e3 e4 e5 e6 e7 e8 e9
  subst hR
  subst hstk
  obtain ⟨x, hx1, h3⟩ := Option.bind_eq_some_iff.mp h1
  clear h1
  obtain ⟨⟨b, fs⟩, ho, hx2⟩ := Option.bind_eq_some_iff.mp hx1
  clear hx1
  obtain ⟨hr0, hb0⟩ := zobj_some ho
  clear ho
  subst hr0
  obtain ⟨q1, q2⟩ := zst_app e5
  have hM9 := hM x hx2 l hst9 D cA ad H.size e3 (zOk_cons (zOk_hd q2) q1)
  have q2 := zOk_tl q2
  have hF := zfree e7 e8 hA
  refine va_calll (va_runV (As := as.map (zT ad)) (rest := st.map (zT ad)) (b := ad b) ⟨hx, hb, hml, hown, hts⟩ hM9 ⟨zCallB hts hw.1 hrm, hts _ hw.2.1, hts _ hw.2.2⟩ ⟨zPc_blind, va_recv hK e6 hc (q0 := b) (fs := fs.map (zT ad)) (zW_at hb0), fun U hU hW => zPc_pre e6 hK e7 hEnv e8 hF hU hW⟩ rfl (by rw [List.length_map]; exact hn) e9.1 (by show ((as.reverse ++ zR (some b) :: st).map (zT ad)) = _; rw [List.map_append, List.map_reverse]; rfl) (lv_room (by rw [zcat_sum]; exact hlo)) hd hrm.2.2.2) e8 (fun q _ h => hF q h) hF (fun r9 u t H1 locs1 ht hvm hw9 hB hz1 hk1 hS1 => ?_)
  obtain ⟨b1, b2, b3, b4, b5, b6⟩ := hB
  rw [ht] at b4
  have hr9 : r9 = res x := hw9
  subst hr9
  have k9 := kk x r h3 h2 u H1 locs1 ls (fun i hi => (b1 i (Nat.lt_of_lt_of_le hi e2)).trans (e1 i hi)) (Nat.le_trans e2 b2) b3 (fun q hq => zOk_up (e4 q hq) b2) (zOk_cons trivial (fun v hv => zOk_up (q2 v hv) b2)) b4 ⟨b6.1, fun k q hq => hF _ (b6.2 k q hq)⟩ hS1 (by rw [zlv_ext e4 b1]; exact e9)
  have hs : (zL (res x) :: st).map (zT u) = zT u (zL (res x)) :: st.map (zT ad) := by rw [List.map_cons, zst_ext q2 b1]
  rw [hs] at k9
  exact k9
theorem z_callV_f {ε : Type} {o1 : Option ε} {f : ε → Option ρ} {res : ε → UInt32} {hp2 : ε → zH} {y : MethodName} {bytes : ByteArray} {maxL mc ms idx n : Nat} {ret : Option FieldType} {rm : Room} {ci N : Nat} {C : String} {T : u_T} {r0 : Option Nat} {stk : List zPV} (as : List zPV) (X : zX K cc own zALL R0) (hd : decode cc pc = .ok (.invokevirtual idx, 3)) (hM : ∀ x, o1 = some x → zMf y (Cond.code y bytes maxL ret :: zALL) rm mc ms (zR r0 :: as) hp (res x) (hp2 x)) (hw : zkV own idx C y bytes maxL ret n) (hn : as.length = n) (hc : vwCl[ci]? = some (C, T, N)) (hrm : zrm rm R0 mc ms maxL cells slots) (hlo : (st.map zcat).sum ≤ 8) (hstk : stk = as.reverse ++ zR r0 :: st)
    (kk : ∀ x, zS (f x) G (zJ K (cells + mc) (slots + ms) (pc + 3) lv (zF (res x) :: st) (hp2 x))) : zS (((zobj hp r0 ci).bind fun _ => o1).bind f) G (zJ K cells slots pc lv stk hp) := by
  obtain ⟨p, l, e, R, s, m, args, below, meth, c, D, cA, A, Q, nL, ad0, n0⟩ := K
  obtain ⟨hx, hb, hml, hown, hts, hK, hA, hR, hlk, hst9, hEnv⟩ := X
  intro r h1 h2 ad H locs ls e1 e2 e3 e4 e5 e6 e7 e8 e9
  subst hR
  subst hstk
  obtain ⟨x, hx1, h3⟩ := Option.bind_eq_some_iff.mp h1
  clear h1
  obtain ⟨⟨b, fs⟩, ho, hx2⟩ := Option.bind_eq_some_iff.mp hx1
  clear hx1
  obtain ⟨hr0, hb0⟩ := zobj_some ho
  clear ho
  subst hr0
  obtain ⟨q1, q2⟩ := zst_app e5
  have hM9 := hM x hx2 l hst9 D cA ad H.size e3 (zOk_cons (zOk_hd q2) q1)
  have q2 := zOk_tl q2
  have hF := zfree e7 e8 hA
  refine va_callf (va_runV (As := as.map (zT ad)) (rest := st.map (zT ad)) (b := ad b) ⟨hx, hb, hml, hown, hts⟩ hM9 ⟨zCallB hts hw.1 hrm, hts _ hw.2.1, hts _ hw.2.2⟩ ⟨zPc_blind, va_recv hK e6 hc (q0 := b) (fs := fs.map (zT ad)) (zW_at hb0), fun U hU hW => zPc_pre e6 hK e7 hEnv e8 hF hU hW⟩ rfl (by rw [List.length_map]; exact hn) e9.1 (by show ((as.reverse ++ zR (some b) :: st).map (zT ad)) = _; rw [List.map_append, List.map_reverse]; rfl) (lv_room (by rw [zcat_sum]; exact hlo)) hd hrm.2.2.2) e8 (fun q _ h => hF q h) hF (fun r9 u t H1 locs1 ht hvm hw9 hB hz1 hk1 hS1 => ?_)
  obtain ⟨b1, b2, b3, b4, b5, b6⟩ := hB
  rw [ht] at b4
  have hr9 : r9 = res x := hw9
  subst hr9
  have k9 := kk x r h3 h2 u H1 locs1 ls (fun i hi => (b1 i (Nat.lt_of_lt_of_le hi e2)).trans (e1 i hi)) (Nat.le_trans e2 b2) b3 (fun q hq => zOk_up (e4 q hq) b2) (zOk_cons trivial (fun v hv => zOk_up (q2 v hv) b2)) b4 ⟨b6.1, fun k q hq => hF _ (b6.2 k q hq)⟩ hS1 (by rw [zlv_ext e4 b1]; exact e9)
  have hs : (zF (res x) :: st).map (zT u) = zT u (zF (res x)) :: st.map (zT ad) := by rw [List.map_cons, zst_ext q2 b1]
  rw [hs] at k9
  exact k9
theorem z_callV_d {ε : Type} {o1 : Option ε} {f : ε → Option ρ} {res : ε → UInt64} {hp2 : ε → zH} {y : MethodName} {bytes : ByteArray} {maxL mc ms idx n : Nat} {ret : Option FieldType} {rm : Room} {ci N : Nat} {C : String} {T : u_T} {r0 : Option Nat} {stk : List zPV} (as : List zPV) (X : zX K cc own zALL R0) (hd : decode cc pc = .ok (.invokevirtual idx, 3)) (hM : ∀ x, o1 = some x → zMd y (Cond.code y bytes maxL ret :: zALL) rm mc ms (zR r0 :: as) hp (res x) (hp2 x)) (hw : zkV own idx C y bytes maxL ret n) (hn : as.length = n) (hc : vwCl[ci]? = some (C, T, N)) (hrm : zrm rm R0 mc ms maxL cells slots) (hlo : (st.map zcat).sum ≤ 8) (hstk : stk = as.reverse ++ zR r0 :: st)
    (kk : ∀ x, zS (f x) G (zJ K (cells + mc) (slots + ms) (pc + 3) lv (zD (res x) :: st) (hp2 x))) : zS (((zobj hp r0 ci).bind fun _ => o1).bind f) G (zJ K cells slots pc lv stk hp) := by
  obtain ⟨p, l, e, R, s, m, args, below, meth, c, D, cA, A, Q, nL, ad0, n0⟩ := K
  obtain ⟨hx, hb, hml, hown, hts, hK, hA, hR, hlk, hst9, hEnv⟩ := X
  intro r h1 h2 ad H locs ls e1 e2 e3 e4 e5 e6 e7 e8 e9
  subst hR
  subst hstk
  obtain ⟨x, hx1, h3⟩ := Option.bind_eq_some_iff.mp h1
  clear h1
  obtain ⟨⟨b, fs⟩, ho, hx2⟩ := Option.bind_eq_some_iff.mp hx1
  clear hx1
  obtain ⟨hr0, hb0⟩ := zobj_some ho
  clear ho
  subst hr0
  obtain ⟨q1, q2⟩ := zst_app e5
  have hM9 := hM x hx2 l hst9 D cA ad H.size e3 (zOk_cons (zOk_hd q2) q1)
  have q2 := zOk_tl q2
  have hF := zfree e7 e8 hA
  refine va_calld (va_runV (As := as.map (zT ad)) (rest := st.map (zT ad)) (b := ad b) ⟨hx, hb, hml, hown, hts⟩ hM9 ⟨zCallB hts hw.1 hrm, hts _ hw.2.1, hts _ hw.2.2⟩ ⟨zPc_blind, va_recv hK e6 hc (q0 := b) (fs := fs.map (zT ad)) (zW_at hb0), fun U hU hW => zPc_pre e6 hK e7 hEnv e8 hF hU hW⟩ rfl (by rw [List.length_map]; exact hn) e9.1 (by show ((as.reverse ++ zR (some b) :: st).map (zT ad)) = _; rw [List.map_append, List.map_reverse]; rfl) (lv_room (by rw [zcat_sum]; exact hlo)) hd hrm.2.2.2) e8 (fun q _ h => hF q h) hF (fun r9 u t H1 locs1 ht hvm hw9 hB hz1 hk1 hS1 => ?_)
  obtain ⟨b1, b2, b3, b4, b5, b6⟩ := hB
  rw [ht] at b4
  have hr9 : r9 = res x := hw9
  subst hr9
  have k9 := kk x r h3 h2 u H1 locs1 ls (fun i hi => (b1 i (Nat.lt_of_lt_of_le hi e2)).trans (e1 i hi)) (Nat.le_trans e2 b2) b3 (fun q hq => zOk_up (e4 q hq) b2) (zOk_cons trivial (fun v hv => zOk_up (q2 v hv) b2)) b4 ⟨b6.1, fun k q hq => hF _ (b6.2 k q hq)⟩ hS1 (by rw [zlv_ext e4 b1]; exact e9)
  have hs : (zD (res x) :: st).map (zT u) = zT u (zD (res x)) :: st.map (zT ad) := by rw [List.map_cons, zst_ext q2 b1]
  rw [hs] at k9
  exact k9
theorem z_callV_q {ε : Type} {o1 : Option ε} {f : ε → Option ρ} {res : ε → Option Nat} {hp2 : ε → zH} {y : MethodName} {bytes : ByteArray} {maxL mc ms idx n : Nat} {ret : Option FieldType} {rm : Room} {ci N : Nat} {C : String} {T : u_T} {r0 : Option Nat} {stk : List zPV} (as : List zPV) (X : zX K cc own zALL R0) (hd : decode cc pc = .ok (.invokevirtual idx, 3)) (hM : ∀ x, o1 = some x → zMq y (Cond.code y bytes maxL ret :: zALL) rm mc ms (zR r0 :: as) hp (res x) (hp2 x)) (hw : zkV own idx C y bytes maxL ret n) (hn : as.length = n) (hc : vwCl[ci]? = some (C, T, N)) (hrm : zrm rm R0 mc ms maxL cells slots) (hlo : (st.map zcat).sum ≤ 8) (hstk : stk = as.reverse ++ zR r0 :: st)
    (kk : ∀ x, zS (f x) G (zJ K (cells + mc) (slots + ms) (pc + 3) lv (zR (res x) :: st) (hp2 x))) : zS (((zobj hp r0 ci).bind fun _ => o1).bind f) G (zJ K cells slots pc lv stk hp) := by
  obtain ⟨p, l, e, R, s, m, args, below, meth, c, D, cA, A, Q, nL, ad0, n0⟩ := K
  obtain ⟨hx, hb, hml, hown, hts, hK, hA, hR, hlk, hst9, hEnv⟩ := X
  intro r h1 h2 ad H locs ls e1 e2 e3 e4 e5 e6 e7 e8 e9
  subst hR
  subst hstk
  obtain ⟨x, hx1, h3⟩ := Option.bind_eq_some_iff.mp h1
  clear h1
  obtain ⟨⟨b, fs⟩, ho, hx2⟩ := Option.bind_eq_some_iff.mp hx1
  clear hx1
  obtain ⟨hr0, hb0⟩ := zobj_some ho
  clear ho
  subst hr0
  obtain ⟨q1, q2⟩ := zst_app e5
  have hM9 := hM x hx2 l hst9 D cA ad H.size e3 (zOk_cons (zOk_hd q2) q1)
  have q2 := zOk_tl q2
  have hF := zfree e7 e8 hA
  refine va_callq (va_runV (As := as.map (zT ad)) (rest := st.map (zT ad)) (b := ad b) ⟨hx, hb, hml, hown, hts⟩ hM9 ⟨zCallB hts hw.1 hrm, hts _ hw.2.1, hts _ hw.2.2⟩ ⟨zPc_blind, va_recv hK e6 hc (q0 := b) (fs := fs.map (zT ad)) (zW_at hb0), fun U hU hW => zPc_pre e6 hK e7 hEnv e8 hF hU hW⟩ rfl (by rw [List.length_map]; exact hn) e9.1 (by show ((as.reverse ++ zR (some b) :: st).map (zT ad)) = _; rw [List.map_append, List.map_reverse]; rfl) (lv_room (by rw [zcat_sum]; exact hlo)) hd hrm.2.2.2) e8 (fun q _ h => hF q h) hF (fun r9 u t H1 locs1 ht hvm hw9 hB hz1 hk1 hS1 => ?_)
  obtain ⟨b1, b2, b3, b4, b5, b6⟩ := hB
  rw [ht] at b4
  obtain ⟨hr9, hrR⟩ := hw9
  subst hr9
  have k9 := kk x r h3 h2 u H1 locs1 ls (fun i hi => (b1 i (Nat.lt_of_lt_of_le hi e2)).trans (e1 i hi)) (Nat.le_trans e2 b2) b3 (fun q hq => zOk_up (e4 q hq) b2) (zOk_cons hrR (fun v hv => zOk_up (q2 v hv) b2)) b4 ⟨b6.1, fun k q hq => hF _ (b6.2 k q hq)⟩ hS1 (by rw [zlv_ext e4 b1]; exact e9)
  have hs : (zR (res x) :: st).map (zT u) = zT u (zR (res x)) :: st.map (zT ad) := by rw [List.map_cons, zst_ext q2 b1]
  rw [hs] at k9
  exact k9
theorem z_callV_v {ε : Type} {o1 : Option ε} {f : ε → Option ρ} {hp2 : ε → zH} {y : MethodName} {bytes : ByteArray} {maxL mc ms idx n : Nat} {ret : Option FieldType} {rm : Room} {ci N : Nat} {C : String} {T : u_T} {r0 : Option Nat} {stk : List zPV} (as : List zPV) (X : zX K cc own zALL R0) (hd : decode cc pc = .ok (.invokevirtual idx, 3)) (hM : ∀ x, o1 = some x → zMv y (Cond.code y bytes maxL ret :: zALL) rm mc ms (zR r0 :: as) hp (hp2 x)) (hw : zkV own idx C y bytes maxL ret n) (hn : as.length = n) (hc : vwCl[ci]? = some (C, T, N)) (hrm : zrm rm R0 mc ms maxL cells slots) (hlo : (st.map zcat).sum ≤ 8) (hstk : stk = as.reverse ++ zR r0 :: st)
    (kk : ∀ x, zS (f x) G (zJ K (cells + mc) (slots + ms) (pc + 3) lv st (hp2 x))) : zS (((zobj hp r0 ci).bind fun _ => o1).bind f) G (zJ K cells slots pc lv stk hp) := by
  obtain ⟨p, l, e, R, s, m, args, below, meth, c, D, cA, A, Q, nL, ad0, n0⟩ := K
  obtain ⟨hx, hb, hml, hown, hts, hK, hA, hR, hlk, hst9, hEnv⟩ := X
  intro r h1 h2 ad H locs ls e1 e2 e3 e4 e5 e6 e7 e8 e9
  subst hR
  subst hstk
  obtain ⟨x, hx1, h3⟩ := Option.bind_eq_some_iff.mp h1
  clear h1
  obtain ⟨⟨b, fs⟩, ho, hx2⟩ := Option.bind_eq_some_iff.mp hx1
  clear hx1
  obtain ⟨hr0, hb0⟩ := zobj_some ho
  clear ho
  subst hr0
  obtain ⟨q1, q2⟩ := zst_app e5
  have hM9 := hM x hx2 l hst9 D cA ad H.size e3 (zOk_cons (zOk_hd q2) q1)
  have q2 := zOk_tl q2
  have hF := zfree e7 e8 hA
  refine va_callv (va_runV (As := as.map (zT ad)) (rest := st.map (zT ad)) (b := ad b) ⟨hx, hb, hml, hown, hts⟩ hM9 ⟨zCallB hts hw.1 hrm, hts _ hw.2.1, hts _ hw.2.2⟩ ⟨zPc_blind, va_recv hK e6 hc (q0 := b) (fs := fs.map (zT ad)) (zW_at hb0), fun U hU hW => zPc_pre e6 hK e7 hEnv e8 hF hU hW⟩ rfl (by rw [List.length_map]; exact hn) e9.1 (by show ((as.reverse ++ zR (some b) :: st).map (zT ad)) = _; rw [List.map_append, List.map_reverse]; rfl) (lv_room (by rw [zcat_sum]; exact hlo)) hd hrm.2.2.2) e8 (fun q _ h => hF q h) hF (fun u t H1 locs1 ht hvm hw9 hB hz1 hk1 hS1 => ?_)
  obtain ⟨b1, b2, b3, b4, b5, b6⟩ := hB
  rw [ht] at b4
  have k9 := kk x r h3 h2 u H1 locs1 ls (fun i hi => (b1 i (Nat.lt_of_lt_of_le hi e2)).trans (e1 i hi)) (Nat.le_trans e2 b2) b3 (fun q hq => zOk_up (e4 q hq) b2) (fun v hv => zOk_up (q2 v hv) b2) b4 ⟨b6.1, fun k q hq => hF _ (b6.2 k q hq)⟩ hS1 (by rw [zlv_ext e4 b1]; exact e9)
  rw [zst_ext q2 b1] at k9
  exact k9
theorem z_callS_i {ε : Type} {o1 : Option ε} {f : ε → Option ρ} {res : ε → Int} {hp2 : ε → zH} {y : MethodName} {bytes : ByteArray} {maxL mc ms idx n : Nat} {ret : Option FieldType} {rm : Room} {stk : List zPV} (as : List zPV) (X : zX K cc own zALL R0) (hd : decode cc pc = .ok (.invokestatic idx, 3)) (hM : ∀ x, o1 = some x → zMi y (Cond.code y bytes maxL ret :: zALL) rm mc ms as hp (res x) (hp2 x)) (hw : zkS own idx y bytes maxL ret n) (hn : as.length = n) (hrm : zrm rm R0 mc ms maxL cells slots) (hlo : (st.map zcat).sum ≤ 8) (hstk : stk = as.reverse ++ st)
    (kk : ∀ x, zS (f x) G (zJ K (cells + mc) (slots + ms) (pc + 3) lv (zI (res x) :: st) (hp2 x))) : zS (o1.bind f) G (zJ K cells slots pc lv stk hp) := by
  obtain ⟨p, l, e, R, s, m, args, below, meth, c, D, cA, A, Q, nL, ad0, n0⟩ := K
  obtain ⟨hx, hb, hml, hown, hts, hK, hA, hR, hlk, hst9, hEnv⟩ := X
  intro r h1 h2 ad H locs ls e1 e2 e3 e4 e5 e6 e7 e8 e9
  subst hR
  subst hstk
  obtain ⟨x, hx1, h3⟩ := Option.bind_eq_some_iff.mp h1
  clear h1
  obtain ⟨q1, q2⟩ := zst_app e5
  have hM9 := hM x hx1 l hst9 D cA ad H.size e3 q1
  have hF := zfree e7 e8 hA
  refine va_calli (va_runS (As := as.map (zT ad)) (rest := st.map (zT ad)) ⟨hx, hb, hml, hown, hts⟩ hM9 ⟨zCallB hts hw.1 hrm, hts _ hw.2⟩ ⟨zPc_blind, fun U hU hW => zPc_pre e6 hK e7 hEnv e8 hF hU hW⟩ rfl (by rw [List.length_map]; exact hn) e9.1 (by show ((as.reverse ++ st).map (zT ad)) = _; rw [List.map_append, List.map_reverse]) (lv_room (by rw [zcat_sum]; exact hlo)) hd hrm.2.2.2) e8 (fun q _ h => hF q h) hF (fun r9 u t H1 locs1 ht hvm hw9 hB hz1 hk1 hS1 => ?_)
  obtain ⟨b1, b2, b3, b4, b5, b6⟩ := hB
  rw [ht] at b4
  obtain ⟨hr9, hrR⟩ := hw9
  subst hr9
  have k9 := kk x r h3 h2 u H1 locs1 ls (fun i hi => (b1 i (Nat.lt_of_lt_of_le hi e2)).trans (e1 i hi)) (Nat.le_trans e2 b2) b3 (fun q hq => zOk_up (e4 q hq) b2) (zOk_cons hrR (fun v hv => zOk_up (q2 v hv) b2)) b4 ⟨b6.1, fun k q hq => hF _ (b6.2 k q hq)⟩ hS1 (by rw [zlv_ext e4 b1]; exact e9)
  have hs : (zI (res x) :: st).map (zT u) = zT u (zI (res x)) :: st.map (zT ad) := by rw [List.map_cons, zst_ext q2 b1]
  rw [hs] at k9
  exact k9
theorem z_callS_l {ε : Type} {o1 : Option ε} {f : ε → Option ρ} {res : ε → Int64} {hp2 : ε → zH} {y : MethodName} {bytes : ByteArray} {maxL mc ms idx n : Nat} {ret : Option FieldType} {rm : Room} {stk : List zPV} (as : List zPV) (X : zX K cc own zALL R0) (hd : decode cc pc = .ok (.invokestatic idx, 3)) (hM : ∀ x, o1 = some x → zMl y (Cond.code y bytes maxL ret :: zALL) rm mc ms as hp (res x) (hp2 x)) (hw : zkS own idx y bytes maxL ret n) (hn : as.length = n) (hrm : zrm rm R0 mc ms maxL cells slots) (hlo : (st.map zcat).sum ≤ 8) (hstk : stk = as.reverse ++ st)
    (kk : ∀ x, zS (f x) G (zJ K (cells + mc) (slots + ms) (pc + 3) lv (zL (res x) :: st) (hp2 x))) : zS (o1.bind f) G (zJ K cells slots pc lv stk hp) := by
  obtain ⟨p, l, e, R, s, m, args, below, meth, c, D, cA, A, Q, nL, ad0, n0⟩ := K
  obtain ⟨hx, hb, hml, hown, hts, hK, hA, hR, hlk, hst9, hEnv⟩ := X
  intro r h1 h2 ad H locs ls e1 e2 e3 e4 e5 e6 e7 e8 e9
  subst hR
  subst hstk
  obtain ⟨x, hx1, h3⟩ := Option.bind_eq_some_iff.mp h1
  clear h1
  obtain ⟨q1, q2⟩ := zst_app e5
  have hM9 := hM x hx1 l hst9 D cA ad H.size e3 q1
  have hF := zfree e7 e8 hA
  refine va_calll (va_runS (As := as.map (zT ad)) (rest := st.map (zT ad)) ⟨hx, hb, hml, hown, hts⟩ hM9 ⟨zCallB hts hw.1 hrm, hts _ hw.2⟩ ⟨zPc_blind, fun U hU hW => zPc_pre e6 hK e7 hEnv e8 hF hU hW⟩ rfl (by rw [List.length_map]; exact hn) e9.1 (by show ((as.reverse ++ st).map (zT ad)) = _; rw [List.map_append, List.map_reverse]) (lv_room (by rw [zcat_sum]; exact hlo)) hd hrm.2.2.2) e8 (fun q _ h => hF q h) hF (fun r9 u t H1 locs1 ht hvm hw9 hB hz1 hk1 hS1 => ?_)
  obtain ⟨b1, b2, b3, b4, b5, b6⟩ := hB
  rw [ht] at b4
  have hr9 : r9 = res x := hw9
  subst hr9
  have k9 := kk x r h3 h2 u H1 locs1 ls (fun i hi => (b1 i (Nat.lt_of_lt_of_le hi e2)).trans (e1 i hi)) (Nat.le_trans e2 b2) b3 (fun q hq => zOk_up (e4 q hq) b2) (zOk_cons trivial (fun v hv => zOk_up (q2 v hv) b2)) b4 ⟨b6.1, fun k q hq => hF _ (b6.2 k q hq)⟩ hS1 (by rw [zlv_ext e4 b1]; exact e9)
  have hs : (zL (res x) :: st).map (zT u) = zT u (zL (res x)) :: st.map (zT ad) := by rw [List.map_cons, zst_ext q2 b1]
  rw [hs] at k9
  exact k9
theorem z_callS_q {ε : Type} {o1 : Option ε} {f : ε → Option ρ} {res : ε → Option Nat} {hp2 : ε → zH} {y : MethodName} {bytes : ByteArray} {maxL mc ms idx n : Nat} {ret : Option FieldType} {rm : Room} {stk : List zPV} (as : List zPV) (X : zX K cc own zALL R0) (hd : decode cc pc = .ok (.invokestatic idx, 3)) (hM : ∀ x, o1 = some x → zMq y (Cond.code y bytes maxL ret :: zALL) rm mc ms as hp (res x) (hp2 x)) (hw : zkS own idx y bytes maxL ret n) (hn : as.length = n) (hrm : zrm rm R0 mc ms maxL cells slots) (hlo : (st.map zcat).sum ≤ 8) (hstk : stk = as.reverse ++ st)
    (kk : ∀ x, zS (f x) G (zJ K (cells + mc) (slots + ms) (pc + 3) lv (zR (res x) :: st) (hp2 x))) : zS (o1.bind f) G (zJ K cells slots pc lv stk hp) := by
  obtain ⟨p, l, e, R, s, m, args, below, meth, c, D, cA, A, Q, nL, ad0, n0⟩ := K
  obtain ⟨hx, hb, hml, hown, hts, hK, hA, hR, hlk, hst9, hEnv⟩ := X
  intro r h1 h2 ad H locs ls e1 e2 e3 e4 e5 e6 e7 e8 e9
  subst hR
  subst hstk
  obtain ⟨x, hx1, h3⟩ := Option.bind_eq_some_iff.mp h1
  clear h1
  obtain ⟨q1, q2⟩ := zst_app e5
  have hM9 := hM x hx1 l hst9 D cA ad H.size e3 q1
  have hF := zfree e7 e8 hA
  refine va_callq (va_runS (As := as.map (zT ad)) (rest := st.map (zT ad)) ⟨hx, hb, hml, hown, hts⟩ hM9 ⟨zCallB hts hw.1 hrm, hts _ hw.2⟩ ⟨zPc_blind, fun U hU hW => zPc_pre e6 hK e7 hEnv e8 hF hU hW⟩ rfl (by rw [List.length_map]; exact hn) e9.1 (by show ((as.reverse ++ st).map (zT ad)) = _; rw [List.map_append, List.map_reverse]) (lv_room (by rw [zcat_sum]; exact hlo)) hd hrm.2.2.2) e8 (fun q _ h => hF q h) hF (fun r9 u t H1 locs1 ht hvm hw9 hB hz1 hk1 hS1 => ?_)
  obtain ⟨b1, b2, b3, b4, b5, b6⟩ := hB
  rw [ht] at b4
  obtain ⟨hr9, hrR⟩ := hw9
  subst hr9
  have k9 := kk x r h3 h2 u H1 locs1 ls (fun i hi => (b1 i (Nat.lt_of_lt_of_le hi e2)).trans (e1 i hi)) (Nat.le_trans e2 b2) b3 (fun q hq => zOk_up (e4 q hq) b2) (zOk_cons hrR (fun v hv => zOk_up (q2 v hv) b2)) b4 ⟨b6.1, fun k q hq => hF _ (b6.2 k q hq)⟩ hS1 (by rw [zlv_ext e4 b1]; exact e9)
  have hs : (zR (res x) :: st).map (zT u) = zT u (zR (res x)) :: st.map (zT ad) := by rw [List.map_cons, zst_ext q2 b1]
  rw [hs] at k9
  exact k9
theorem z_callS_v {ε : Type} {o1 : Option ε} {f : ε → Option ρ} {hp2 : ε → zH} {y : MethodName} {bytes : ByteArray} {maxL mc ms idx n : Nat} {ret : Option FieldType} {rm : Room} {stk : List zPV} (as : List zPV) (X : zX K cc own zALL R0) (hd : decode cc pc = .ok (.invokestatic idx, 3)) (hM : ∀ x, o1 = some x → zMv y (Cond.code y bytes maxL ret :: zALL) rm mc ms as hp (hp2 x)) (hw : zkS own idx y bytes maxL ret n) (hn : as.length = n) (hrm : zrm rm R0 mc ms maxL cells slots) (hlo : (st.map zcat).sum ≤ 8) (hstk : stk = as.reverse ++ st)
    (kk : ∀ x, zS (f x) G (zJ K (cells + mc) (slots + ms) (pc + 3) lv st (hp2 x))) : zS (o1.bind f) G (zJ K cells slots pc lv stk hp) := by
  obtain ⟨p, l, e, R, s, m, args, below, meth, c, D, cA, A, Q, nL, ad0, n0⟩ := K
  obtain ⟨hx, hb, hml, hown, hts, hK, hA, hR, hlk, hst9, hEnv⟩ := X
  intro r h1 h2 ad H locs ls e1 e2 e3 e4 e5 e6 e7 e8 e9
  subst hR
  subst hstk
  obtain ⟨x, hx1, h3⟩ := Option.bind_eq_some_iff.mp h1
  clear h1
  obtain ⟨q1, q2⟩ := zst_app e5
  have hM9 := hM x hx1 l hst9 D cA ad H.size e3 q1
  have hF := zfree e7 e8 hA
  refine va_callv (va_runS (As := as.map (zT ad)) (rest := st.map (zT ad)) ⟨hx, hb, hml, hown, hts⟩ hM9 ⟨zCallB hts hw.1 hrm, hts _ hw.2⟩ ⟨zPc_blind, fun U hU hW => zPc_pre e6 hK e7 hEnv e8 hF hU hW⟩ rfl (by rw [List.length_map]; exact hn) e9.1 (by show ((as.reverse ++ st).map (zT ad)) = _; rw [List.map_append, List.map_reverse]) (lv_room (by rw [zcat_sum]; exact hlo)) hd hrm.2.2.2) e8 (fun q _ h => hF q h) hF (fun u t H1 locs1 ht hvm hw9 hB hz1 hk1 hS1 => ?_)
  obtain ⟨b1, b2, b3, b4, b5, b6⟩ := hB
  rw [ht] at b4
  have k9 := kk x r h3 h2 u H1 locs1 ls (fun i hi => (b1 i (Nat.lt_of_lt_of_le hi e2)).trans (e1 i hi)) (Nat.le_trans e2 b2) b3 (fun q hq => zOk_up (e4 q hq) b2) (fun v hv => zOk_up (q2 v hv) b2) b4 ⟨b6.1, fun k q hq => hF _ (b6.2 k q hq)⟩ hS1 (by rw [zlv_ext e4 b1]; exact e9)
  rw [zst_ext q2 b1] at k9
  exact k9
theorem z_callN_i {ε : Type} {o1 : Option ε} {f : ε → Option ρ} {res : ε → Int} {hp2 : ε → zH} {y : MethodName} {bytes : ByteArray} {maxL mc ms idx n : Nat} {ret : Option FieldType} {rm : Room} {host : String} {stk : List zPV} (as : List zPV) (X : zX K cc own zALL R0) (hd : decode cc pc = .ok (.invokestatic idx, 3)) (hM : ∀ x, o1 = some x → zMi y (Cond.code y bytes maxL ret :: zALL) rm mc ms as hp (res x) (hp2 x)) (hw : zkN own idx y host bytes maxL ret n) (hn : as.length = n) (hrm : zrm rm R0 mc ms maxL cells slots) (hlo : (st.map zcat).sum ≤ 8) (hstk : stk = as.reverse ++ st)
    (kk : ∀ x, zS (f x) G (zJ K (cells + mc) (slots + ms) (pc + 3) lv (zI (res x) :: st) (hp2 x))) : zS (o1.bind f) G (zJ K cells slots pc lv stk hp) := by
  obtain ⟨p, l, e, R, s, m, args, below, meth, c, D, cA, A, Q, nL, ad0, n0⟩ := K
  obtain ⟨hx, hb, hml, hown, hts, hK, hA, hR, hlk, hst9, hEnv⟩ := X
  intro r h1 h2 ad H locs ls e1 e2 e3 e4 e5 e6 e7 e8 e9
  subst hR
  subst hstk
  obtain ⟨x, hx1, h3⟩ := Option.bind_eq_some_iff.mp h1
  clear h1
  obtain ⟨q1, q2⟩ := zst_app e5
  have hM9 := hM x hx1 l hst9 D cA ad H.size e3 q1
  have hF := zfree e7 e8 hA
  refine va_calli (va_runSN (As := as.map (zT ad)) (rest := st.map (zT ad)) ⟨hx, hb, hml, hown, hts⟩ hM9 ⟨va_cnB n hts (zgood hw.2.1) rfl hrm.1 hrm.2.1 (hEnv.2.2.1 _ hw.1 rfl) (hts _ hw.2.2.1) hw.2.2.2.1 hrm.2.2.1, hts _ hw.2.2.2.2, trivial⟩ ⟨zPc_blind, fun U hU hW => zPc_pre e6 hK e7 hEnv e8 hF hU hW⟩ rfl (by rw [List.length_map]; exact hn) e9.1 (by show ((as.reverse ++ st).map (zT ad)) = _; rw [List.map_append, List.map_reverse]) (lv_room (by rw [zcat_sum]; exact hlo)) hd hrm.2.2.2) e8 (fun q _ h => hF q h) hF (fun r9 u t H1 locs1 ht hvm hw9 hB hz1 hk1 hS1 => ?_)
  obtain ⟨b1, b2, b3, b4, b5, b6⟩ := hB
  rw [ht] at b4
  obtain ⟨hr9, hrR⟩ := hw9
  subst hr9
  have k9 := kk x r h3 h2 u H1 locs1 ls (fun i hi => (b1 i (Nat.lt_of_lt_of_le hi e2)).trans (e1 i hi)) (Nat.le_trans e2 b2) b3 (fun q hq => zOk_up (e4 q hq) b2) (zOk_cons hrR (fun v hv => zOk_up (q2 v hv) b2)) b4 ⟨b6.1, fun k q hq => hF _ (b6.2 k q hq)⟩ hS1 (by rw [zlv_ext e4 b1]; exact e9)
  have hs : (zI (res x) :: st).map (zT u) = zT u (zI (res x)) :: st.map (zT ad) := by rw [List.map_cons, zst_ext q2 b1]
  rw [hs] at k9
  exact k9
theorem z_callI_v {ε : Type} {o1 : Option ε} {f : ε → Option ρ} {hp2 : ε → zH} {y : MethodName} {bytes : ByteArray} {maxL mc ms idx n : Nat} {rm : Room} {ci N : Nat} {C : String} {T : u_T} {r0 : Option Nat} {stk : List zPV} (as : List zPV) (X : zX K cc own zALL R0) (hd : decode cc pc = .ok (.invokespecial idx, 3)) (hM : ∀ x, o1 = some x → zMv y (Cond.code y bytes maxL none :: zALL) rm mc ms (zR r0 :: as) hp (hp2 x)) (hw : zkI own idx y bytes maxL n) (hn : as.length = n) (hc : vwCl[ci]? = some (C, T, N)) (hrm : zrm rm R0 mc ms maxL cells slots) (hlo : (st.map zcat).sum ≤ 8) (hstk : stk = as.reverse ++ zR r0 :: st)
    (kk : ∀ x, zS (f x) G (zJ K (cells + mc) (slots + ms) (pc + 3) lv st (hp2 x))) : zS (((zobj hp r0 ci).bind fun _ => o1).bind f) G (zJ K cells slots pc lv stk hp) := by
  obtain ⟨p, l, e, R, s, m, args, below, meth, c, D, cA, A, Q, nL, ad0, n0⟩ := K
  obtain ⟨hx, hb, hml, hown, hts, hK, hA, hR, hlk, hst9, hEnv⟩ := X
  intro r h1 h2 ad H locs ls e1 e2 e3 e4 e5 e6 e7 e8 e9
  subst hR
  subst hstk
  obtain ⟨x, hx1, h3⟩ := Option.bind_eq_some_iff.mp h1
  clear h1
  obtain ⟨⟨b, fs⟩, ho, hx2⟩ := Option.bind_eq_some_iff.mp hx1
  clear hx1
  obtain ⟨hr0, hb0⟩ := zobj_some ho
  clear ho
  subst hr0
  obtain ⟨q1, q2⟩ := zst_app e5
  have hM9 := hM x hx2 l hst9 D cA ad H.size e3 (zOk_cons (zOk_hd q2) q1)
  have q2 := zOk_tl q2
  have hF := zfree e7 e8 hA
  refine va_callv (va_runI (As := as.map (zT ad)) (rest := st.map (zT ad)) (b := ad b) ⟨hx, hb, hml, hown, hts⟩ hM9 ⟨zCallB hts hw.1 hrm, hw.2.1, hts _ hw.2.2⟩ ⟨zPc_blind, fun U hU hW => zPc_pre e6 hK e7 hEnv e8 hF hU hW⟩ rfl (by rw [List.length_map]; exact hn) e9.1 (by show ((as.reverse ++ zR (some b) :: st).map (zT ad)) = _; rw [List.map_append, List.map_reverse]; rfl) (lv_room (by rw [zcat_sum]; exact hlo)) hd hrm.2.2.2) e8 (fun q _ h => hF q h) hF (fun u t H1 locs1 ht hvm hw9 hB hz1 hk1 hS1 => ?_)
  obtain ⟨b1, b2, b3, b4, b5, b6⟩ := hB
  rw [ht] at b4
  have k9 := kk x r h3 h2 u H1 locs1 ls (fun i hi => (b1 i (Nat.lt_of_lt_of_le hi e2)).trans (e1 i hi)) (Nat.le_trans e2 b2) b3 (fun q hq => zOk_up (e4 q hq) b2) (fun v hv => zOk_up (q2 v hv) b2) b4 ⟨b6.1, fun k q hq => hF _ (b6.2 k q hq)⟩ hS1 (by rw [zlv_ext e4 b1]; exact e9)
  rw [zst_ext q2 b1] at k9
  exact k9
theorem z_callXV_i {ε : Type} {o1 : Option ε} {f : ε → Option ρ} {res : ε → Int ⊕ Nat} {hp2 : ε → zH} {y : MethodName} {bytes : ByteArray} {maxL mc ms idx n : Nat} {ret : Option FieldType} {rm : Room} {ci N : Nat} {C : String} {T : u_T} {r0 : Option Nat} {stk : List zPV} (as : List zPV) (X : zX K cc own zALL R0) (hd : decode cc pc = .ok (.invokevirtual idx, 3)) (hM : ∀ x, o1 = some x → zXi y (Cond.code y bytes maxL ret :: zALL) rm mc ms (zR r0 :: as) hp (res x) (hp2 x)) (hw : zkV own idx C y bytes maxL ret n) (hn : as.length = n) (hc : vwCl[ci]? = some (C, T, N)) (hrm : zrm rm R0 mc ms maxL cells slots) (hlo : (st.map zcat).sum ≤ 8) (hstk : stk = as.reverse ++ zR r0 :: st)
    (kk : ∀ x z, res x = .inl z → zS (f x) G (zJ K (cells + mc) (slots + ms) (pc + 3) lv (zI z :: st) (hp2 x))) (kx : ∀ x k, res x = .inr k → zS (f x) G (zE K (cells + mc) (slots + ms) pc lv k (hp2 x))) : zS (((zobj hp r0 ci).bind fun _ => o1).bind f) G (zJ K cells slots pc lv stk hp) := by
  obtain ⟨p, l, e, R, s, m, args, below, meth, c, D, cA, A, Q, nL, ad0, n0⟩ := K
  obtain ⟨hx, hb, hml, hown, hts, hK, hA, hR, hlk, hst9, hEnv⟩ := X
  intro r h1 h2 ad H locs ls e1 e2 e3 e4 e5 e6 e7 e8 e9
  subst hR
  subst hstk
  obtain ⟨x, hx1, h3⟩ := Option.bind_eq_some_iff.mp h1
  clear h1
  obtain ⟨⟨b, fs⟩, ho, hx2⟩ := Option.bind_eq_some_iff.mp hx1
  clear hx1
  obtain ⟨hr0, hb0⟩ := zobj_some ho
  clear ho
  subst hr0
  obtain ⟨q1, q2⟩ := zst_app e5
  have hM9 := hM x hx2 l hst9 D cA ad H.size e3 (zOk_cons (zOk_hd q2) q1)
  have q2 := zOk_tl q2
  have hF := zfree e7 e8 hA
  refine vx_calli (vx_runV (As := as.map (zT ad)) (rest := st.map (zT ad)) (b := ad b) ⟨hx, hb, hml, hown, hts⟩ hM9 ⟨zCallB hts hw.1 hrm, hts _ hw.2.1, hts _ hw.2.2⟩ ⟨zPc_blind, va_recv hK e6 hc (q0 := b) (fs := fs.map (zT ad)) (zW_at hb0), fun U hU hW => zPc_pre e6 hK e7 hEnv e8 hF hU hW⟩ rfl (by rw [List.length_map]; exact hn) e9.1 (by show ((as.reverse ++ zR (some b) :: st).map (zT ad)) = _; rw [List.map_append, List.map_reverse]; rfl) (lv_room (by rw [zcat_sum]; exact hlo)) hd hrm.2.2.2) e8 (fun q _ h => hF q h) hF (fun q _ h => hF q h) (fun E ce q9 u t H1 locs1 ht hvm _ hB hz1 hk1 hS1 c1 c2 c3 => ?_) (fun r9 u t H1 locs1 ht hvm hw9 hB hz1 hk1 hS1 => ?_)
  · obtain ⟨⟨k, hk, hE⟩, b1, b2, b3, b4, b5, b6⟩ := hB
    rw [ht] at b4
    subst hE
    exact kx x k hk r h3 h2 u H1 locs1 ls _ q9 ce (fun i hi => (b1 i (Nat.lt_of_lt_of_le hi e2)).trans (e1 i hi)) (Nat.le_trans e2 b2) b3 (fun q hq => zOk_up (e4 q hq) b2) b4 ⟨b6.1, fun k q hq => hF _ (b6.2 k q hq)⟩ hS1 (by rw [zlv_ext e4 b1]; exact e9) c1 c2 c3
  · obtain ⟨b1, b2, b3, b4, b5, b6⟩ := hB
    rw [ht] at b4
    obtain ⟨z, hz, hr9, hrR⟩ := hw9
    subst hr9
    have k9 := kk x z hz r h3 h2 u H1 locs1 ls (fun i hi => (b1 i (Nat.lt_of_lt_of_le hi e2)).trans (e1 i hi)) (Nat.le_trans e2 b2) b3 (fun q hq => zOk_up (e4 q hq) b2) (zOk_cons hrR (fun v hv => zOk_up (q2 v hv) b2)) b4 ⟨b6.1, fun k q hq => hF _ (b6.2 k q hq)⟩ hS1 (by rw [zlv_ext e4 b1]; exact e9)
    have hs : (zI z :: st).map (zT u) = zT u (zI z) :: st.map (zT ad) := by rw [List.map_cons, zst_ext q2 b1]
    rw [hs] at k9
    exact k9
theorem z_callXV_q {ε : Type} {o1 : Option ε} {f : ε → Option ρ} {res : ε → Option Nat ⊕ Nat} {hp2 : ε → zH} {y : MethodName} {bytes : ByteArray} {maxL mc ms idx n : Nat} {ret : Option FieldType} {rm : Room} {ci N : Nat} {C : String} {T : u_T} {r0 : Option Nat} {stk : List zPV} (as : List zPV) (X : zX K cc own zALL R0) (hd : decode cc pc = .ok (.invokevirtual idx, 3)) (hM : ∀ x, o1 = some x → zXq y (Cond.code y bytes maxL ret :: zALL) rm mc ms (zR r0 :: as) hp (res x) (hp2 x)) (hw : zkV own idx C y bytes maxL ret n) (hn : as.length = n) (hc : vwCl[ci]? = some (C, T, N)) (hrm : zrm rm R0 mc ms maxL cells slots) (hlo : (st.map zcat).sum ≤ 8) (hstk : stk = as.reverse ++ zR r0 :: st)
    (kk : ∀ x z, res x = .inl z → zS (f x) G (zJ K (cells + mc) (slots + ms) (pc + 3) lv (zR z :: st) (hp2 x))) (kx : ∀ x k, res x = .inr k → zS (f x) G (zE K (cells + mc) (slots + ms) pc lv k (hp2 x))) : zS (((zobj hp r0 ci).bind fun _ => o1).bind f) G (zJ K cells slots pc lv stk hp) := by
  obtain ⟨p, l, e, R, s, m, args, below, meth, c, D, cA, A, Q, nL, ad0, n0⟩ := K
  obtain ⟨hx, hb, hml, hown, hts, hK, hA, hR, hlk, hst9, hEnv⟩ := X
  intro r h1 h2 ad H locs ls e1 e2 e3 e4 e5 e6 e7 e8 e9
  subst hR
  subst hstk
  obtain ⟨x, hx1, h3⟩ := Option.bind_eq_some_iff.mp h1
  clear h1
  obtain ⟨⟨b, fs⟩, ho, hx2⟩ := Option.bind_eq_some_iff.mp hx1
  clear hx1
  obtain ⟨hr0, hb0⟩ := zobj_some ho
  clear ho
  subst hr0
  obtain ⟨q1, q2⟩ := zst_app e5
  have hM9 := hM x hx2 l hst9 D cA ad H.size e3 (zOk_cons (zOk_hd q2) q1)
  have q2 := zOk_tl q2
  have hF := zfree e7 e8 hA
  refine vx_callq (vx_runV (As := as.map (zT ad)) (rest := st.map (zT ad)) (b := ad b) ⟨hx, hb, hml, hown, hts⟩ hM9 ⟨zCallB hts hw.1 hrm, hts _ hw.2.1, hts _ hw.2.2⟩ ⟨zPc_blind, va_recv hK e6 hc (q0 := b) (fs := fs.map (zT ad)) (zW_at hb0), fun U hU hW => zPc_pre e6 hK e7 hEnv e8 hF hU hW⟩ rfl (by rw [List.length_map]; exact hn) e9.1 (by show ((as.reverse ++ zR (some b) :: st).map (zT ad)) = _; rw [List.map_append, List.map_reverse]; rfl) (lv_room (by rw [zcat_sum]; exact hlo)) hd hrm.2.2.2) e8 (fun q _ h => hF q h) hF (fun q _ h => hF q h) (fun E ce q9 u t H1 locs1 ht hvm _ hB hz1 hk1 hS1 c1 c2 c3 => ?_) (fun r9 u t H1 locs1 ht hvm hw9 hB hz1 hk1 hS1 => ?_)
  · obtain ⟨⟨k, hk, hE⟩, b1, b2, b3, b4, b5, b6⟩ := hB
    rw [ht] at b4
    subst hE
    exact kx x k hk r h3 h2 u H1 locs1 ls _ q9 ce (fun i hi => (b1 i (Nat.lt_of_lt_of_le hi e2)).trans (e1 i hi)) (Nat.le_trans e2 b2) b3 (fun q hq => zOk_up (e4 q hq) b2) b4 ⟨b6.1, fun k q hq => hF _ (b6.2 k q hq)⟩ hS1 (by rw [zlv_ext e4 b1]; exact e9) c1 c2 c3
  · obtain ⟨b1, b2, b3, b4, b5, b6⟩ := hB
    rw [ht] at b4
    obtain ⟨z, hz, hr9, hrR⟩ := hw9
    subst hr9
    have k9 := kk x z hz r h3 h2 u H1 locs1 ls (fun i hi => (b1 i (Nat.lt_of_lt_of_le hi e2)).trans (e1 i hi)) (Nat.le_trans e2 b2) b3 (fun q hq => zOk_up (e4 q hq) b2) (zOk_cons hrR (fun v hv => zOk_up (q2 v hv) b2)) b4 ⟨b6.1, fun k q hq => hF _ (b6.2 k q hq)⟩ hS1 (by rw [zlv_ext e4 b1]; exact e9)
    have hs : (zR z :: st).map (zT u) = zT u (zR z) :: st.map (zT ad) := by rw [List.map_cons, zst_ext q2 b1]
    rw [hs] at k9
    exact k9
theorem z_callXV_f {ε : Type} {o1 : Option ε} {f : ε → Option ρ} {res : ε → UInt32 ⊕ Nat} {hp2 : ε → zH} {y : MethodName} {bytes : ByteArray} {maxL mc ms idx n : Nat} {ret : Option FieldType} {rm : Room} {ci N : Nat} {C : String} {T : u_T} {r0 : Option Nat} {stk : List zPV} (as : List zPV) (X : zX K cc own zALL R0) (hd : decode cc pc = .ok (.invokevirtual idx, 3)) (hM : ∀ x, o1 = some x → zXf y (Cond.code y bytes maxL ret :: zALL) rm mc ms (zR r0 :: as) hp (res x) (hp2 x)) (hw : zkV own idx C y bytes maxL ret n) (hn : as.length = n) (hc : vwCl[ci]? = some (C, T, N)) (hrm : zrm rm R0 mc ms maxL cells slots) (hlo : (st.map zcat).sum ≤ 8) (hstk : stk = as.reverse ++ zR r0 :: st)
    (kk : ∀ x z, res x = .inl z → zS (f x) G (zJ K (cells + mc) (slots + ms) (pc + 3) lv (zF z :: st) (hp2 x))) (kx : ∀ x k, res x = .inr k → zS (f x) G (zE K (cells + mc) (slots + ms) pc lv k (hp2 x))) : zS (((zobj hp r0 ci).bind fun _ => o1).bind f) G (zJ K cells slots pc lv stk hp) := by
  obtain ⟨p, l, e, R, s, m, args, below, meth, c, D, cA, A, Q, nL, ad0, n0⟩ := K
  obtain ⟨hx, hb, hml, hown, hts, hK, hA, hR, hlk, hst9, hEnv⟩ := X
  intro r h1 h2 ad H locs ls e1 e2 e3 e4 e5 e6 e7 e8 e9
  subst hR
  subst hstk
  obtain ⟨x, hx1, h3⟩ := Option.bind_eq_some_iff.mp h1
  clear h1
  obtain ⟨⟨b, fs⟩, ho, hx2⟩ := Option.bind_eq_some_iff.mp hx1
  clear hx1
  obtain ⟨hr0, hb0⟩ := zobj_some ho
  clear ho
  subst hr0
  obtain ⟨q1, q2⟩ := zst_app e5
  have hM9 := hM x hx2 l hst9 D cA ad H.size e3 (zOk_cons (zOk_hd q2) q1)
  have q2 := zOk_tl q2
  have hF := zfree e7 e8 hA
  refine vx_callf (vx_runV (As := as.map (zT ad)) (rest := st.map (zT ad)) (b := ad b) ⟨hx, hb, hml, hown, hts⟩ hM9 ⟨zCallB hts hw.1 hrm, hts _ hw.2.1, hts _ hw.2.2⟩ ⟨zPc_blind, va_recv hK e6 hc (q0 := b) (fs := fs.map (zT ad)) (zW_at hb0), fun U hU hW => zPc_pre e6 hK e7 hEnv e8 hF hU hW⟩ rfl (by rw [List.length_map]; exact hn) e9.1 (by show ((as.reverse ++ zR (some b) :: st).map (zT ad)) = _; rw [List.map_append, List.map_reverse]; rfl) (lv_room (by rw [zcat_sum]; exact hlo)) hd hrm.2.2.2) e8 (fun q _ h => hF q h) hF (fun q _ h => hF q h) (fun E ce q9 u t H1 locs1 ht hvm _ hB hz1 hk1 hS1 c1 c2 c3 => ?_) (fun r9 u t H1 locs1 ht hvm hw9 hB hz1 hk1 hS1 => ?_)
  · obtain ⟨⟨k, hk, hE⟩, b1, b2, b3, b4, b5, b6⟩ := hB
    rw [ht] at b4
    subst hE
    exact kx x k hk r h3 h2 u H1 locs1 ls _ q9 ce (fun i hi => (b1 i (Nat.lt_of_lt_of_le hi e2)).trans (e1 i hi)) (Nat.le_trans e2 b2) b3 (fun q hq => zOk_up (e4 q hq) b2) b4 ⟨b6.1, fun k q hq => hF _ (b6.2 k q hq)⟩ hS1 (by rw [zlv_ext e4 b1]; exact e9) c1 c2 c3
  · obtain ⟨b1, b2, b3, b4, b5, b6⟩ := hB
    rw [ht] at b4
    have hz : res x = .inl r9 := hw9
    have k9 := kk x r9 hz r h3 h2 u H1 locs1 ls (fun i hi => (b1 i (Nat.lt_of_lt_of_le hi e2)).trans (e1 i hi)) (Nat.le_trans e2 b2) b3 (fun q hq => zOk_up (e4 q hq) b2) (zOk_cons trivial (fun v hv => zOk_up (q2 v hv) b2)) b4 ⟨b6.1, fun k q hq => hF _ (b6.2 k q hq)⟩ hS1 (by rw [zlv_ext e4 b1]; exact e9)
    have hs : (zF r9 :: st).map (zT u) = zT u (zF r9) :: st.map (zT ad) := by rw [List.map_cons, zst_ext q2 b1]
    rw [hs] at k9
    exact k9
theorem z_callXV_d {ε : Type} {o1 : Option ε} {f : ε → Option ρ} {res : ε → UInt64 ⊕ Nat} {hp2 : ε → zH} {y : MethodName} {bytes : ByteArray} {maxL mc ms idx n : Nat} {ret : Option FieldType} {rm : Room} {ci N : Nat} {C : String} {T : u_T} {r0 : Option Nat} {stk : List zPV} (as : List zPV) (X : zX K cc own zALL R0) (hd : decode cc pc = .ok (.invokevirtual idx, 3)) (hM : ∀ x, o1 = some x → zXd y (Cond.code y bytes maxL ret :: zALL) rm mc ms (zR r0 :: as) hp (res x) (hp2 x)) (hw : zkV own idx C y bytes maxL ret n) (hn : as.length = n) (hc : vwCl[ci]? = some (C, T, N)) (hrm : zrm rm R0 mc ms maxL cells slots) (hlo : (st.map zcat).sum ≤ 8) (hstk : stk = as.reverse ++ zR r0 :: st)
    (kk : ∀ x z, res x = .inl z → zS (f x) G (zJ K (cells + mc) (slots + ms) (pc + 3) lv (zD z :: st) (hp2 x))) (kx : ∀ x k, res x = .inr k → zS (f x) G (zE K (cells + mc) (slots + ms) pc lv k (hp2 x))) : zS (((zobj hp r0 ci).bind fun _ => o1).bind f) G (zJ K cells slots pc lv stk hp) := by
  obtain ⟨p, l, e, R, s, m, args, below, meth, c, D, cA, A, Q, nL, ad0, n0⟩ := K
  obtain ⟨hx, hb, hml, hown, hts, hK, hA, hR, hlk, hst9, hEnv⟩ := X
  intro r h1 h2 ad H locs ls e1 e2 e3 e4 e5 e6 e7 e8 e9
  subst hR
  subst hstk
  obtain ⟨x, hx1, h3⟩ := Option.bind_eq_some_iff.mp h1
  clear h1
  obtain ⟨⟨b, fs⟩, ho, hx2⟩ := Option.bind_eq_some_iff.mp hx1
  clear hx1
  obtain ⟨hr0, hb0⟩ := zobj_some ho
  clear ho
  subst hr0
  obtain ⟨q1, q2⟩ := zst_app e5
  have hM9 := hM x hx2 l hst9 D cA ad H.size e3 (zOk_cons (zOk_hd q2) q1)
  have q2 := zOk_tl q2
  have hF := zfree e7 e8 hA
  refine vx_calld (vx_runV (As := as.map (zT ad)) (rest := st.map (zT ad)) (b := ad b) ⟨hx, hb, hml, hown, hts⟩ hM9 ⟨zCallB hts hw.1 hrm, hts _ hw.2.1, hts _ hw.2.2⟩ ⟨zPc_blind, va_recv hK e6 hc (q0 := b) (fs := fs.map (zT ad)) (zW_at hb0), fun U hU hW => zPc_pre e6 hK e7 hEnv e8 hF hU hW⟩ rfl (by rw [List.length_map]; exact hn) e9.1 (by show ((as.reverse ++ zR (some b) :: st).map (zT ad)) = _; rw [List.map_append, List.map_reverse]; rfl) (lv_room (by rw [zcat_sum]; exact hlo)) hd hrm.2.2.2) e8 (fun q _ h => hF q h) hF (fun q _ h => hF q h) (fun E ce q9 u t H1 locs1 ht hvm _ hB hz1 hk1 hS1 c1 c2 c3 => ?_) (fun r9 u t H1 locs1 ht hvm hw9 hB hz1 hk1 hS1 => ?_)
  · obtain ⟨⟨k, hk, hE⟩, b1, b2, b3, b4, b5, b6⟩ := hB
    rw [ht] at b4
    subst hE
    exact kx x k hk r h3 h2 u H1 locs1 ls _ q9 ce (fun i hi => (b1 i (Nat.lt_of_lt_of_le hi e2)).trans (e1 i hi)) (Nat.le_trans e2 b2) b3 (fun q hq => zOk_up (e4 q hq) b2) b4 ⟨b6.1, fun k q hq => hF _ (b6.2 k q hq)⟩ hS1 (by rw [zlv_ext e4 b1]; exact e9) c1 c2 c3
  · obtain ⟨b1, b2, b3, b4, b5, b6⟩ := hB
    rw [ht] at b4
    have hz : res x = .inl r9 := hw9
    have k9 := kk x r9 hz r h3 h2 u H1 locs1 ls (fun i hi => (b1 i (Nat.lt_of_lt_of_le hi e2)).trans (e1 i hi)) (Nat.le_trans e2 b2) b3 (fun q hq => zOk_up (e4 q hq) b2) (zOk_cons trivial (fun v hv => zOk_up (q2 v hv) b2)) b4 ⟨b6.1, fun k q hq => hF _ (b6.2 k q hq)⟩ hS1 (by rw [zlv_ext e4 b1]; exact e9)
    have hs : (zD r9 :: st).map (zT u) = zT u (zD r9) :: st.map (zT ad) := by rw [List.map_cons, zst_ext q2 b1]
    rw [hs] at k9
    exact k9
end zCallRows
end
