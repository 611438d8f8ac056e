section
-- ===== PART A: goes FIRST, ahead of the names: the tables' words, and 'selects' of the private methods out of them =====
/-- a private method of a class that the tables say can be made, by its rows of tables_1 -/
def lw_okq (q : MethodName × Nat) : Prop := (q.1.cls ≠ "java/lang/invoke/MethodHandle" ∧ q.1.cls ≠ "java/lang/invoke/VarHandle") ∧ Cond.instantiable q.1.cls q.2 ∈ tables_1 ∧ Cond.privateMethod q.1 ∈ tables_1 ∧ Cond.instanceMethod q.1 ∈ tables_1
theorem lw_p0 : lw_okq (⟨"ValueDays$Reader", "forget", "()V"⟩, 15) := ⟨⟨by decide +kernel, by decide +kernel⟩, List.mem_of_getElem? (i := 43) (by decide +kernel), List.mem_of_getElem? (i := 331) (by decide +kernel), List.mem_of_getElem? (i := 332) (by decide +kernel)⟩
theorem lw_p1 : lw_okq (⟨"ValueDays$Reader", "goesOn", "()Z"⟩, 15) := ⟨⟨by decide +kernel, by decide +kernel⟩, List.mem_of_getElem? (i := 43) (by decide +kernel), List.mem_of_getElem? (i := 363) (by decide +kernel), List.mem_of_getElem? (i := 364) (by decide +kernel)⟩
theorem lw_p2 : lw_okq (⟨"ValueDays$Reader", "readLine", "()V"⟩, 15) := ⟨⟨by decide +kernel, by decide +kernel⟩, List.mem_of_getElem? (i := 43) (by decide +kernel), List.mem_of_getElem? (i := 371) (by decide +kernel), List.mem_of_getElem? (i := 372) (by decide +kernel)⟩
theorem lw_p3 : lw_okq (⟨"ValueDays$Reader", "readBook", "()V"⟩, 15) := ⟨⟨by decide +kernel, by decide +kernel⟩, List.mem_of_getElem? (i := 43) (by decide +kernel), List.mem_of_getElem? (i := 379) (by decide +kernel), List.mem_of_getElem? (i := 380) (by decide +kernel)⟩
theorem lw_p4 : lw_okq (⟨"ValueDays$Reader", "takeWord", "(Ljava/lang/String;)V"⟩, 15) := ⟨⟨by decide +kernel, by decide +kernel⟩, List.mem_of_getElem? (i := 43) (by decide +kernel), List.mem_of_getElem? (i := 384) (by decide +kernel), List.mem_of_getElem? (i := 385) (by decide +kernel)⟩
theorem lw_p5 : lw_okq (⟨"ValueDays$Reader", "refuse", "(I)V"⟩, 15) := ⟨⟨by decide +kernel, by decide +kernel⟩, List.mem_of_getElem? (i := 43) (by decide +kernel), List.mem_of_getElem? (i := 441) (by decide +kernel), List.mem_of_getElem? (i := 442) (by decide +kernel)⟩
theorem lw_p6 : lw_okq (⟨"ValueDays$Reader", "takeNumber", "(II)I"⟩, 15) := ⟨⟨by decide +kernel, by decide +kernel⟩, List.mem_of_getElem? (i := 43) (by decide +kernel), List.mem_of_getElem? (i := 450) (by decide +kernel), List.mem_of_getElem? (i := 451) (by decide +kernel)⟩
theorem lw_p7 : lw_okq (⟨"ValueDays$Reader", "finish", "(IIII)V"⟩, 15) := ⟨⟨by decide +kernel, by decide +kernel⟩, List.mem_of_getElem? (i := 43) (by decide +kernel), List.mem_of_getElem? (i := 460) (by decide +kernel), List.mem_of_getElem? (i := 461) (by decide +kernel)⟩
theorem lw_p8 : lw_okq (⟨"ValueDays$Script", "put", "(IIIII)V"⟩, 3) := ⟨⟨by decide +kernel, by decide +kernel⟩, List.mem_of_getElem? (i := 49) (by decide +kernel), List.mem_of_getElem? (i := 468) (by decide +kernel), List.mem_of_getElem? (i := 469) (by decide +kernel)⟩
theorem lw_p9 : lw_okq (⟨"ValueDays$Reader", "readTier", "()V"⟩, 15) := ⟨⟨by decide +kernel, by decide +kernel⟩, List.mem_of_getElem? (i := 43) (by decide +kernel), List.mem_of_getElem? (i := 473) (by decide +kernel), List.mem_of_getElem? (i := 474) (by decide +kernel)⟩
theorem lw_p10 : lw_okq (⟨"ValueDays$Reader", "readDebit", "()V"⟩, 15) := ⟨⟨by decide +kernel, by decide +kernel⟩, List.mem_of_getElem? (i := 43) (by decide +kernel), List.mem_of_getElem? (i := 480) (by decide +kernel), List.mem_of_getElem? (i := 481) (by decide +kernel)⟩
theorem lw_p11 : lw_okq (⟨"ValueDays$Reader", "readFrom", "()V"⟩, 15) := ⟨⟨by decide +kernel, by decide +kernel⟩, List.mem_of_getElem? (i := 43) (by decide +kernel), List.mem_of_getElem? (i := 487) (by decide +kernel), List.mem_of_getElem? (i := 488) (by decide +kernel)⟩
theorem lw_p12 : lw_okq (⟨"ValueDays$Reader", "takeWhich", "()I"⟩, 15) := ⟨⟨by decide +kernel, by decide +kernel⟩, List.mem_of_getElem? (i := 43) (by decide +kernel), List.mem_of_getElem? (i := 491) (by decide +kernel), List.mem_of_getElem? (i := 492) (by decide +kernel)⟩
theorem lw_p13 : lw_okq (⟨"ValueDays$Reader", "readMoney", "(I)V"⟩, 15) := ⟨⟨by decide +kernel, by decide +kernel⟩, List.mem_of_getElem? (i := 43) (by decide +kernel), List.mem_of_getElem? (i := 496) (by decide +kernel), List.mem_of_getElem? (i := 497) (by decide +kernel)⟩
theorem lw_p14 : lw_okq (⟨"ValueDays$Reader", "readClose", "()V"⟩, 15) := ⟨⟨by decide +kernel, by decide +kernel⟩, List.mem_of_getElem? (i := 43) (by decide +kernel), List.mem_of_getElem? (i := 502) (by decide +kernel), List.mem_of_getElem? (i := 503) (by decide +kernel)⟩
theorem lw_p15 : lw_okq (⟨"ValueDays$Reader", "readRerun", "()V"⟩, 15) := ⟨⟨by decide +kernel, by decide +kernel⟩, List.mem_of_getElem? (i := 43) (by decide +kernel), List.mem_of_getElem? (i := 507) (by decide +kernel), List.mem_of_getElem? (i := 508) (by decide +kernel)⟩
def lw_privs_1 : List (MethodName × Nat) := [(⟨"ValueDays$Reader", "forget", "()V"⟩, 15), (⟨"ValueDays$Reader", "goesOn", "()Z"⟩, 15), (⟨"ValueDays$Reader", "readLine", "()V"⟩, 15), (⟨"ValueDays$Reader", "readBook", "()V"⟩, 15), (⟨"ValueDays$Reader", "takeWord", "(Ljava/lang/String;)V"⟩, 15), (⟨"ValueDays$Reader", "refuse", "(I)V"⟩, 15), (⟨"ValueDays$Reader", "takeNumber", "(II)I"⟩, 15), (⟨"ValueDays$Reader", "finish", "(IIII)V"⟩, 15), (⟨"ValueDays$Script", "put", "(IIIII)V"⟩, 3), (⟨"ValueDays$Reader", "readTier", "()V"⟩, 15), (⟨"ValueDays$Reader", "readDebit", "()V"⟩, 15), (⟨"ValueDays$Reader", "readFrom", "()V"⟩, 15), (⟨"ValueDays$Reader", "takeWhich", "()I"⟩, 15), (⟨"ValueDays$Reader", "readMoney", "(I)V"⟩, 15), (⟨"ValueDays$Reader", "readClose", "()V"⟩, 15), (⟨"ValueDays$Reader", "readRerun", "()V"⟩, 15)]
theorem lw_r1 : ∀ q ∈ lw_privs_1, lw_okq q := List.forall_mem_cons.mpr ⟨lw_p0, List.forall_mem_cons.mpr ⟨lw_p1, List.forall_mem_cons.mpr ⟨lw_p2, List.forall_mem_cons.mpr ⟨lw_p3, List.forall_mem_cons.mpr ⟨lw_p4, List.forall_mem_cons.mpr ⟨lw_p5, List.forall_mem_cons.mpr ⟨lw_p6, List.forall_mem_cons.mpr ⟨lw_p7, List.forall_mem_cons.mpr ⟨lw_p8, List.forall_mem_cons.mpr ⟨lw_p9, List.forall_mem_cons.mpr ⟨lw_p10, List.forall_mem_cons.mpr ⟨lw_p11, List.forall_mem_cons.mpr ⟨lw_p12, List.forall_mem_cons.mpr ⟨lw_p13, List.forall_mem_cons.mpr ⟨lw_p14, List.forall_mem_cons.mpr ⟨lw_p15, fun _ h => absurd h List.not_mem_nil⟩⟩⟩⟩⟩⟩⟩⟩⟩⟩⟩⟩⟩⟩⟩⟩
theorem lw_p16 : lw_okq (⟨"ValueDays$Terms", "spread", "(III)V"⟩, 6) := ⟨⟨by decide +kernel, by decide +kernel⟩, List.mem_of_getElem? (i := 143) (by decide +kernel), List.mem_of_getElem? (i := 566) (by decide +kernel), List.mem_of_getElem? (i := 567) (by decide +kernel)⟩
theorem lw_p17 : lw_okq (⟨"ValueDays$Ledger", "addEntry", "(IJII)V"⟩, 8) := ⟨⟨by decide +kernel, by decide +kernel⟩, List.mem_of_getElem? (i := 137) (by decide +kernel), List.mem_of_getElem? (i := 584) (by decide +kernel), List.mem_of_getElem? (i := 585) (by decide +kernel)⟩
theorem lw_p18 : lw_okq (⟨"ValueDays$Ledger", "closeOpen", "()V"⟩, 8) := ⟨⟨by decide +kernel, by decide +kernel⟩, List.mem_of_getElem? (i := 137) (by decide +kernel), List.mem_of_getElem? (i := 602) (by decide +kernel), List.mem_of_getElem? (i := 603) (by decide +kernel)⟩
theorem lw_p19 : lw_okq (⟨"ValueDays$Ledger", "runAnew", "()V"⟩, 8) := ⟨⟨by decide +kernel, by decide +kernel⟩, List.mem_of_getElem? (i := 137) (by decide +kernel), List.mem_of_getElem? (i := 642) (by decide +kernel), List.mem_of_getElem? (i := 643) (by decide +kernel)⟩
theorem lw_p20 : lw_okq (⟨"ValueDays$Ledger", "turnBack", "(I)V"⟩, 8) := ⟨⟨by decide +kernel, by decide +kernel⟩, List.mem_of_getElem? (i := 137) (by decide +kernel), List.mem_of_getElem? (i := 662) (by decide +kernel), List.mem_of_getElem? (i := 663) (by decide +kernel)⟩
theorem lw_p21 : lw_okq (⟨"ValueDays", "noBook", "()Z"⟩, 8) := ⟨⟨by decide +kernel, by decide +kernel⟩, List.mem_of_getElem? (i := 21) (by decide +kernel), List.mem_of_getElem? (i := 748) (by decide +kernel), List.mem_of_getElem? (i := 749) (by decide +kernel)⟩
theorem lw_p22 : lw_okq (⟨"ValueDays$Terms", "topOf", "(IJ)J"⟩, 6) := ⟨⟨by decide +kernel, by decide +kernel⟩, List.mem_of_getElem? (i := 143) (by decide +kernel), List.mem_of_getElem? (i := 792) (by decide +kernel), List.mem_of_getElem? (i := 793) (by decide +kernel)⟩
theorem lw_p23 : lw_okq (⟨"ValueDays$Course", "standingsOf", "(I)J"⟩, 2) := ⟨⟨by decide +kernel, by decide +kernel⟩, List.mem_of_getElem? (i := 229) (by decide +kernel), List.mem_of_getElem? (i := 919) (by decide +kernel), List.mem_of_getElem? (i := 920) (by decide +kernel)⟩
theorem lw_p24 : lw_okq (⟨"ValueDays$Course", "commonDivisor", "(J)I"⟩, 2) := ⟨⟨by decide +kernel, by decide +kernel⟩, List.mem_of_getElem? (i := 229) (by decide +kernel), List.mem_of_getElem? (i := 923) (by decide +kernel), List.mem_of_getElem? (i := 924) (by decide +kernel)⟩
theorem lw_p25 : lw_okq (⟨"ValueDays$Course", "isStep", "(I)Z"⟩, 2) := ⟨⟨by decide +kernel, by decide +kernel⟩, List.mem_of_getElem? (i := 229) (by decide +kernel), List.mem_of_getElem? (i := 968) (by decide +kernel), List.mem_of_getElem? (i := 969) (by decide +kernel)⟩
theorem lw_p26 : lw_okq (⟨"ValueDays$Course", "room", "(I)J"⟩, 2) := ⟨⟨by decide +kernel, by decide +kernel⟩, List.mem_of_getElem? (i := 229) (by decide +kernel), List.mem_of_getElem? (i := 998) (by decide +kernel), List.mem_of_getElem? (i := 999) (by decide +kernel)⟩
theorem lw_p27 : lw_okq (⟨"ValueDays$Course", "roomFrom", "(I)J"⟩, 2) := ⟨⟨by decide +kernel, by decide +kernel⟩, List.mem_of_getElem? (i := 229) (by decide +kernel), List.mem_of_getElem? (i := 1018) (by decide +kernel), List.mem_of_getElem? (i := 1019) (by decide +kernel)⟩
theorem lw_p28 : lw_okq (⟨"ValueDays$WhatIf", "productOf", "(IJ)J"⟩, 3) := ⟨⟨by decide +kernel, by decide +kernel⟩, List.mem_of_getElem? (i := 242) (by decide +kernel), List.mem_of_getElem? (i := 1114) (by decide +kernel), List.mem_of_getElem? (i := 1115) (by decide +kernel)⟩
theorem lw_p29 : lw_okq (⟨"ValueDays$WhatIf", "tiltIn", "(III)J"⟩, 3) := ⟨⟨by decide +kernel, by decide +kernel⟩, List.mem_of_getElem? (i := 242) (by decide +kernel), List.mem_of_getElem? (i := 1146) (by decide +kernel), List.mem_of_getElem? (i := 1147) (by decide +kernel)⟩
theorem lw_p30 : lw_okq (⟨"ValueDays$WhatIf", "limitedProducts", "(II)J"⟩, 3) := ⟨⟨by decide +kernel, by decide +kernel⟩, List.mem_of_getElem? (i := 242) (by decide +kernel), List.mem_of_getElem? (i := 1164) (by decide +kernel), List.mem_of_getElem? (i := 1165) (by decide +kernel)⟩
theorem lw_p31 : lw_okq (⟨"ValueDays", "canPlan", "(II)Z"⟩, 8) := ⟨⟨by decide +kernel, by decide +kernel⟩, List.mem_of_getElem? (i := 21) (by decide +kernel), List.mem_of_getElem? (i := 1272) (by decide +kernel), List.mem_of_getElem? (i := 1273) (by decide +kernel)⟩
def lw_privs_2 : List (MethodName × Nat) := [(⟨"ValueDays$Terms", "spread", "(III)V"⟩, 6), (⟨"ValueDays$Ledger", "addEntry", "(IJII)V"⟩, 8), (⟨"ValueDays$Ledger", "closeOpen", "()V"⟩, 8), (⟨"ValueDays$Ledger", "runAnew", "()V"⟩, 8), (⟨"ValueDays$Ledger", "turnBack", "(I)V"⟩, 8), (⟨"ValueDays", "noBook", "()Z"⟩, 8), (⟨"ValueDays$Terms", "topOf", "(IJ)J"⟩, 6), (⟨"ValueDays$Course", "standingsOf", "(I)J"⟩, 2), (⟨"ValueDays$Course", "commonDivisor", "(J)I"⟩, 2), (⟨"ValueDays$Course", "isStep", "(I)Z"⟩, 2), (⟨"ValueDays$Course", "room", "(I)J"⟩, 2), (⟨"ValueDays$Course", "roomFrom", "(I)J"⟩, 2), (⟨"ValueDays$WhatIf", "productOf", "(IJ)J"⟩, 3), (⟨"ValueDays$WhatIf", "tiltIn", "(III)J"⟩, 3), (⟨"ValueDays$WhatIf", "limitedProducts", "(II)J"⟩, 3), (⟨"ValueDays", "canPlan", "(II)Z"⟩, 8)]
theorem lw_r2 : ∀ q ∈ lw_privs_2, lw_okq q := List.forall_mem_cons.mpr ⟨lw_p16, List.forall_mem_cons.mpr ⟨lw_p17, List.forall_mem_cons.mpr ⟨lw_p18, List.forall_mem_cons.mpr ⟨lw_p19, List.forall_mem_cons.mpr ⟨lw_p20, List.forall_mem_cons.mpr ⟨lw_p21, List.forall_mem_cons.mpr ⟨lw_p22, List.forall_mem_cons.mpr ⟨lw_p23, List.forall_mem_cons.mpr ⟨lw_p24, List.forall_mem_cons.mpr ⟨lw_p25, List.forall_mem_cons.mpr ⟨lw_p26, List.forall_mem_cons.mpr ⟨lw_p27, List.forall_mem_cons.mpr ⟨lw_p28, List.forall_mem_cons.mpr ⟨lw_p29, List.forall_mem_cons.mpr ⟨lw_p30, List.forall_mem_cons.mpr ⟨lw_p31, fun _ h => absurd h List.not_mem_nil⟩⟩⟩⟩⟩⟩⟩⟩⟩⟩⟩⟩⟩⟩⟩⟩
theorem lw_p32 : lw_okq (⟨"ValueDays$PaidOff", "nextOf", "(II)I"⟩, 3) := ⟨⟨by decide +kernel, by decide +kernel⟩, List.mem_of_getElem? (i := 258) (by decide +kernel), List.mem_of_getElem? (i := 1296) (by decide +kernel), List.mem_of_getElem? (i := 1297) (by decide +kernel)⟩
theorem lw_p33 : lw_okq (⟨"ValueDays$PaidOff", "isEntry", "(I)Z"⟩, 3) := ⟨⟨by decide +kernel, by decide +kernel⟩, List.mem_of_getElem? (i := 258) (by decide +kernel), List.mem_of_getElem? (i := 1307) (by decide +kernel), List.mem_of_getElem? (i := 1308) (by decide +kernel)⟩
theorem lw_p34 : lw_okq (⟨"ValueDays$PaidOff", "takeOff", "(IJI)V"⟩, 3) := ⟨⟨by decide +kernel, by decide +kernel⟩, List.mem_of_getElem? (i := 258) (by decide +kernel), List.mem_of_getElem? (i := 1313) (by decide +kernel), List.mem_of_getElem? (i := 1314) (by decide +kernel)⟩
theorem lw_p35 : lw_okq (⟨"ValueDays", "bookMoney", "(III)I"⟩, 8) := ⟨⟨by decide +kernel, by decide +kernel⟩, List.mem_of_getElem? (i := 21) (by decide +kernel), List.mem_of_getElem? (i := 1338) (by decide +kernel), List.mem_of_getElem? (i := 1339) (by decide +kernel)⟩
theorem lw_p36 : lw_okq (⟨"ValueDays", "act", "(IIII)V"⟩, 8) := ⟨⟨by decide +kernel, by decide +kernel⟩, List.mem_of_getElem? (i := 21) (by decide +kernel), List.mem_of_getElem? (i := 1346) (by decide +kernel), List.mem_of_getElem? (i := 1347) (by decide +kernel)⟩
theorem lw_p37 : lw_okq (⟨"ValueDays", "keptAs", "(I)LValueDays$Script;"⟩, 8) := ⟨⟨by decide +kernel, by decide +kernel⟩, List.mem_of_getElem? (i := 21) (by decide +kernel), List.mem_of_getElem? (i := 1388) (by decide +kernel), List.mem_of_getElem? (i := 1389) (by decide +kernel)⟩
theorem lw_p38 : lw_okq (⟨"ValueDaysModel", "swaps", "()V"⟩, 40) := ⟨⟨by decide +kernel, by decide +kernel⟩, List.mem_of_getElem? (i := 1408) (by decide +kernel), List.mem_of_getElem? (i := 1554) (by decide +kernel), List.mem_of_getElem? (i := 1555) (by decide +kernel)⟩
theorem lw_p39 : lw_okq (⟨"ValueDaysModel", "begins", "()V"⟩, 40) := ⟨⟨by decide +kernel, by decide +kernel⟩, List.mem_of_getElem? (i := 1408) (by decide +kernel), List.mem_of_getElem? (i := 1558) (by decide +kernel), List.mem_of_getElem? (i := 1559) (by decide +kernel)⟩
theorem lw_p40 : lw_okq (⟨"ValueDaysModel", "advance", "()V"⟩, 40) := ⟨⟨by decide +kernel, by decide +kernel⟩, List.mem_of_getElem? (i := 1408) (by decide +kernel), List.mem_of_getElem? (i := 1562) (by decide +kernel), List.mem_of_getElem? (i := 1563) (by decide +kernel)⟩
theorem lw_p41 : lw_okq (⟨"ValueDaysModel", "see", "(I)I"⟩, 40) := ⟨⟨by decide +kernel, by decide +kernel⟩, List.mem_of_getElem? (i := 1408) (by decide +kernel), List.mem_of_getElem? (i := 1566) (by decide +kernel), List.mem_of_getElem? (i := 1567) (by decide +kernel)⟩
theorem lw_p42 : lw_okq (⟨"ValueDaysModel", "good", "()Z"⟩, 40) := ⟨⟨by decide +kernel, by decide +kernel⟩, List.mem_of_getElem? (i := 1408) (by decide +kernel), List.mem_of_getElem? (i := 1576) (by decide +kernel), List.mem_of_getElem? (i := 1577) (by decide +kernel)⟩
theorem lw_p43 : lw_okq (⟨"ValueDaysModel", "readText", "()V"⟩, 40) := ⟨⟨by decide +kernel, by decide +kernel⟩, List.mem_of_getElem? (i := 1408) (by decide +kernel), List.mem_of_getElem? (i := 1580) (by decide +kernel), List.mem_of_getElem? (i := 1581) (by decide +kernel)⟩
theorem lw_p44 : lw_okq (⟨"ValueDaysModel", "readFirst", "()V"⟩, 40) := ⟨⟨by decide +kernel, by decide +kernel⟩, List.mem_of_getElem? (i := 1408) (by decide +kernel), List.mem_of_getElem? (i := 1584) (by decide +kernel), List.mem_of_getElem? (i := 1585) (by decide +kernel)⟩
theorem lw_p45 : lw_okq (⟨"ValueDaysModel", "passes", "(Ljava/lang/String;)Z"⟩, 40) := ⟨⟨by decide +kernel, by decide +kernel⟩, List.mem_of_getElem? (i := 1408) (by decide +kernel), List.mem_of_getElem? (i := 1589) (by decide +kernel), List.mem_of_getElem? (i := 1590) (by decide +kernel)⟩
theorem lw_p46 : lw_okq (⟨"ValueDaysModel", "is", "(Ljava/lang/String;)Z"⟩, 40) := ⟨⟨by decide +kernel, by decide +kernel⟩, List.mem_of_getElem? (i := 1408) (by decide +kernel), List.mem_of_getElem? (i := 1593) (by decide +kernel), List.mem_of_getElem? (i := 1594) (by decide +kernel)⟩
theorem lw_p47 : lw_okq (⟨"ValueDaysModel", "errs", "(I)V"⟩, 40) := ⟨⟨by decide +kernel, by decide +kernel⟩, List.mem_of_getElem? (i := 1408) (by decide +kernel), List.mem_of_getElem? (i := 1599) (by decide +kernel), List.mem_of_getElem? (i := 1600) (by decide +kernel)⟩
def lw_privs_3 : List (MethodName × Nat) := [(⟨"ValueDays$PaidOff", "nextOf", "(II)I"⟩, 3), (⟨"ValueDays$PaidOff", "isEntry", "(I)Z"⟩, 3), (⟨"ValueDays$PaidOff", "takeOff", "(IJI)V"⟩, 3), (⟨"ValueDays", "bookMoney", "(III)I"⟩, 8), (⟨"ValueDays", "act", "(IIII)V"⟩, 8), (⟨"ValueDays", "keptAs", "(I)LValueDays$Script;"⟩, 8), (⟨"ValueDaysModel", "swaps", "()V"⟩, 40), (⟨"ValueDaysModel", "begins", "()V"⟩, 40), (⟨"ValueDaysModel", "advance", "()V"⟩, 40), (⟨"ValueDaysModel", "see", "(I)I"⟩, 40), (⟨"ValueDaysModel", "good", "()Z"⟩, 40), (⟨"ValueDaysModel", "readText", "()V"⟩, 40), (⟨"ValueDaysModel", "readFirst", "()V"⟩, 40), (⟨"ValueDaysModel", "passes", "(Ljava/lang/String;)Z"⟩, 40), (⟨"ValueDaysModel", "is", "(Ljava/lang/String;)Z"⟩, 40), (⟨"ValueDaysModel", "errs", "(I)V"⟩, 40)]
theorem lw_r3 : ∀ q ∈ lw_privs_3, lw_okq q := List.forall_mem_cons.mpr ⟨lw_p32, List.forall_mem_cons.mpr ⟨lw_p33, List.forall_mem_cons.mpr ⟨lw_p34, List.forall_mem_cons.mpr ⟨lw_p35, List.forall_mem_cons.mpr ⟨lw_p36, List.forall_mem_cons.mpr ⟨lw_p37, List.forall_mem_cons.mpr ⟨lw_p38, List.forall_mem_cons.mpr ⟨lw_p39, List.forall_mem_cons.mpr ⟨lw_p40, List.forall_mem_cons.mpr ⟨lw_p41, List.forall_mem_cons.mpr ⟨lw_p42, List.forall_mem_cons.mpr ⟨lw_p43, List.forall_mem_cons.mpr ⟨lw_p44, List.forall_mem_cons.mpr ⟨lw_p45, List.forall_mem_cons.mpr ⟨lw_p46, List.forall_mem_cons.mpr ⟨lw_p47, fun _ h => absurd h List.not_mem_nil⟩⟩⟩⟩⟩⟩⟩⟩⟩⟩⟩⟩⟩⟩⟩⟩
theorem lw_p48 : lw_okq (⟨"ValueDaysModel", "told", "(Ljava/lang/String;II)I"⟩, 40) := ⟨⟨by decide +kernel, by decide +kernel⟩, List.mem_of_getElem? (i := 1408) (by decide +kernel), List.mem_of_getElem? (i := 1604) (by decide +kernel), List.mem_of_getElem? (i := 1605) (by decide +kernel)⟩
theorem lw_p49 : lw_okq (⟨"ValueDaysModel", "takes", "(II)I"⟩, 40) := ⟨⟨by decide +kernel, by decide +kernel⟩, List.mem_of_getElem? (i := 1408) (by decide +kernel), List.mem_of_getElem? (i := 1608) (by decide +kernel), List.mem_of_getElem? (i := 1609) (by decide +kernel)⟩
theorem lw_p50 : lw_okq (⟨"ValueDaysModel", "readLine", "()V"⟩, 40) := ⟨⟨by decide +kernel, by decide +kernel⟩, List.mem_of_getElem? (i := 1408) (by decide +kernel), List.mem_of_getElem? (i := 1614) (by decide +kernel), List.mem_of_getElem? (i := 1615) (by decide +kernel)⟩
theorem lw_p51 : lw_okq (⟨"ValueDaysModel", "readTier", "()V"⟩, 40) := ⟨⟨by decide +kernel, by decide +kernel⟩, List.mem_of_getElem? (i := 1408) (by decide +kernel), List.mem_of_getElem? (i := 1619) (by decide +kernel), List.mem_of_getElem? (i := 1620) (by decide +kernel)⟩
theorem lw_p52 : lw_okq (⟨"ValueDaysModel", "adds", "(IIIII)V"⟩, 40) := ⟨⟨by decide +kernel, by decide +kernel⟩, List.mem_of_getElem? (i := 1408) (by decide +kernel), List.mem_of_getElem? (i := 1625) (by decide +kernel), List.mem_of_getElem? (i := 1626) (by decide +kernel)⟩
theorem lw_p53 : lw_okq (⟨"ValueDaysModel", "readDebit", "()V"⟩, 40) := ⟨⟨by decide +kernel, by decide +kernel⟩, List.mem_of_getElem? (i := 1408) (by decide +kernel), List.mem_of_getElem? (i := 1630) (by decide +kernel), List.mem_of_getElem? (i := 1631) (by decide +kernel)⟩
theorem lw_p54 : lw_okq (⟨"ValueDaysModel", "readFrom", "()V"⟩, 40) := ⟨⟨by decide +kernel, by decide +kernel⟩, List.mem_of_getElem? (i := 1408) (by decide +kernel), List.mem_of_getElem? (i := 1637) (by decide +kernel), List.mem_of_getElem? (i := 1638) (by decide +kernel)⟩
theorem lw_p55 : lw_okq (⟨"ValueDaysModel", "days", "()I"⟩, 40) := ⟨⟨by decide +kernel, by decide +kernel⟩, List.mem_of_getElem? (i := 1408) (by decide +kernel), List.mem_of_getElem? (i := 1641) (by decide +kernel), List.mem_of_getElem? (i := 1642) (by decide +kernel)⟩
theorem lw_p56 : lw_okq (⟨"ValueDaysModel", "readEntry", "(I)V"⟩, 40) := ⟨⟨by decide +kernel, by decide +kernel⟩, List.mem_of_getElem? (i := 1408) (by decide +kernel), List.mem_of_getElem? (i := 1646) (by decide +kernel), List.mem_of_getElem? (i := 1647) (by decide +kernel)⟩
theorem lw_p57 : lw_okq (⟨"ValueDaysModel", "isOpen", "()Z"⟩, 40) := ⟨⟨by decide +kernel, by decide +kernel⟩, List.mem_of_getElem? (i := 1408) (by decide +kernel), List.mem_of_getElem? (i := 1650) (by decide +kernel), List.mem_of_getElem? (i := 1651) (by decide +kernel)⟩
theorem lw_p58 : lw_okq (⟨"ValueDaysModel", "readClose", "()V"⟩, 40) := ⟨⟨by decide +kernel, by decide +kernel⟩, List.mem_of_getElem? (i := 1408) (by decide +kernel), List.mem_of_getElem? (i := 1656) (by decide +kernel), List.mem_of_getElem? (i := 1657) (by decide +kernel)⟩
theorem lw_p59 : lw_okq (⟨"ValueDaysModel", "readRerun", "()V"⟩, 40) := ⟨⟨by decide +kernel, by decide +kernel⟩, List.mem_of_getElem? (i := 1408) (by decide +kernel), List.mem_of_getElem? (i := 1661) (by decide +kernel), List.mem_of_getElem? (i := 1662) (by decide +kernel)⟩
theorem lw_p60 : lw_okq (⟨"ValueDaysModel", "does", "(I)I"⟩, 40) := ⟨⟨by decide +kernel, by decide +kernel⟩, List.mem_of_getElem? (i := 1408) (by decide +kernel), List.mem_of_getElem? (i := 1665) (by decide +kernel), List.mem_of_getElem? (i := 1666) (by decide +kernel)⟩
theorem lw_p61 : lw_okq (⟨"ValueDaysModel", "changes", "(III)V"⟩, 40) := ⟨⟨by decide +kernel, by decide +kernel⟩, List.mem_of_getElem? (i := 1408) (by decide +kernel), List.mem_of_getElem? (i := 1669) (by decide +kernel), List.mem_of_getElem? (i := 1670) (by decide +kernel)⟩
theorem lw_p62 : lw_okq (⟨"ValueDaysModel", "enters", "(IJII)V"⟩, 40) := ⟨⟨by decide +kernel, by decide +kernel⟩, List.mem_of_getElem? (i := 1408) (by decide +kernel), List.mem_of_getElem? (i := 1673) (by decide +kernel), List.mem_of_getElem? (i := 1674) (by decide +kernel)⟩
theorem lw_p63 : lw_okq (⟨"ValueDaysModel", "closes", "()V"⟩, 40) := ⟨⟨by decide +kernel, by decide +kernel⟩, List.mem_of_getElem? (i := 1408) (by decide +kernel), List.mem_of_getElem? (i := 1677) (by decide +kernel), List.mem_of_getElem? (i := 1678) (by decide +kernel)⟩
def lw_privs_4 : List (MethodName × Nat) := [(⟨"ValueDaysModel", "told", "(Ljava/lang/String;II)I"⟩, 40), (⟨"ValueDaysModel", "takes", "(II)I"⟩, 40), (⟨"ValueDaysModel", "readLine", "()V"⟩, 40), (⟨"ValueDaysModel", "readTier", "()V"⟩, 40), (⟨"ValueDaysModel", "adds", "(IIIII)V"⟩, 40), (⟨"ValueDaysModel", "readDebit", "()V"⟩, 40), (⟨"ValueDaysModel", "readFrom", "()V"⟩, 40), (⟨"ValueDaysModel", "days", "()I"⟩, 40), (⟨"ValueDaysModel", "readEntry", "(I)V"⟩, 40), (⟨"ValueDaysModel", "isOpen", "()Z"⟩, 40), (⟨"ValueDaysModel", "readClose", "()V"⟩, 40), (⟨"ValueDaysModel", "readRerun", "()V"⟩, 40), (⟨"ValueDaysModel", "does", "(I)I"⟩, 40), (⟨"ValueDaysModel", "changes", "(III)V"⟩, 40), (⟨"ValueDaysModel", "enters", "(IJII)V"⟩, 40), (⟨"ValueDaysModel", "closes", "()V"⟩, 40)]
theorem lw_r4 : ∀ q ∈ lw_privs_4, lw_okq q := List.forall_mem_cons.mpr ⟨lw_p48, List.forall_mem_cons.mpr ⟨lw_p49, List.forall_mem_cons.mpr ⟨lw_p50, List.forall_mem_cons.mpr ⟨lw_p51, List.forall_mem_cons.mpr ⟨lw_p52, List.forall_mem_cons.mpr ⟨lw_p53, List.forall_mem_cons.mpr ⟨lw_p54, List.forall_mem_cons.mpr ⟨lw_p55, List.forall_mem_cons.mpr ⟨lw_p56, List.forall_mem_cons.mpr ⟨lw_p57, List.forall_mem_cons.mpr ⟨lw_p58, List.forall_mem_cons.mpr ⟨lw_p59, List.forall_mem_cons.mpr ⟨lw_p60, List.forall_mem_cons.mpr ⟨lw_p61, List.forall_mem_cons.mpr ⟨lw_p62, List.forall_mem_cons.mpr ⟨lw_p63, fun _ h => absurd h List.not_mem_nil⟩⟩⟩⟩⟩⟩⟩⟩⟩⟩⟩⟩⟩⟩⟩⟩
theorem lw_p64 : lw_okq (⟨"ValueDaysModel", "interestOf", "(I)J"⟩, 40) := ⟨⟨by decide +kernel, by decide +kernel⟩, List.mem_of_getElem? (i := 1408) (by decide +kernel), List.mem_of_getElem? (i := 1681) (by decide +kernel), List.mem_of_getElem? (i := 1682) (by decide +kernel)⟩
theorem lw_p65 : lw_okq (⟨"ValueDaysModel", "laysBalances", "()V"⟩, 40) := ⟨⟨by decide +kernel, by decide +kernel⟩, List.mem_of_getElem? (i := 1408) (by decide +kernel), List.mem_of_getElem? (i := 1685) (by decide +kernel), List.mem_of_getElem? (i := 1686) (by decide +kernel)⟩
theorem lw_p66 : lw_okq (⟨"ValueDaysModel", "interestLaid", "(I)J"⟩, 40) := ⟨⟨by decide +kernel, by decide +kernel⟩, List.mem_of_getElem? (i := 1408) (by decide +kernel), List.mem_of_getElem? (i := 1689) (by decide +kernel), List.mem_of_getElem? (i := 1690) (by decide +kernel)⟩
theorem lw_p67 : lw_okq (⟨"ValueDaysModel", "earnedOn", "(I)J"⟩, 40) := ⟨⟨by decide +kernel, by decide +kernel⟩, List.mem_of_getElem? (i := 1408) (by decide +kernel), List.mem_of_getElem? (i := 1693) (by decide +kernel), List.mem_of_getElem? (i := 1694) (by decide +kernel)⟩
theorem lw_p68 : lw_okq (⟨"ValueDaysModel", "partOf", "(II)J"⟩, 40) := ⟨⟨by decide +kernel, by decide +kernel⟩, List.mem_of_getElem? (i := 1408) (by decide +kernel), List.mem_of_getElem? (i := 1697) (by decide +kernel), List.mem_of_getElem? (i := 1698) (by decide +kernel)⟩
theorem lw_p69 : lw_okq (⟨"ValueDaysModel", "holds", "(II)I"⟩, 40) := ⟨⟨by decide +kernel, by decide +kernel⟩, List.mem_of_getElem? (i := 1408) (by decide +kernel), List.mem_of_getElem? (i := 1701) (by decide +kernel), List.mem_of_getElem? (i := 1702) (by decide +kernel)⟩
theorem lw_p70 : lw_okq (⟨"ValueDaysModel", "owedOn", "(I)J"⟩, 40) := ⟨⟨by decide +kernel, by decide +kernel⟩, List.mem_of_getElem? (i := 1408) (by decide +kernel), List.mem_of_getElem? (i := 1708) (by decide +kernel), List.mem_of_getElem? (i := 1709) (by decide +kernel)⟩
theorem lw_p71 : lw_okq (⟨"ValueDaysModel", "compoundingOf", "(I)I"⟩, 40) := ⟨⟨by decide +kernel, by decide +kernel⟩, List.mem_of_getElem? (i := 1408) (by decide +kernel), List.mem_of_getElem? (i := 1719) (by decide +kernel), List.mem_of_getElem? (i := 1720) (by decide +kernel)⟩
theorem lw_p72 : lw_okq (⟨"ValueDaysModel", "reruns", "()I"⟩, 40) := ⟨⟨by decide +kernel, by decide +kernel⟩, List.mem_of_getElem? (i := 1408) (by decide +kernel), List.mem_of_getElem? (i := 1723) (by decide +kernel), List.mem_of_getElem? (i := 1724) (by decide +kernel)⟩
theorem lw_p73 : lw_okq (⟨"ValueDaysModel", "bookedOf", "(I)J"⟩, 40) := ⟨⟨by decide +kernel, by decide +kernel⟩, List.mem_of_getElem? (i := 1408) (by decide +kernel), List.mem_of_getElem? (i := 1727) (by decide +kernel), List.mem_of_getElem? (i := 1728) (by decide +kernel)⟩
theorem lw_p74 : lw_okq (⟨"ValueDaysModel", "paidEntry", "(I)I"⟩, 40) := ⟨⟨by decide +kernel, by decide +kernel⟩, List.mem_of_getElem? (i := 1408) (by decide +kernel), List.mem_of_getElem? (i := 1731) (by decide +kernel), List.mem_of_getElem? (i := 1732) (by decide +kernel)⟩
theorem lw_p75 : lw_okq (⟨"ValueDaysModel", "doesAll", "()V"⟩, 40) := ⟨⟨by decide +kernel, by decide +kernel⟩, List.mem_of_getElem? (i := 1408) (by decide +kernel), List.mem_of_getElem? (i := 1735) (by decide +kernel), List.mem_of_getElem? (i := 1736) (by decide +kernel)⟩
theorem lw_p76 : lw_okq (⟨"ValueDaysModel", "acts", "()I"⟩, 40) := ⟨⟨by decide +kernel, by decide +kernel⟩, List.mem_of_getElem? (i := 1408) (by decide +kernel), List.mem_of_getElem? (i := 1743) (by decide +kernel), List.mem_of_getElem? (i := 1744) (by decide +kernel)⟩
theorem lw_p77 : lw_okq (⟨"ValueDaysModel", "isEntry", "(I)Z"⟩, 40) := ⟨⟨by decide +kernel, by decide +kernel⟩, List.mem_of_getElem? (i := 1408) (by decide +kernel), List.mem_of_getElem? (i := 1751) (by decide +kernel), List.mem_of_getElem? (i := 1752) (by decide +kernel)⟩
theorem lw_p78 : lw_okq (⟨"ValueDaysModel", "isBook", "()Z"⟩, 40) := ⟨⟨by decide +kernel, by decide +kernel⟩, List.mem_of_getElem? (i := 1408) (by decide +kernel), List.mem_of_getElem? (i := 1762) (by decide +kernel), List.mem_of_getElem? (i := 1763) (by decide +kernel)⟩
theorem lw_p79 : lw_okq (⟨"ValueDaysModel", "isTier", "(I)Z"⟩, 40) := ⟨⟨by decide +kernel, by decide +kernel⟩, List.mem_of_getElem? (i := 1408) (by decide +kernel), List.mem_of_getElem? (i := 1770) (by decide +kernel), List.mem_of_getElem? (i := 1771) (by decide +kernel)⟩
def lw_privs_5 : List (MethodName × Nat) := [(⟨"ValueDaysModel", "interestOf", "(I)J"⟩, 40), (⟨"ValueDaysModel", "laysBalances", "()V"⟩, 40), (⟨"ValueDaysModel", "interestLaid", "(I)J"⟩, 40), (⟨"ValueDaysModel", "earnedOn", "(I)J"⟩, 40), (⟨"ValueDaysModel", "partOf", "(II)J"⟩, 40), (⟨"ValueDaysModel", "holds", "(II)I"⟩, 40), (⟨"ValueDaysModel", "owedOn", "(I)J"⟩, 40), (⟨"ValueDaysModel", "compoundingOf", "(I)I"⟩, 40), (⟨"ValueDaysModel", "reruns", "()I"⟩, 40), (⟨"ValueDaysModel", "bookedOf", "(I)J"⟩, 40), (⟨"ValueDaysModel", "paidEntry", "(I)I"⟩, 40), (⟨"ValueDaysModel", "doesAll", "()V"⟩, 40), (⟨"ValueDaysModel", "acts", "()I"⟩, 40), (⟨"ValueDaysModel", "isEntry", "(I)Z"⟩, 40), (⟨"ValueDaysModel", "isBook", "()Z"⟩, 40), (⟨"ValueDaysModel", "isTier", "(I)Z"⟩, 40)]
theorem lw_r5 : ∀ q ∈ lw_privs_5, lw_okq q := List.forall_mem_cons.mpr ⟨lw_p64, List.forall_mem_cons.mpr ⟨lw_p65, List.forall_mem_cons.mpr ⟨lw_p66, List.forall_mem_cons.mpr ⟨lw_p67, List.forall_mem_cons.mpr ⟨lw_p68, List.forall_mem_cons.mpr ⟨lw_p69, List.forall_mem_cons.mpr ⟨lw_p70, List.forall_mem_cons.mpr ⟨lw_p71, List.forall_mem_cons.mpr ⟨lw_p72, List.forall_mem_cons.mpr ⟨lw_p73, List.forall_mem_cons.mpr ⟨lw_p74, List.forall_mem_cons.mpr ⟨lw_p75, List.forall_mem_cons.mpr ⟨lw_p76, List.forall_mem_cons.mpr ⟨lw_p77, List.forall_mem_cons.mpr ⟨lw_p78, List.forall_mem_cons.mpr ⟨lw_p79, fun _ h => absurd h List.not_mem_nil⟩⟩⟩⟩⟩⟩⟩⟩⟩⟩⟩⟩⟩⟩⟩⟩
theorem lw_p80 : lw_okq (⟨"ValueDaysModel", "isDay", "(I)Z"⟩, 40) := ⟨⟨by decide +kernel, by decide +kernel⟩, List.mem_of_getElem? (i := 1408) (by decide +kernel), List.mem_of_getElem? (i := 1774) (by decide +kernel), List.mem_of_getElem? (i := 1775) (by decide +kernel)⟩
theorem lw_p81 : lw_okq (⟨"ValueDaysModel", "isPeriod", "(I)Z"⟩, 40) := ⟨⟨by decide +kernel, by decide +kernel⟩, List.mem_of_getElem? (i := 1408) (by decide +kernel), List.mem_of_getElem? (i := 1798) (by decide +kernel), List.mem_of_getElem? (i := 1799) (by decide +kernel)⟩
theorem lw_p82 : lw_okq (⟨"ValueDaysModel", "wrongOf", "(I)J"⟩, 40) := ⟨⟨by decide +kernel, by decide +kernel⟩, List.mem_of_getElem? (i := 1408) (by decide +kernel), List.mem_of_getElem? (i := 1814) (by decide +kernel), List.mem_of_getElem? (i := 1815) (by decide +kernel)⟩
theorem lw_p83 : lw_okq (⟨"ValueDaysModel", "stepBy", "(I)I"⟩, 40) := ⟨⟨by decide +kernel, by decide +kernel⟩, List.mem_of_getElem? (i := 1408) (by decide +kernel), List.mem_of_getElem? (i := 1835) (by decide +kernel), List.mem_of_getElem? (i := 1836) (by decide +kernel)⟩
theorem lw_p84 : lw_okq (⟨"ValueDaysModel", "isBeyond", "(I)Z"⟩, 40) := ⟨⟨by decide +kernel, by decide +kernel⟩, List.mem_of_getElem? (i := 1408) (by decide +kernel), List.mem_of_getElem? (i := 1851) (by decide +kernel), List.mem_of_getElem? (i := 1852) (by decide +kernel)⟩
theorem lw_p85 : lw_okq (⟨"ValueDaysModel", "causedBy", "(II)J"⟩, 40) := ⟨⟨by decide +kernel, by decide +kernel⟩, List.mem_of_getElem? (i := 1408) (by decide +kernel), List.mem_of_getElem? (i := 1894) (by decide +kernel), List.mem_of_getElem? (i := 1895) (by decide +kernel)⟩
theorem lw_p86 : lw_okq (⟨"ValueDaysModel", "allOf", "()J"⟩, 40) := ⟨⟨by decide +kernel, by decide +kernel⟩, List.mem_of_getElem? (i := 1408) (by decide +kernel), List.mem_of_getElem? (i := 1906) (by decide +kernel), List.mem_of_getElem? (i := 1907) (by decide +kernel)⟩
theorem lw_p87 : lw_okq (⟨"ValueDaysModel", "allMoved", "(II)J"⟩, 40) := ⟨⟨by decide +kernel, by decide +kernel⟩, List.mem_of_getElem? (i := 1408) (by decide +kernel), List.mem_of_getElem? (i := 1918) (by decide +kernel), List.mem_of_getElem? (i := 1919) (by decide +kernel)⟩
theorem lw_p88 : lw_okq (⟨"ValueDaysModel", "isLate", "(II)Z"⟩, 40) := ⟨⟨by decide +kernel, by decide +kernel⟩, List.mem_of_getElem? (i := 1408) (by decide +kernel), List.mem_of_getElem? (i := 1930) (by decide +kernel), List.mem_of_getElem? (i := 1931) (by decide +kernel)⟩
theorem lw_p89 : lw_okq (⟨"ValueDaysModel", "tiltedBy", "(II)J"⟩, 40) := ⟨⟨by decide +kernel, by decide +kernel⟩, List.mem_of_getElem? (i := 1408) (by decide +kernel), List.mem_of_getElem? (i := 1944) (by decide +kernel), List.mem_of_getElem? (i := 1945) (by decide +kernel)⟩
theorem lw_p90 : lw_okq (⟨"ValueDaysModel", "roomFrom", "(I)J"⟩, 40) := ⟨⟨by decide +kernel, by decide +kernel⟩, List.mem_of_getElem? (i := 1408) (by decide +kernel), List.mem_of_getElem? (i := 1960) (by decide +kernel), List.mem_of_getElem? (i := 1961) (by decide +kernel)⟩
theorem lw_p91 : lw_okq (⟨"ValueDaysModel", "allWith", "(II)J"⟩, 40) := ⟨⟨by decide +kernel, by decide +kernel⟩, List.mem_of_getElem? (i := 1408) (by decide +kernel), List.mem_of_getElem? (i := 1974) (by decide +kernel), List.mem_of_getElem? (i := 1975) (by decide +kernel)⟩
theorem lw_p92 : lw_okq (⟨"ValueDaysModel", "settledOf", "()J"⟩, 40) := ⟨⟨by decide +kernel, by decide +kernel⟩, List.mem_of_getElem? (i := 1408) (by decide +kernel), List.mem_of_getElem? (i := 1990) (by decide +kernel), List.mem_of_getElem? (i := 1991) (by decide +kernel)⟩
theorem lw_p93 : lw_okq (⟨"ValueDaysModel", "canPlan", "(II)Z"⟩, 40) := ⟨⟨by decide +kernel, by decide +kernel⟩, List.mem_of_getElem? (i := 1408) (by decide +kernel), List.mem_of_getElem? (i := 2003) (by decide +kernel), List.mem_of_getElem? (i := 2004) (by decide +kernel)⟩
theorem lw_p94 : lw_okq (⟨"ValueDaysModel", "plannedOf", "(III)J"⟩, 40) := ⟨⟨by decide +kernel, by decide +kernel⟩, List.mem_of_getElem? (i := 1408) (by decide +kernel), List.mem_of_getElem? (i := 2008) (by decide +kernel), List.mem_of_getElem? (i := 2009) (by decide +kernel)⟩
theorem lw_p95 : lw_okq (⟨"ValueDaysModel", "paysOff", "()V"⟩, 40) := ⟨⟨by decide +kernel, by decide +kernel⟩, List.mem_of_getElem? (i := 1408) (by decide +kernel), List.mem_of_getElem? (i := 2020) (by decide +kernel), List.mem_of_getElem? (i := 2021) (by decide +kernel)⟩
def lw_privs_6 : List (MethodName × Nat) := [(⟨"ValueDaysModel", "isDay", "(I)Z"⟩, 40), (⟨"ValueDaysModel", "isPeriod", "(I)Z"⟩, 40), (⟨"ValueDaysModel", "wrongOf", "(I)J"⟩, 40), (⟨"ValueDaysModel", "stepBy", "(I)I"⟩, 40), (⟨"ValueDaysModel", "isBeyond", "(I)Z"⟩, 40), (⟨"ValueDaysModel", "causedBy", "(II)J"⟩, 40), (⟨"ValueDaysModel", "allOf", "()J"⟩, 40), (⟨"ValueDaysModel", "allMoved", "(II)J"⟩, 40), (⟨"ValueDaysModel", "isLate", "(II)Z"⟩, 40), (⟨"ValueDaysModel", "tiltedBy", "(II)J"⟩, 40), (⟨"ValueDaysModel", "roomFrom", "(I)J"⟩, 40), (⟨"ValueDaysModel", "allWith", "(II)J"⟩, 40), (⟨"ValueDaysModel", "settledOf", "()J"⟩, 40), (⟨"ValueDaysModel", "canPlan", "(II)Z"⟩, 40), (⟨"ValueDaysModel", "plannedOf", "(III)J"⟩, 40), (⟨"ValueDaysModel", "paysOff", "()V"⟩, 40)]
theorem lw_r6 : ∀ q ∈ lw_privs_6, lw_okq q := List.forall_mem_cons.mpr ⟨lw_p80, List.forall_mem_cons.mpr ⟨lw_p81, List.forall_mem_cons.mpr ⟨lw_p82, List.forall_mem_cons.mpr ⟨lw_p83, List.forall_mem_cons.mpr ⟨lw_p84, List.forall_mem_cons.mpr ⟨lw_p85, List.forall_mem_cons.mpr ⟨lw_p86, List.forall_mem_cons.mpr ⟨lw_p87, List.forall_mem_cons.mpr ⟨lw_p88, List.forall_mem_cons.mpr ⟨lw_p89, List.forall_mem_cons.mpr ⟨lw_p90, List.forall_mem_cons.mpr ⟨lw_p91, List.forall_mem_cons.mpr ⟨lw_p92, List.forall_mem_cons.mpr ⟨lw_p93, List.forall_mem_cons.mpr ⟨lw_p94, List.forall_mem_cons.mpr ⟨lw_p95, fun _ h => absurd h List.not_mem_nil⟩⟩⟩⟩⟩⟩⟩⟩⟩⟩⟩⟩⟩⟩⟩⟩
theorem lw_p96 : lw_okq (⟨"ValueDaysModel", "firstOf", "(I)I"⟩, 40) := ⟨⟨by decide +kernel, by decide +kernel⟩, List.mem_of_getElem? (i := 1408) (by decide +kernel), List.mem_of_getElem? (i := 2024) (by decide +kernel), List.mem_of_getElem? (i := 2025) (by decide +kernel)⟩
theorem lw_p97 : lw_okq (⟨"ValueDaysModel", "isTurned", "(I)Z"⟩, 40) := ⟨⟨by decide +kernel, by decide +kernel⟩, List.mem_of_getElem? (i := 1408) (by decide +kernel), List.mem_of_getElem? (i := 2040) (by decide +kernel), List.mem_of_getElem? (i := 2041) (by decide +kernel)⟩
theorem lw_p98 : lw_okq (⟨"ValueDaysModel", "pays", "(III)I"⟩, 40) := ⟨⟨by decide +kernel, by decide +kernel⟩, List.mem_of_getElem? (i := 1408) (by decide +kernel), List.mem_of_getElem? (i := 2048) (by decide +kernel), List.mem_of_getElem? (i := 2049) (by decide +kernel)⟩
theorem lw_p99 : lw_okq (⟨"ValueDaysModel", "isFull", "()Z"⟩, 40) := ⟨⟨by decide +kernel, by decide +kernel⟩, List.mem_of_getElem? (i := 1408) (by decide +kernel), List.mem_of_getElem? (i := 2052) (by decide +kernel), List.mem_of_getElem? (i := 2053) (by decide +kernel)⟩
theorem lw_p100 : lw_okq (⟨"ValueDaysModel", "act", "(IIII)I"⟩, 40) := ⟨⟨by decide +kernel, by decide +kernel⟩, List.mem_of_getElem? (i := 1408) (by decide +kernel), List.mem_of_getElem? (i := 2056) (by decide +kernel), List.mem_of_getElem? (i := 2057) (by decide +kernel)⟩
def lw_privs_7 : List (MethodName × Nat) := [(⟨"ValueDaysModel", "firstOf", "(I)I"⟩, 40), (⟨"ValueDaysModel", "isTurned", "(I)Z"⟩, 40), (⟨"ValueDaysModel", "pays", "(III)I"⟩, 40), (⟨"ValueDaysModel", "isFull", "()Z"⟩, 40), (⟨"ValueDaysModel", "act", "(IIII)I"⟩, 40)]
theorem lw_r7 : ∀ q ∈ lw_privs_7, lw_okq q := List.forall_mem_cons.mpr ⟨lw_p96, List.forall_mem_cons.mpr ⟨lw_p97, List.forall_mem_cons.mpr ⟨lw_p98, List.forall_mem_cons.mpr ⟨lw_p99, List.forall_mem_cons.mpr ⟨lw_p100, fun _ h => absurd h List.not_mem_nil⟩⟩⟩⟩⟩
def lw_privs : List (MethodName × Nat) := lw_privs_1 ++ (lw_privs_2 ++ (lw_privs_3 ++ (lw_privs_4 ++ (lw_privs_5 ++ (lw_privs_6 ++ (lw_privs_7))))))
def lw_tbl : List Cond := k2_sels lw_privs ++ tables_1
theorem lw_privs_ok : ∀ q ∈ lw_privs, lw_okq q := by
  show ∀ q ∈ lw_privs_1 ++ (lw_privs_2 ++ (lw_privs_3 ++ (lw_privs_4 ++ (lw_privs_5 ++ (lw_privs_6 ++ (lw_privs_7)))))), lw_okq q
  exact List.forall_mem_append.mpr ⟨lw_r1, List.forall_mem_append.mpr ⟨lw_r2, List.forall_mem_append.mpr ⟨lw_r3, List.forall_mem_append.mpr ⟨lw_r4, List.forall_mem_append.mpr ⟨lw_r5, List.forall_mem_append.mpr ⟨lw_r6, lw_r7⟩⟩⟩⟩⟩⟩
end
section
/-! the program as tables: written by wip/whole/gen.py out of the claim; an instruction: as decoded, next, target, operand -/
abbrev mMI : Type := Jvm.ClassFile.Instr × Nat × Nat × Nat
abbrev mRec : Type := Nat × Nat × Nat × Nat × Bool × List Nat × List (List (Nat × mMI))
def kI : Nat → Int32 := fun k => match k with
  | 0 => 20
  | 1 => (-1)
  | 2 => 900
  | 3 => 1
  | 4 => 0
  | 5 => 24
  | 6 => (-8)
  | 7 => (-4)
  | 8 => 2
  | 9 => 48
  | 10 => 100000000
  | 11 => 10
  | 12 => 59
  | 13 => 3
  | 14 => 4
  | 15 => 255
  | 16 => 32
  | 17 => 97
  | 18 => 122
  | 19 => 57
  | 20 => 40
  | 21 => 8
  | 22 => 62
  | 23 => 5000
  | 24 => 99999
  | 25 => 12
  | 26 => 6
  | 27 => 5
  | 28 => 30
  | 29 => 7
  | 30 => 320
  | 31 => 220
  | 32 => (-2)
  | 33 => 1000
  | 34 => (-99999)
  | 35 => (-5000)
  | 36 => 65536
  | 37 => 4096
  | 38 => (-5)
  | 39 => (-6)
  | 40 => 606
  | 41 => 9999999
  | 42 => 63
  | _ => 0
def kL : Nat → Int64 := fun k => match k with
  | 0 => 0
  | 1 => 1800000
  | 2 => 3600000
  | 3 => (-9223372036854775808)
  | 4 => 999999
  | 5 => 99999
  | 6 => 97
  | 7 => 122
  | 8 => 48
  | 9 => 57
  | 10 => 2
  | 11 => 7200000
  | 12 => 5
  | 13 => (-1)
  | 14 => 1
  | 15 => 7
  | 16 => 3
  | 17 => (-99999)
  | 18 => (-5000)
  | 19 => 5000
  | 20 => 9223372036854775807
  | 21 => 4
  | 22 => 8
  | 23 => 6
  | _ => 0
def kIc (k : Nat) (c : Int32 → Prop) : Prop := match k with
  | 0 => c 20
  | 1 => c (-1)
  | 2 => c 900
  | 3 => c 1
  | 4 => c 0
  | 5 => c 24
  | 6 => c (-8)
  | 7 => c (-4)
  | 8 => c 2
  | 9 => c 48
  | 10 => c 100000000
  | 11 => c 10
  | 12 => c 59
  | 13 => c 3
  | 14 => c 4
  | 15 => c 255
  | 16 => c 32
  | 17 => c 97
  | 18 => c 122
  | 19 => c 57
  | 20 => c 40
  | 21 => c 8
  | 22 => c 62
  | 23 => c 5000
  | 24 => c 99999
  | 25 => c 12
  | 26 => c 6
  | 27 => c 5
  | 28 => c 30
  | 29 => c 7
  | 30 => c 320
  | 31 => c 220
  | 32 => c (-2)
  | 33 => c 1000
  | 34 => c (-99999)
  | 35 => c (-5000)
  | 36 => c 65536
  | 37 => c 4096
  | 38 => c (-5)
  | 39 => c (-6)
  | 40 => c 606
  | 41 => c 9999999
  | 42 => c 63
  | _ => c 0
theorem kIc_eq {c : Int32 → Prop} : ∀ {k : Nat}, kIc k c → c (kI k)
  | 0, h => h
  | 1, h => h
  | 2, h => h
  | 3, h => h
  | 4, h => h
  | 5, h => h
  | 6, h => h
  | 7, h => h
  | 8, h => h
  | 9, h => h
  | 10, h => h
  | 11, h => h
  | 12, h => h
  | 13, h => h
  | 14, h => h
  | 15, h => h
  | 16, h => h
  | 17, h => h
  | 18, h => h
  | 19, h => h
  | 20, h => h
  | 21, h => h
  | 22, h => h
  | 23, h => h
  | 24, h => h
  | 25, h => h
  | 26, h => h
  | 27, h => h
  | 28, h => h
  | 29, h => h
  | 30, h => h
  | 31, h => h
  | 32, h => h
  | 33, h => h
  | 34, h => h
  | 35, h => h
  | 36, h => h
  | 37, h => h
  | 38, h => h
  | 39, h => h
  | 40, h => h
  | 41, h => h
  | 42, h => h
  | _ + 43, h => h
def kLc (k : Nat) (c : Int64 → Prop) : Prop := match k with
  | 0 => c 0
  | 1 => c 1800000
  | 2 => c 3600000
  | 3 => c (-9223372036854775808)
  | 4 => c 999999
  | 5 => c 99999
  | 6 => c 97
  | 7 => c 122
  | 8 => c 48
  | 9 => c 57
  | 10 => c 2
  | 11 => c 7200000
  | 12 => c 5
  | 13 => c (-1)
  | 14 => c 1
  | 15 => c 7
  | 16 => c 3
  | 17 => c (-99999)
  | 18 => c (-5000)
  | 19 => c 5000
  | 20 => c 9223372036854775807
  | 21 => c 4
  | 22 => c 8
  | 23 => c 6
  | _ => c 0
theorem kLc_eq {c : Int64 → Prop} : ∀ {k : Nat}, kLc k c → c (kL k)
  | 0, h => h
  | 1, h => h
  | 2, h => h
  | 3, h => h
  | 4, h => h
  | 5, h => h
  | 6, h => h
  | 7, h => h
  | 8, h => h
  | 9, h => h
  | 10, h => h
  | 11, h => h
  | 12, h => h
  | 13, h => h
  | 14, h => h
  | 15, h => h
  | 16, h => h
  | 17, h => h
  | 18, h => h
  | 19, h => h
  | 20, h => h
  | 21, h => h
  | 22, h => h
  | 23, h => h
  | _ + 24, h => h
def kS : Nat → List (Int32 × Nat) × Nat := fun k => match k with
  | 0 => ([(1, 72), (2, 85), (3, 100), (4, 115), (5, 128), (6, 135), (7, 142)], 157)
  | 1 => ([(0, 28), (1, 36)], 44)
  | 2 => ([(0, 56), (1, 64), (2, 72), (3, 80), (4, 91), (5, 102), (6, 113), (7, 121), (8, 129), (9, 137)], 145)
  | 3 => ([(0, 60), (1, 67), (2, 73), (3, 80), (4, 87), (5, 94)], 101)
  | 4 => ([(0, 40), (1, 53), (2, 66)], 80)
  | 5 => ([(0, 84), (1, 91), (2, 99)], 107)
  | 6 => ([(0, 44), (1, 53)], 62)
  | 7 => ([(0, 72), (1, 78), (2, 84), (3, 90), (4, 97), (5, 104), (6, 111), (7, 119)], 126)
  | 8 => ([(0, 44), (1, 53)], 62)
  | 9 => ([(0, 76), (1, 86), (2, 95), (3, 107)], 118)
  | 10 => ([(0, 80), (1, 113), (2, 143), (3, 157), (4, 174), (5, 185)], 190)
  | 11 => ([(0, 56), (1, 63), (2, 70), (3, 77), (4, 82), (5, 87), (6, 92), (7, 97), (8, 102), (9, 109)], 114)
  | 12 => ([(0, 68), (1, 71), (2, 78), (3, 86), (4, 94)], 118)
  | 13 => ([(0, 112), (1, 135), (2, 169), (6, 204), (7, 227)], 243)
  | 14 => ([(0, 304), (1, 367), (2, 390), (3, 403), (4, 426), (5, 449), (6, 483), (7, 506), (8, 539), (9, 572), (10, 596), (11, 630), (12, 654), (13, 688), (14, 712), (15, 736), (16, 760), (17, 783), (18, 817), (19, 850), (20, 863), (21, 886), (22, 900), (23, 913), (24, 926), (25, 960), (26, 974), (27, 998), (28, 1032), (29, 1055), (30, 1089), (31, 1122), (32, 1156), (33, 1180), (34, 1203), (35, 1226), (36, 1259), (37, 1293), (38, 1327), (39, 1350), (40, 1384), (41, 1407), (42, 1420), (43, 1453), (44, 1476), (45, 1489), (46, 1503), (47, 1517), (48, 1541), (49, 1565), (50, 1609), (51, 1642), (52, 1666), (53, 1689), (54, 1702), (55, 1735), (56, 1768), (57, 1791), (58, 1834), (59, 1847), (60, 1860), (61, 1883), (62, 1906), (63, 1919)], 1932)
  | _ => ([], 0)
noncomputable def p_V_feed : mRec := (6, 1, 6, 11, false, [],
  [[(0, (.aload_n 0, 1, 0, 0)), (1, (.getfield 12, 4, 0, 640)), (4, (.bipush 20, 6, 0, 0)), (6, (.invokevirtual 74, 9, 0, 1)), (9, (.ifCond .ne 5, 12, 14, 0)), (12, (.iconst (-1), 13, 0, 1)), (13, (.ireturn, 14, 0, 0)), (14, (.aload_n 0, 15, 0, 0)), (15, (.getfield 12, 18, 0, 640))],
   [(18, (.iload_n 1, 19, 0, 0)), (19, (.invokevirtual 78, 22, 0, 2)), (22, (.aload_n 0, 23, 0, 0)), (23, (.getfield 12, 26, 0, 640)), (26, (.iload_n 2, 27, 0, 0)), (27, (.invokevirtual 78, 30, 0, 2)), (30, (.aload_n 0, 31, 0, 0)), (31, (.getfield 12, 34, 0, 640))],
   [(34, (.iload_n 3, 35, 0, 0)), (35, (.invokevirtual 78, 38, 0, 2)), (38, (.aload_n 0, 39, 0, 0)), (39, (.getfield 12, 42, 0, 640)), (42, (.iload 4, 44, 0, 0)), (44, (.invokevirtual 78, 47, 0, 2)), (47, (.aload_n 0, 48, 0, 0))],
   [(48, (.getfield 12, 51, 0, 640)), (51, (.iload 5, 53, 0, 0)), (53, (.invokevirtual 78, 56, 0, 2)), (56, (.aload_n 0, 57, 0, 0)), (57, (.getfield 12, 60, 0, 640)), (60, (.invokevirtual 82, 63, 0, 3)), (63, (.ireturn, 64, 0, 0))]])
noncomputable def p_Tape_hasRoom : mRec := (2, 3, 2, 7, false, [],
  [[(0, (.aload_n 0, 1, 0, 0)), (1, (.getfield 15, 4, 1, 385)), (4, (.iload_n 1, 5, 0, 0)), (5, (.iadd, 6, 0, 0)), (6, (.sipush 900, 9, 0, 2)), (9, (.if_icmp .gt 7, 12, 16, 0)), (12, (.iconst 1, 13, 0, 3)), (13, (.goto 4, 16, 17, 0))],
   [(16, (.iconst 0, 17, 0, 4)), (17, (.ireturn, 18, 0, 0))]])
noncomputable def p_Tape_addNumber : mRec := (3, 0, 2, 7, false, [3],
  [[(0, (.bipush 24, 2, 0, 5)), (2, (.istore_n 2, 3, 0, 0)), (3, (.iload_n 2, 4, 0, 0)), (4, (.ifCond .lt 42, 7, 46, 0)), (7, (.aload_n 0, 8, 0, 0)), (8, (.getfield 15, 11, 1, 385)), (11, (.sipush 900, 14, 0, 2)), (14, (.if_icmp .ge 26, 17, 40, 0))],
   [(17, (.aload_n 0, 18, 0, 0)), (18, (.getfield 11, 21, 0, 384)), (21, (.aload_n 0, 22, 0, 0)), (22, (.getfield 15, 25, 1, 385)), (25, (.iload_n 1, 26, 0, 0)), (26, (.iload_n 2, 27, 0, 0)), (27, (.ishr, 28, 0, 0)), (28, (.i2b, 29, 0, 0)), (29, (.bastore, 30, 0, 0)), (30, (.aload_n 0, 31, 0, 0)), (31, (.dup, 32, 0, 0))],
   [(32, (.getfield 15, 35, 1, 385)), (35, (.iconst 1, 36, 0, 3)), (36, (.iadd, 37, 0, 0)), (37, (.putfield 15, 40, 1, 385)), (40, (.iinc 2 (-8), 43, 0, 6)), (43, (.goto (-40), 46, 3, 0)), (46, (.return_, 47, 0, 0))]])
noncomputable def p_Tape_length : mRec := (1, 1, 1, 7, false, [],
  [[(0, (.aload_n 0, 1, 0, 0)), (1, (.getfield 15, 4, 1, 385)), (4, (.ireturn, 5, 0, 0))]])
noncomputable def p_V_end : mRec := (2, 1, 2, 11, false, [],
  [[(0, (.iload_n 1, 1, 0, 0)), (1, (.ifCond .lt 14, 4, 15, 0)), (4, (.iload_n 1, 5, 0, 0)), (5, (.aload_n 0, 6, 0, 0)), (6, (.getfield 12, 9, 0, 640)), (9, (.invokevirtual 82, 12, 0, 3)), (12, (.if_icmp .le 5, 15, 17, 0)), (15, (.iconst (-1), 16, 0, 1))],
   [(16, (.ireturn, 17, 0, 0)), (17, (.aload_n 0, 18, 0, 0)), (18, (.getfield 12, 21, 0, 640)), (21, (.iload_n 1, 22, 0, 0)), (22, (.invokevirtual 86, 25, 0, 5)), (25, (.iload_n 1, 26, 0, 0)), (26, (.ireturn, 27, 0, 0))]])
noncomputable def p_Tape_cut : mRec := (2, 0, 2, 7, false, [],
  [[(0, (.iload_n 1, 1, 0, 0)), (1, (.ifCond .lt 16, 4, 17, 0)), (4, (.iload_n 1, 5, 0, 0)), (5, (.aload_n 0, 6, 0, 0)), (6, (.getfield 15, 9, 1, 385)), (9, (.if_icmp .gt 8, 12, 17, 0)), (12, (.aload_n 0, 13, 0, 0)), (13, (.iload_n 1, 14, 0, 0)), (14, (.putfield 15, 17, 1, 385))],
   [(17, (.return_, 18, 0, 0))]])
noncomputable def p_V_book : mRec := (1, 1, 1, 11, false, [],
  [[(0, (.aload_n 0, 1, 0, 0)), (1, (.getfield 23, 4, 1, 641)), (4, (.invokevirtual 89, 7, 0, 7)), (7, (.aload_n 0, 8, 0, 0)), (8, (.getfield 12, 11, 0, 640)), (11, (.iconst 0, 12, 0, 4)), (12, (.invokevirtual 86, 15, 0, 5)), (15, (.aload_n 0, 16, 0, 0))],
   [(16, (.getfield 23, 19, 1, 641)), (19, (.invokevirtual 92, 22, 0, 48)), (22, (.ifCond .eq 6, 25, 28, 0)), (25, (.bipush (-4), 27, 0, 7)), (27, (.ireturn, 28, 0, 0)), (28, (.aload_n 0, 29, 0, 0)), (29, (.getfield 30, 32, 2, 642))],
   [(32, (.aload_n 0, 33, 0, 0)), (33, (.getfield 23, 36, 1, 641)), (36, (.invokevirtual 95, 39, 0, 49)), (39, (.invokevirtual 99, 42, 0, 50)), (42, (.aload_n 0, 43, 0, 0)), (43, (.getfield 41, 46, 4, 644)), (46, (.aload_n 0, 47, 0, 0)), (47, (.getfield 30, 50, 2, 642))],
   [(50, (.aload_n 0, 51, 0, 0)), (51, (.getfield 30, 54, 2, 642)), (54, (.invokevirtual 103, 57, 0, 51)), (57, (.invokevirtual 106, 60, 0, 54)), (60, (.aload_n 0, 61, 0, 0)), (61, (.getfield 30, 64, 2, 642))],
   [(64, (.invokevirtual 110, 67, 0, 19)), (67, (.ireturn, 68, 0, 0))]])
noncomputable def p_Reader_readText : mRec := (2, 0, 1, 5, false, [13],
  [[(0, (.aload_n 0, 1, 0, 0)), (1, (.invokevirtual 38, 4, 0, 8)), (4, (.aload_n 0, 5, 0, 0)), (5, (.getfield 31, 8, 1, 257)), (8, (.invokevirtual 41, 11, 0, 10)), (11, (.iconst 0, 12, 0, 4)), (12, (.istore_n 1, 13, 0, 0)), (13, (.iload_n 1, 14, 0, 0)), (14, (.aload_n 0, 15, 0, 0)), (15, (.getfield 22, 18, 0, 256))],
   [(18, (.invokevirtual 44, 21, 0, 3)), (21, (.if_icmp .ge 20, 24, 41, 0)), (24, (.aload_n 0, 25, 0, 0)), (25, (.invokevirtual 50, 28, 0, 16)), (28, (.ifCond .eq 13, 31, 41, 0)), (31, (.aload_n 0, 32, 0, 0))],
   [(32, (.invokevirtual 54, 35, 0, 18)), (35, (.iinc 1 1, 38, 0, 3)), (38, (.goto (-25), 41, 13, 0)), (41, (.return_, 42, 0, 0))]])
noncomputable def p_Reader_forget : mRec := (1, 0, 1, 5, false, [],
  [[(0, (.aload_n 0, 1, 0, 0)), (1, (.getfield 12, 4, 2, 258)), (4, (.invokevirtual 60, 7, 0, 9)), (7, (.aload_n 0, 8, 0, 0)), (8, (.iconst 0, 9, 0, 4)), (9, (.putfield 35, 12, 3, 259)), (12, (.aload_n 0, 13, 0, 0)), (13, (.iconst (-1), 14, 0, 1)), (14, (.putfield 18, 17, 4, 260))],
   [(17, (.aload_n 0, 18, 0, 0)), (18, (.iconst 0, 19, 0, 4)), (19, (.putfield 63, 22, 5, 261)), (22, (.aload_n 0, 23, 0, 0)), (23, (.iconst 0, 24, 0, 4)), (24, (.putfield 66, 27, 6, 262)), (27, (.aload_n 0, 28, 0, 0)), (28, (.iconst 0, 29, 0, 4)), (29, (.putfield 69, 32, 7, 263))],
   [(32, (.aload_n 0, 33, 0, 0)), (33, (.iconst 0, 34, 0, 4)), (34, (.putfield 72, 37, 8, 264)), (37, (.aload_n 0, 38, 0, 0)), (38, (.iconst 0, 39, 0, 4)), (39, (.putfield 75, 42, 9, 265)), (42, (.aload_n 0, 43, 0, 0)), (43, (.iconst 0, 44, 0, 4)), (44, (.putfield 79, 47, 10, 266)), (47, (.aload_n 0, 48, 0, 0))],
   [(48, (.iconst 0, 49, 0, 4)), (49, (.putfield 82, 52, 11, 267)), (52, (.aload_n 0, 53, 0, 0)), (53, (.iconst 0, 54, 0, 4)), (54, (.putfield 85, 57, 12, 268)), (57, (.aload_n 0, 58, 0, 0)), (58, (.iconst 0, 59, 0, 4)), (59, (.putfield 88, 62, 13, 269)), (62, (.aload_n 0, 63, 0, 0)), (63, (.iconst 0, 64, 0, 4))],
   [(64, (.putfield 91, 67, 14, 270)), (67, (.return_, 68, 0, 0))]])
noncomputable def p_Script_clear : mRec := (1, 0, 1, 6, false, [],
  [[(0, (.aload_n 0, 1, 0, 0)), (1, (.iconst 0, 2, 0, 4)), (2, (.putfield 13, 5, 1, 321)), (5, (.aload_n 0, 6, 0, 0)), (6, (.iconst 0, 7, 0, 4)), (7, (.putfield 17, 10, 2, 322)), (10, (.return_, 11, 0, 0))]])
noncomputable def p_Tokens_begin : mRec := (1, 0, 1, 9, false, [],
  [[(0, (.aload_n 0, 1, 0, 0)), (1, (.iconst 0, 2, 0, 4)), (2, (.putfield 25, 5, 3, 515)), (5, (.aload_n 0, 6, 0, 0)), (6, (.invokevirtual 28, 9, 0, 11)), (9, (.return_, 10, 0, 0))]])
noncomputable def p_Tokens_advance : mRec := (2, 0, 1, 9, false, [8, 107, 171],
  [[(0, (.aload_n 0, 1, 0, 0)), (1, (.aload_n 0, 2, 0, 0)), (2, (.getfield 25, 5, 3, 515)), (5, (.putfield 19, 8, 2, 514)), (8, (.aload_n 0, 9, 0, 0)), (9, (.getfield 19, 12, 2, 514)), (12, (.aload_n 0, 13, 0, 0)), (13, (.getfield 9, 16, 0, 512))],
   [(16, (.invokevirtual 31, 19, 0, 3)), (19, (.if_icmp .ge 33, 22, 52, 0)), (22, (.aload_n 0, 23, 0, 0)), (23, (.getfield 9, 26, 0, 512)), (26, (.aload_n 0, 27, 0, 0)), (27, (.getfield 19, 30, 2, 514)), (30, (.invokevirtual 37, 33, 0, 12))],
   [(33, (.invokestatic 41, 36, 0, 13)), (36, (.ifCond .eq 16, 39, 52, 0)), (39, (.aload_n 0, 40, 0, 0)), (40, (.dup, 41, 0, 0)), (41, (.getfield 19, 44, 2, 514)), (44, (.iconst 1, 45, 0, 3)), (45, (.iadd, 46, 0, 0)), (46, (.putfield 19, 49, 2, 514))],
   [(49, (.goto (-41), 52, 8, 0)), (52, (.aload_n 0, 53, 0, 0)), (53, (.getfield 9, 56, 0, 512)), (56, (.aload_n 0, 57, 0, 0)), (57, (.getfield 19, 60, 2, 514)), (60, (.invokevirtual 37, 63, 0, 12)), (63, (.istore_n 1, 64, 0, 0))],
   [(64, (.aload_n 0, 65, 0, 0)), (65, (.aload_n 0, 66, 0, 0)), (66, (.getfield 19, 69, 2, 514)), (69, (.iconst 1, 70, 0, 3)), (70, (.iadd, 71, 0, 0)), (71, (.putfield 25, 74, 3, 515)), (74, (.iload_n 1, 75, 0, 0)), (75, (.iconst (-1), 76, 0, 1)), (76, (.if_icmp .ne 19, 79, 95, 0)), (79, (.aload_n 0, 80, 0, 0))],
   [(80, (.iconst 0, 81, 0, 4)), (81, (.putfield 15, 84, 1, 513)), (84, (.aload_n 0, 85, 0, 0)), (85, (.aload_n 0, 86, 0, 0)), (86, (.getfield 19, 89, 2, 514)), (89, (.putfield 25, 92, 3, 515)), (92, (.goto 180, 95, 272, 0)), (95, (.iload_n 1, 96, 0, 0))],
   [(96, (.invokestatic 45, 99, 0, 14)), (99, (.ifCond .eq 52, 102, 151, 0)), (102, (.aload_n 0, 103, 0, 0)), (103, (.iconst 1, 104, 0, 3)), (104, (.putfield 15, 107, 1, 513)), (107, (.aload_n 0, 108, 0, 0)), (108, (.getfield 25, 111, 3, 515)), (111, (.aload_n 0, 112, 0, 0))],
   [(112, (.getfield 9, 115, 0, 512)), (115, (.invokevirtual 31, 118, 0, 3)), (118, (.if_icmp .ge 154, 121, 272, 0)), (121, (.aload_n 0, 122, 0, 0)), (122, (.getfield 9, 125, 0, 512)), (125, (.aload_n 0, 126, 0, 0)), (126, (.getfield 25, 129, 3, 515))],
   [(129, (.invokevirtual 37, 132, 0, 12)), (132, (.invokestatic 45, 135, 0, 14)), (135, (.ifCond .eq 137, 138, 272, 0)), (138, (.aload_n 0, 139, 0, 0)), (139, (.dup, 140, 0, 0)), (140, (.getfield 25, 143, 3, 515)), (143, (.iconst 1, 144, 0, 3))],
   [(144, (.iadd, 145, 0, 0)), (145, (.putfield 25, 148, 3, 515)), (148, (.goto (-41), 151, 107, 0)), (151, (.iload_n 1, 152, 0, 0)), (152, (.invokestatic 48, 155, 0, 15)), (155, (.ifCond .eq 102, 158, 257, 0)), (158, (.aload_n 0, 159, 0, 0)), (159, (.iconst 2, 160, 0, 8))],
   [(160, (.putfield 15, 163, 1, 513)), (163, (.aload_n 0, 164, 0, 0)), (164, (.iload_n 1, 165, 0, 0)), (165, (.bipush 48, 167, 0, 9)), (167, (.isub, 168, 0, 0)), (168, (.putfield 22, 171, 4, 516)), (171, (.aload_n 0, 172, 0, 0)), (172, (.getfield 25, 175, 3, 515)), (175, (.aload_n 0, 176, 0, 0))],
   [(176, (.getfield 9, 179, 0, 512)), (179, (.invokevirtual 31, 182, 0, 3)), (182, (.if_icmp .ge 90, 185, 272, 0)), (185, (.aload_n 0, 186, 0, 0)), (186, (.getfield 9, 189, 0, 512)), (189, (.aload_n 0, 190, 0, 0)), (190, (.getfield 25, 193, 3, 515))],
   [(193, (.invokevirtual 37, 196, 0, 12)), (196, (.invokestatic 48, 199, 0, 15)), (199, (.ifCond .eq 73, 202, 272, 0)), (202, (.aload_n 0, 203, 0, 0)), (203, (.aload_n 0, 204, 0, 0)), (204, (.getfield 22, 207, 4, 516)), (207, (.ldc 51, 209, 0, 10))],
   [(209, (.if_icmp .ge 28, 212, 237, 0)), (212, (.aload_n 0, 213, 0, 0)), (213, (.getfield 22, 216, 4, 516)), (216, (.bipush 10, 218, 0, 11)), (218, (.imul, 219, 0, 0)), (219, (.aload_n 0, 220, 0, 0)), (220, (.getfield 9, 223, 0, 512)), (223, (.aload_n 0, 224, 0, 0))],
   [(224, (.getfield 25, 227, 3, 515)), (227, (.invokevirtual 37, 230, 0, 12)), (230, (.iadd, 231, 0, 0)), (231, (.bipush 48, 233, 0, 9)), (233, (.isub, 234, 0, 0)), (234, (.goto 7, 237, 241, 0)), (237, (.aload_n 0, 238, 0, 0)), (238, (.getfield 22, 241, 4, 516))],
   [(241, (.putfield 22, 244, 4, 516)), (244, (.aload_n 0, 245, 0, 0)), (245, (.dup, 246, 0, 0)), (246, (.getfield 25, 249, 3, 515)), (249, (.iconst 1, 250, 0, 3)), (250, (.iadd, 251, 0, 0)), (251, (.putfield 25, 254, 3, 515)), (254, (.goto (-83), 257, 171, 0))],
   [(257, (.aload_n 0, 258, 0, 0)), (258, (.iload_n 1, 259, 0, 0)), (259, (.bipush 59, 261, 0, 12)), (261, (.if_icmp .ne 7, 264, 268, 0)), (264, (.iconst 3, 265, 0, 13)), (265, (.goto 4, 268, 269, 0)), (268, (.iconst 4, 269, 0, 14)), (269, (.putfield 15, 272, 1, 513))],
   [(272, (.return_, 273, 0, 0))]])
noncomputable def p_Tape_byteAt : mRec := (2, 1, 2, 7, false, [],
  [[(0, (.iload_n 1, 1, 0, 0)), (1, (.ifCond .lt 24, 4, 25, 0)), (4, (.iload_n 1, 5, 0, 0)), (5, (.aload_n 0, 6, 0, 0)), (6, (.getfield 15, 9, 1, 385)), (9, (.if_icmp .ge 16, 12, 25, 0)), (12, (.aload_n 0, 13, 0, 0)), (13, (.getfield 11, 16, 0, 384))],
   [(16, (.iload_n 1, 17, 0, 0)), (17, (.baload, 18, 0, 0)), (18, (.sipush 255, 21, 0, 15)), (21, (.iand, 22, 0, 0)), (22, (.goto 4, 25, 26, 0)), (25, (.iconst (-1), 26, 0, 1)), (26, (.ireturn, 27, 0, 0))]])
noncomputable def p_Tokens_isBlank : mRec := (1, 3, 1, 0, false, [],
  [[(0, (.iload_n 0, 1, 0, 0)), (1, (.bipush 32, 3, 0, 16)), (3, (.if_icmp .eq 9, 6, 12, 0)), (6, (.iload_n 0, 7, 0, 0)), (7, (.bipush 10, 9, 0, 11)), (9, (.if_icmp .ne 7, 12, 16, 0)), (12, (.iconst 1, 13, 0, 3)), (13, (.goto 4, 16, 17, 0))],
   [(16, (.iconst 0, 17, 0, 4)), (17, (.ireturn, 18, 0, 0))]])
noncomputable def p_Tokens_isLetter : mRec := (1, 3, 1, 0, false, [],
  [[(0, (.iload_n 0, 1, 0, 0)), (1, (.bipush 97, 3, 0, 17)), (3, (.if_icmp .lt 13, 6, 16, 0)), (6, (.iload_n 0, 7, 0, 0)), (7, (.bipush 122, 9, 0, 18)), (9, (.if_icmp .gt 7, 12, 16, 0)), (12, (.iconst 1, 13, 0, 3)), (13, (.goto 4, 16, 17, 0))],
   [(16, (.iconst 0, 17, 0, 4)), (17, (.ireturn, 18, 0, 0))]])
noncomputable def p_Tokens_isDigit : mRec := (1, 3, 1, 0, false, [],
  [[(0, (.iload_n 0, 1, 0, 0)), (1, (.bipush 48, 3, 0, 9)), (3, (.if_icmp .lt 13, 6, 16, 0)), (6, (.iload_n 0, 7, 0, 0)), (7, (.bipush 57, 9, 0, 19)), (9, (.if_icmp .gt 7, 12, 16, 0)), (12, (.iconst 1, 13, 0, 3)), (13, (.goto 4, 16, 17, 0))],
   [(16, (.iconst 0, 17, 0, 4)), (17, (.ireturn, 18, 0, 0))]])
noncomputable def p_Reader_goesOn : mRec := (1, 3, 1, 5, false, [],
  [[(0, (.aload_n 0, 1, 0, 0)), (1, (.getfield 35, 4, 3, 259)), (4, (.ifCond .ne 17, 7, 21, 0)), (7, (.aload_n 0, 8, 0, 0)), (8, (.getfield 31, 11, 1, 257)), (11, (.invokevirtual 57, 14, 0, 17)), (14, (.ifCond .eq 7, 17, 21, 0))],
   [(17, (.iconst 1, 18, 0, 3)), (18, (.goto 4, 21, 22, 0)), (21, (.iconst 0, 22, 0, 4)), (22, (.ireturn, 23, 0, 0))]])
noncomputable def p_Tokens_kind : mRec := (1, 1, 1, 9, false, [],
  [[(0, (.aload_n 0, 1, 0, 0)), (1, (.getfield 15, 4, 1, 513)), (4, (.ireturn, 5, 0, 0))]])
noncomputable def p_Reader_readLine : mRec := (1, 0, 1, 5, false, [],
  [[(0, (.aload_n 0, 1, 0, 0)), (1, (.getfield 12, 4, 2, 258)), (4, (.invokevirtual 94, 7, 0, 19)), (7, (.ifCond .ne 10, 10, 17, 0)), (10, (.aload_n 0, 11, 0, 0)), (11, (.invokevirtual 97, 14, 0, 20)), (14, (.goto 143, 17, 157, 0))],
   [(17, (.aload_n 0, 18, 0, 0)), (18, (.getfield 31, 21, 1, 257)), (21, (.ldc 100, 23, 0, 1004)), (23, (.invokevirtual 102, 26, 0, 22)), (26, (.ifCond .eq 10, 29, 36, 0)), (29, (.aload_n 0, 30, 0, 0)), (30, (.invokevirtual 106, 33, 0, 41))],
   [(33, (.goto 124, 36, 157, 0)), (36, (.aload_n 0, 37, 0, 0)), (37, (.getfield 31, 40, 1, 257)), (40, (.ldc 109, 42, 0, 1006)), (42, (.invokevirtual 102, 45, 0, 22)), (45, (.ifCond .eq 10, 48, 55, 0))],
   [(48, (.aload_n 0, 49, 0, 0)), (49, (.invokevirtual 111, 52, 0, 42)), (52, (.goto 105, 55, 157, 0)), (55, (.aload_n 0, 56, 0, 0)), (56, (.getfield 31, 59, 1, 257)), (59, (.ldc 114, 61, 0, 1009)), (61, (.invokevirtual 102, 64, 0, 22))],
   [(64, (.ifCond .eq 10, 67, 74, 0)), (67, (.aload_n 0, 68, 0, 0)), (68, (.invokevirtual 116, 71, 0, 43)), (71, (.goto 86, 74, 157, 0)), (74, (.aload_n 0, 75, 0, 0)), (75, (.getfield 31, 78, 1, 257)), (78, (.ldc 119, 80, 0, 1010))],
   [(80, (.invokevirtual 102, 83, 0, 22)), (83, (.ifCond .eq 11, 86, 94, 0)), (86, (.aload_n 0, 87, 0, 0)), (87, (.iconst 1, 88, 0, 3)), (88, (.invokevirtual 121, 91, 0, 45)), (91, (.goto 66, 94, 157, 0)), (94, (.aload_n 0, 95, 0, 0)), (95, (.getfield 31, 98, 1, 257))],
   [(98, (.ldc 125, 100, 0, 1011)), (100, (.invokevirtual 102, 103, 0, 22)), (103, (.ifCond .eq 11, 106, 114, 0)), (106, (.aload_n 0, 107, 0, 0)), (107, (.iconst (-1), 108, 0, 1)), (108, (.invokevirtual 121, 111, 0, 45)), (111, (.goto 46, 114, 157, 0))],
   [(114, (.aload_n 0, 115, 0, 0)), (115, (.getfield 31, 118, 1, 257)), (118, (.ldc 127, 120, 0, 1012)), (120, (.invokevirtual 102, 123, 0, 22)), (123, (.ifCond .eq 10, 126, 133, 0)), (126, (.aload_n 0, 127, 0, 0)), (127, (.invokevirtual 129, 130, 0, 46))],
   [(130, (.goto 27, 133, 157, 0)), (133, (.aload_n 0, 134, 0, 0)), (134, (.getfield 31, 137, 1, 257)), (137, (.ldc 132, 139, 0, 1013)), (139, (.invokevirtual 102, 142, 0, 22)), (142, (.ifCond .eq 10, 145, 152, 0))],
   [(145, (.aload_n 0, 146, 0, 0)), (146, (.invokevirtual 134, 149, 0, 47)), (149, (.goto 8, 152, 157, 0)), (152, (.aload_n 0, 153, 0, 0)), (153, (.iconst 1, 154, 0, 3)), (154, (.invokevirtual 137, 157, 0, 34)), (157, (.return_, 158, 0, 0))]])
noncomputable def p_Script_lines : mRec := (1, 1, 1, 6, false, [],
  [[(0, (.aload_n 0, 1, 0, 0)), (1, (.getfield 13, 4, 1, 321)), (4, (.ireturn, 5, 0, 0))]])
noncomputable def p_Reader_readBook : mRec := (4, 0, 1, 5, false, [],
  [[(0, (.aload_n 0, 1, 0, 0)), (1, (.ldc 140, 3, 0, 1000)), (3, (.invokevirtual 142, 6, 0, 21)), (6, (.aload_n 0, 7, 0, 0)), (7, (.ldc 146, 9, 0, 1001)), (9, (.invokevirtual 142, 12, 0, 21)), (12, (.aload_n 0, 13, 0, 0)), (13, (.iconst 2, 14, 0, 8)), (14, (.bipush 40, 16, 0, 20))],
   [(16, (.invokevirtual 149, 19, 0, 36)), (19, (.istore_n 1, 20, 0, 0)), (20, (.aload_n 0, 21, 0, 0)), (21, (.ldc 153, 23, 0, 1002)), (23, (.invokevirtual 142, 26, 0, 21)), (26, (.aload_n 0, 27, 0, 0)), (27, (.iconst 1, 28, 0, 3)), (28, (.bipush 8, 30, 0, 21)), (30, (.invokevirtual 149, 33, 0, 36))],
   [(33, (.istore_n 2, 34, 0, 0)), (34, (.aload_n 0, 35, 0, 0)), (35, (.ldc 154, 37, 0, 1003)), (37, (.invokevirtual 142, 40, 0, 21)), (40, (.aload_n 0, 41, 0, 0)), (41, (.iconst 1, 42, 0, 3)), (42, (.iconst 4, 43, 0, 14)), (43, (.invokevirtual 149, 46, 0, 36)), (46, (.istore_n 3, 47, 0, 0)), (47, (.aload_n 0, 48, 0, 0))],
   [(48, (.iload_n 1, 49, 0, 0)), (49, (.iload_n 2, 50, 0, 0)), (50, (.imul, 51, 0, 0)), (51, (.putfield 63, 54, 5, 261)), (54, (.aload_n 0, 55, 0, 0)), (55, (.iload_n 2, 56, 0, 0)), (56, (.putfield 66, 59, 6, 262)), (59, (.aload_n 0, 60, 0, 0)), (60, (.iconst 0, 61, 0, 4)), (61, (.iload_n 1, 62, 0, 0)), (62, (.iload_n 2, 63, 0, 0)), (63, (.iload_n 3, 64, 0, 0))],
   [(64, (.invokevirtual 156, 67, 0, 38)), (67, (.return_, 68, 0, 0))]])
noncomputable def p_Reader_takeWord : mRec := (2, 0, 2, 5, false, [],
  [[(0, (.aload_n 0, 1, 0, 0)), (1, (.getfield 35, 4, 3, 259)), (4, (.ifCond .eq 4, 7, 8, 0)), (7, (.return_, 8, 0, 0)), (8, (.aload_n 0, 9, 0, 0)), (9, (.getfield 31, 12, 1, 257)), (12, (.aload_n 1, 13, 0, 0)), (13, (.invokevirtual 102, 16, 0, 22))],
   [(16, (.ifCond .eq 13, 19, 29, 0)), (19, (.aload_n 0, 20, 0, 0)), (20, (.getfield 31, 23, 1, 257)), (23, (.invokevirtual 172, 26, 0, 11)), (26, (.goto 8, 29, 34, 0)), (29, (.aload_n 0, 30, 0, 0)), (30, (.iconst 1, 31, 0, 3)), (31, (.invokevirtual 137, 34, 0, 34))],
   [(34, (.return_, 35, 0, 0))]])
noncomputable def p_Tokens_isWord : mRec := (3, 3, 2, 9, false, [28],
  [[(0, (.aload_n 0, 1, 0, 0)), (1, (.getfield 15, 4, 1, 513)), (4, (.iconst 1, 5, 0, 3)), (5, (.if_icmp .ne 19, 8, 24, 0)), (8, (.aload_n 0, 9, 0, 0)), (9, (.getfield 25, 12, 3, 515)), (12, (.aload_n 0, 13, 0, 0)), (13, (.getfield 19, 16, 2, 514))],
   [(16, (.isub, 17, 0, 0)), (17, (.aload_n 1, 18, 0, 0)), (18, (.invokevirtual 52, 21, 0, 23)), (21, (.if_icmp .eq 5, 24, 26, 0)), (24, (.iconst 0, 25, 0, 4)), (25, (.ireturn, 26, 0, 0)), (26, (.iconst 0, 27, 0, 4)), (27, (.istore_n 2, 28, 0, 0)), (28, (.iload_n 2, 29, 0, 0)), (29, (.aload_n 1, 30, 0, 0)), (30, (.invokevirtual 52, 33, 0, 23))],
   [(33, (.if_icmp .ge 32, 36, 65, 0)), (36, (.aload_n 0, 37, 0, 0)), (37, (.getfield 9, 40, 0, 512)), (40, (.aload_n 0, 41, 0, 0)), (41, (.getfield 19, 44, 2, 514)), (44, (.iload_n 2, 45, 0, 0)), (45, (.iadd, 46, 0, 0)), (46, (.invokevirtual 37, 49, 0, 12))],
   [(49, (.aload_n 1, 50, 0, 0)), (50, (.iload_n 2, 51, 0, 0)), (51, (.invokevirtual 55, 54, 0, 25)), (54, (.if_icmp .eq 5, 57, 59, 0)), (57, (.iconst 0, 58, 0, 4)), (58, (.ireturn, 59, 0, 0)), (59, (.iinc 2 1, 62, 0, 3)), (62, (.goto (-34), 65, 28, 0))],
   [(65, (.iconst 1, 66, 0, 3)), (66, (.ireturn, 67, 0, 0))]])
noncomputable def p_String_length : mRec := (1, 1, 1, 99, false, [],
  [[(0, (.aload_n 0, 1, 0, 0)), (1, (.getfield 9, 4, 0, 10000)), (4, (.arraylength, 5, 0, 0)), (5, (.aload_n 0, 6, 0, 0)), (6, (.invokevirtual 335, 9, 0, 24)), (9, (.ishr, 10, 0, 0)), (10, (.ireturn, 11, 0, 0))]])
noncomputable def p_String_coder : mRec := (1, 4, 1, 99, false, [],
  [[(0, (.getstatic 38, 3, 0, 0)), (3, (.ifCond .eq 10, 6, 13, 0)), (6, (.aload_n 0, 7, 0, 0)), (7, (.getfield 15, 10, 0, 10001)), (10, (.goto 4, 13, 14, 0)), (13, (.iconst 1, 14, 0, 3)), (14, (.ireturn, 15, 0, 0))]])
noncomputable def p_String_charAt : mRec := (2, 5, 2, 99, false, [],
  [[(0, (.aload_n 0, 1, 0, 0)), (1, (.invokevirtual 492, 4, 0, 26)), (4, (.ifCond .eq 12, 7, 16, 0)), (7, (.aload_n 0, 8, 0, 0)), (8, (.getfield 9, 11, 0, 10000)), (11, (.iload_n 1, 12, 0, 0)), (12, (.invokestatic 495, 15, 0, 27)), (15, (.ireturn, 16, 0, 0))],
   [(16, (.aload_n 0, 17, 0, 0)), (17, (.getfield 9, 20, 0, 10000)), (20, (.iload_n 1, 21, 0, 0)), (21, (.invokestatic 498, 24, 0, 30)), (24, (.ireturn, 25, 0, 0))]])
noncomputable def p_String_isLatin1 : mRec := (1, 3, 1, 99, false, [],
  [[(0, (.getstatic 38, 3, 0, 0)), (3, (.ifCond .eq 14, 6, 17, 0)), (6, (.aload_n 0, 7, 0, 0)), (7, (.getfield 15, 10, 0, 10001)), (10, (.ifCond .ne 7, 13, 17, 0)), (13, (.iconst 1, 14, 0, 3)), (14, (.goto 4, 17, 18, 0))],
   [(17, (.iconst 0, 18, 0, 4)), (18, (.ireturn, 19, 0, 0))]])
noncomputable def p_StringLatin1_charAt : mRec := (2, 5, 2, 0, false, [],
  [[(0, (.iload_n 1, 1, 0, 0)), (1, (.aload_n 0, 2, 0, 0)), (2, (.arraylength, 3, 0, 0)), (3, (.invokestatic 9, 6, 0, 28)), (6, (.aload_n 0, 7, 0, 0)), (7, (.iload_n 1, 8, 0, 0)), (8, (.baload, 9, 0, 0)), (9, (.sipush 255, 12, 0, 15)), (12, (.iand, 13, 0, 0)), (13, (.i2c, 14, 0, 0)), (14, (.ireturn, 15, 0, 0))]])
noncomputable def p_String_checkIndex : mRec := (2, 0, 2, 0, false, [],
  [[(0, (.iload_n 0, 1, 0, 0)), (1, (.iload_n 1, 2, 0, 0)), (2, (.getstatic 1053, 5, 0, 1)), (5, (.invokestatic 1059, 8, 0, 29)), (8, (.pop, 9, 0, 0)), (9, (.return_, 10, 0, 0))]])
noncomputable def p_Preconditions_checkIndex : mRec := (3, 1, 3, 0, false, [],
  [[(0, (.iload_n 0, 1, 0, 0)), (1, (.ifCond .lt 8, 4, 9, 0)), (4, (.iload_n 0, 5, 0, 0)), (5, (.iload_n 1, 6, 0, 0)), (6, (.if_icmp .lt 10, 9, 16, 0)), (9, (.aload_n 2, 10, 0, 0)), (10, (.iload_n 0, 11, 0, 0)), (11, (.iload_n 1, 12, 0, 0)), (12, (.invokestatic 95, 15, 0, 9000)), (15, (.athrow, 16, 0, 0))],
   [(16, (.iload_n 0, 17, 0, 0)), (17, (.ireturn, 18, 0, 0))]])
noncomputable def p_StringUTF16_charAt : mRec := (2, 5, 2, 0, false, [],
  [[(0, (.iload_n 1, 1, 0, 0)), (1, (.aload_n 0, 2, 0, 0)), (2, (.invokestatic 67, 5, 0, 31)), (5, (.aload_n 0, 6, 0, 0)), (6, (.iload_n 1, 7, 0, 0)), (7, (.invokestatic 71, 10, 0, 33)), (10, (.ireturn, 11, 0, 0))]])
noncomputable def p_StringUTF16_checkIndex : mRec := (2, 0, 2, 0, false, [],
  [[(0, (.iload_n 0, 1, 0, 0)), (1, (.aload_n 1, 2, 0, 0)), (2, (.invokestatic 48, 5, 0, 32)), (5, (.invokestatic 414, 8, 0, 28)), (8, (.return_, 9, 0, 0))]])
noncomputable def p_StringUTF16_length : mRec := (1, 1, 1, 0, false, [],
  [[(0, (.aload_n 0, 1, 0, 0)), (1, (.arraylength, 2, 0, 0)), (2, (.iconst 1, 3, 0, 3)), (3, (.ishr, 4, 0, 0)), (4, (.ireturn, 5, 0, 0))]])
noncomputable def p_StringUTF16_getChar : mRec := (2, 5, 2, 0, false, [],
  [[(0, (.getstatic 44, 3, 0, 9)), (3, (.ifCond .ne 25, 6, 28, 0)), (6, (.iload_n 1, 7, 0, 0)), (7, (.ifCond .lt 11, 10, 18, 0)), (10, (.iload_n 1, 11, 0, 0)), (11, (.aload_n 0, 12, 0, 0)), (12, (.invokestatic 48, 15, 0, 32)), (15, (.if_icmp .lt 13, 18, 28, 0))],
   [(18, (.new 52, 21, 0, 0)), (21, (.dup, 22, 0, 0)), (22, (.ldc 54, 24, 0, 9999)), (24, (.invokespecial 56, 27, 0, 9000)), (27, (.athrow, 28, 0, 0)), (28, (.iload_n 1, 29, 0, 0)), (29, (.iconst 1, 30, 0, 3)), (30, (.ishl, 31, 0, 0)), (31, (.istore_n 1, 32, 0, 0))],
   [(32, (.aload_n 0, 33, 0, 0)), (33, (.iload_n 1, 34, 0, 0)), (34, (.iinc 1 1, 37, 0, 3)), (37, (.baload, 38, 0, 0)), (38, (.sipush 255, 41, 0, 15)), (41, (.iand, 42, 0, 0)), (42, (.getstatic 59, 45, 0, 9)), (45, (.ishl, 46, 0, 0)), (46, (.aload_n 0, 47, 0, 0)), (47, (.iload_n 1, 48, 0, 0))],
   [(48, (.baload, 49, 0, 0)), (49, (.sipush 255, 52, 0, 15)), (52, (.iand, 53, 0, 0)), (53, (.getstatic 63, 56, 0, 9)), (56, (.ishl, 57, 0, 0)), (57, (.ior, 58, 0, 0)), (58, (.i2c, 59, 0, 0)), (59, (.ireturn, 60, 0, 0))]])
noncomputable def p_Reader_refuse : mRec := (2, 0, 2, 5, false, [],
  [[(0, (.aload_n 0, 1, 0, 0)), (1, (.iload_n 1, 2, 0, 0)), (2, (.putfield 35, 5, 3, 259)), (5, (.aload_n 0, 6, 0, 0)), (6, (.aload_n 0, 7, 0, 0)), (7, (.getfield 31, 10, 1, 257)), (10, (.invokevirtual 181, 13, 0, 35)), (13, (.putfield 18, 16, 4, 260))],
   [(16, (.return_, 17, 0, 0))]])
noncomputable def p_Tokens_start : mRec := (1, 1, 1, 9, false, [],
  [[(0, (.aload_n 0, 1, 0, 0)), (1, (.getfield 19, 4, 2, 514)), (4, (.ireturn, 5, 0, 0))]])
noncomputable def p_Reader_takeNumber : mRec := (4, 1, 3, 5, false, [],
  [[(0, (.aload_n 0, 1, 0, 0)), (1, (.getfield 35, 4, 3, 259)), (4, (.ifCond .eq 5, 7, 9, 0)), (7, (.iconst 0, 8, 0, 4)), (8, (.ireturn, 9, 0, 0)), (9, (.aload_n 0, 10, 0, 0)), (10, (.getfield 31, 13, 1, 257)), (13, (.invokevirtual 175, 16, 0, 37))],
   [(16, (.istore_n 3, 17, 0, 0)), (17, (.aload_n 0, 18, 0, 0)), (18, (.getfield 31, 21, 1, 257)), (21, (.invokevirtual 57, 24, 0, 17)), (24, (.iconst 2, 25, 0, 8)), (25, (.if_icmp .eq 10, 28, 35, 0)), (28, (.aload_n 0, 29, 0, 0)), (29, (.iconst 1, 30, 0, 3)), (30, (.invokevirtual 137, 33, 0, 34))],
   [(33, (.iconst 0, 34, 0, 4)), (34, (.ireturn, 35, 0, 0)), (35, (.iload_n 3, 36, 0, 0)), (36, (.iload_n 1, 37, 0, 0)), (37, (.if_icmp .lt 8, 40, 45, 0)), (40, (.iload_n 3, 41, 0, 0)), (41, (.iload_n 2, 42, 0, 0)), (42, (.if_icmp .le 10, 45, 52, 0)), (45, (.aload_n 0, 46, 0, 0)), (46, (.iconst 2, 47, 0, 8)), (47, (.invokevirtual 137, 50, 0, 34))],
   [(50, (.iconst 0, 51, 0, 4)), (51, (.ireturn, 52, 0, 0)), (52, (.aload_n 0, 53, 0, 0)), (53, (.getfield 31, 56, 1, 257)), (56, (.invokevirtual 172, 59, 0, 11)), (59, (.iload_n 3, 60, 0, 0)), (60, (.ireturn, 61, 0, 0))]])
noncomputable def p_Tokens_number : mRec := (1, 1, 1, 9, false, [],
  [[(0, (.aload_n 0, 1, 0, 0)), (1, (.getfield 22, 4, 4, 516)), (4, (.ireturn, 5, 0, 0))]])
noncomputable def p_Reader_finish : mRec := (5, 0, 5, 5, false, [],
  [[(0, (.aload_n 0, 1, 0, 0)), (1, (.getfield 35, 4, 3, 259)), (4, (.ifCond .eq 4, 7, 8, 0)), (7, (.return_, 8, 0, 0)), (8, (.aload_n 0, 9, 0, 0)), (9, (.getfield 31, 12, 1, 257)), (12, (.invokevirtual 57, 15, 0, 17)), (15, (.iconst 3, 16, 0, 13))],
   [(16, (.if_icmp .ne 25, 19, 41, 0)), (19, (.aload_n 0, 20, 0, 0)), (20, (.getfield 12, 23, 2, 258)), (23, (.iload_n 1, 24, 0, 0)), (24, (.iload_n 2, 25, 0, 0)), (25, (.iload_n 3, 26, 0, 0)), (26, (.iload 4, 28, 0, 0)), (28, (.invokevirtual 178, 31, 0, 39)), (31, (.aload_n 0, 32, 0, 0))],
   [(32, (.getfield 31, 35, 1, 257)), (35, (.invokevirtual 172, 38, 0, 11)), (38, (.goto 8, 41, 46, 0)), (41, (.aload_n 0, 42, 0, 0)), (42, (.iconst 1, 43, 0, 3)), (43, (.invokevirtual 137, 46, 0, 34)), (46, (.return_, 47, 0, 0))]])
noncomputable def p_Script_addLine : mRec := (5, 0, 5, 6, false, [],
  [[(0, (.aload_n 0, 1, 0, 0)), (1, (.getfield 17, 4, 2, 322)), (4, (.ifCond .ne 35, 7, 39, 0)), (7, (.aload_n 0, 8, 0, 0)), (8, (.getfield 13, 11, 1, 321)), (11, (.bipush 62, 13, 0, 22)), (13, (.if_icmp .ge 26, 16, 39, 0))],
   [(16, (.aload_n 0, 17, 0, 0)), (17, (.aload_n 0, 18, 0, 0)), (18, (.getfield 13, 21, 1, 321)), (21, (.iload_n 1, 22, 0, 0)), (22, (.iload_n 2, 23, 0, 0)), (23, (.iload_n 3, 24, 0, 0)), (24, (.iload 4, 26, 0, 0)), (26, (.invokevirtual 28, 29, 0, 40)), (29, (.aload_n 0, 30, 0, 0)), (30, (.dup, 31, 0, 0)), (31, (.getfield 13, 34, 1, 321))],
   [(34, (.iconst 1, 35, 0, 3)), (35, (.iadd, 36, 0, 0)), (36, (.putfield 13, 39, 1, 321)), (39, (.return_, 40, 0, 0))]])
noncomputable def p_Script_put : mRec := (7, 0, 6, 6, false, [],
  [[(0, (.iload_n 1, 1, 0, 0)), (1, (.iconst 4, 2, 0, 14)), (2, (.imul, 3, 0, 0)), (3, (.istore 6, 5, 0, 0)), (5, (.iload 6, 7, 0, 0)), (7, (.ifCond .lt 55, 10, 62, 0)), (10, (.iload 6, 12, 0, 0)), (12, (.iconst 4, 13, 0, 14)), (13, (.iadd, 14, 0, 0)), (14, (.aload_n 0, 15, 0, 0)), (15, (.getfield 9, 18, 0, 320))],
   [(18, (.arraylength, 19, 0, 0)), (19, (.if_icmp .gt 43, 22, 62, 0)), (22, (.aload_n 0, 23, 0, 0)), (23, (.getfield 9, 26, 0, 320)), (26, (.iload 6, 28, 0, 0)), (28, (.iload_n 2, 29, 0, 0)), (29, (.iastore, 30, 0, 0)), (30, (.aload_n 0, 31, 0, 0)), (31, (.getfield 9, 34, 0, 320))],
   [(34, (.iload 6, 36, 0, 0)), (36, (.iconst 1, 37, 0, 3)), (37, (.iadd, 38, 0, 0)), (38, (.iload_n 3, 39, 0, 0)), (39, (.iastore, 40, 0, 0)), (40, (.aload_n 0, 41, 0, 0)), (41, (.getfield 9, 44, 0, 320)), (44, (.iload 6, 46, 0, 0)), (46, (.iconst 2, 47, 0, 8)), (47, (.iadd, 48, 0, 0))],
   [(48, (.iload 4, 50, 0, 0)), (50, (.iastore, 51, 0, 0)), (51, (.aload_n 0, 52, 0, 0)), (52, (.getfield 9, 55, 0, 320)), (55, (.iload 6, 57, 0, 0)), (57, (.iconst 3, 58, 0, 13)), (58, (.iadd, 59, 0, 0)), (59, (.iload 5, 61, 0, 0)), (61, (.iastore, 62, 0, 0)), (62, (.return_, 63, 0, 0))]])
noncomputable def p_Reader_readTier : mRec := (3, 0, 1, 5, false, [],
  [[(0, (.aload_n 0, 1, 0, 0)), (1, (.getfield 69, 4, 7, 263)), (4, (.iconst 4, 5, 0, 14)), (5, (.if_icmp .ge 10, 8, 15, 0)), (8, (.aload_n 0, 9, 0, 0)), (9, (.getfield 75, 12, 9, 265)), (12, (.ifCond .eq 9, 15, 21, 0)), (15, (.aload_n 0, 16, 0, 0))],
   [(16, (.iconst 3, 17, 0, 13)), (17, (.invokevirtual 137, 20, 0, 34)), (20, (.return_, 21, 0, 0)), (21, (.aload_n 0, 22, 0, 0)), (22, (.ldc 100, 24, 0, 1004)), (24, (.invokevirtual 142, 27, 0, 21)), (27, (.aload_n 0, 28, 0, 0)), (28, (.iconst 0, 29, 0, 4)), (29, (.sipush 5000, 32, 0, 23))],
   [(32, (.invokevirtual 149, 35, 0, 36)), (35, (.istore_n 1, 36, 0, 0)), (36, (.iconst (-1), 37, 0, 1)), (37, (.istore_n 2, 38, 0, 0)), (38, (.aload_n 0, 39, 0, 0)), (39, (.getfield 35, 42, 3, 259)), (42, (.ifCond .ne 39, 45, 81, 0)), (45, (.aload_n 0, 46, 0, 0)), (46, (.getfield 31, 49, 1, 257))],
   [(49, (.ldc 162, 51, 0, 1005)), (51, (.invokevirtual 102, 54, 0, 22)), (54, (.ifCond .eq 27, 57, 81, 0)), (57, (.aload_n 0, 58, 0, 0)), (58, (.ldc 162, 60, 0, 1005)), (60, (.invokevirtual 142, 63, 0, 21)), (63, (.aload_n 0, 64, 0, 0))],
   [(64, (.aload_n 0, 65, 0, 0)), (65, (.getfield 72, 68, 8, 264)), (68, (.iconst 1, 69, 0, 3)), (69, (.iadd, 70, 0, 0)), (70, (.ldc 164, 72, 0, 24)), (72, (.invokevirtual 149, 75, 0, 36)), (75, (.istore_n 2, 76, 0, 0)), (76, (.aload_n 0, 77, 0, 0)), (77, (.iload_n 2, 78, 0, 0)), (78, (.putfield 72, 81, 8, 264))],
   [(81, (.aload_n 0, 82, 0, 0)), (82, (.iload_n 2, 83, 0, 0)), (83, (.iconst (-1), 84, 0, 1)), (84, (.if_icmp .ne 7, 87, 91, 0)), (87, (.iconst 1, 88, 0, 3)), (88, (.goto 4, 91, 92, 0)), (91, (.iconst 0, 92, 0, 4)), (92, (.putfield 75, 95, 9, 265)), (95, (.aload_n 0, 96, 0, 0))],
   [(96, (.dup, 97, 0, 0)), (97, (.getfield 69, 100, 7, 263)), (100, (.iconst 1, 101, 0, 3)), (101, (.iadd, 102, 0, 0)), (102, (.putfield 69, 105, 7, 263)), (105, (.aload_n 0, 106, 0, 0)), (106, (.iconst 1, 107, 0, 3)), (107, (.iload_n 1, 108, 0, 0)), (108, (.iload_n 2, 109, 0, 0)), (109, (.iconst 0, 110, 0, 4)), (110, (.invokevirtual 156, 113, 0, 38))],
   [(113, (.return_, 114, 0, 0))]])
noncomputable def p_Reader_readDebit : mRec := (4, 0, 1, 5, false, [],
  [[(0, (.aload_n 0, 1, 0, 0)), (1, (.getfield 79, 4, 10, 266)), (4, (.ifCond .eq 9, 7, 13, 0)), (7, (.aload_n 0, 8, 0, 0)), (8, (.iconst 3, 9, 0, 13)), (9, (.invokevirtual 137, 12, 0, 34)), (12, (.return_, 13, 0, 0)), (13, (.aload_n 0, 14, 0, 0)), (14, (.iconst 1, 15, 0, 3)), (15, (.putfield 79, 18, 10, 266))],
   [(18, (.aload_n 0, 19, 0, 0)), (19, (.ldc 109, 21, 0, 1006)), (21, (.invokevirtual 142, 24, 0, 21)), (24, (.aload_n 0, 25, 0, 0)), (25, (.iconst 0, 26, 0, 4)), (26, (.sipush 5000, 29, 0, 23)), (29, (.invokevirtual 149, 32, 0, 36))],
   [(32, (.istore_n 1, 33, 0, 0)), (33, (.aload_n 0, 34, 0, 0)), (34, (.ldc 165, 36, 0, 1007)), (36, (.invokevirtual 142, 39, 0, 21)), (39, (.aload_n 0, 40, 0, 0)), (40, (.iconst 0, 41, 0, 4)), (41, (.sipush 5000, 44, 0, 23)), (44, (.invokevirtual 149, 47, 0, 36)), (47, (.istore_n 2, 48, 0, 0))],
   [(48, (.aload_n 0, 49, 0, 0)), (49, (.ldc 167, 51, 0, 1008)), (51, (.invokevirtual 142, 54, 0, 21)), (54, (.aload_n 0, 55, 0, 0)), (55, (.iconst 0, 56, 0, 4)), (56, (.ldc 164, 58, 0, 24)), (58, (.invokevirtual 149, 61, 0, 36)), (61, (.istore_n 3, 62, 0, 0)), (62, (.aload_n 0, 63, 0, 0)), (63, (.iconst 2, 64, 0, 8))],
   [(64, (.iload_n 1, 65, 0, 0)), (65, (.iload_n 2, 66, 0, 0)), (66, (.iload_n 3, 67, 0, 0)), (67, (.invokevirtual 156, 70, 0, 38)), (70, (.return_, 71, 0, 0))]])
noncomputable def p_Reader_readFrom : mRec := (4, 0, 1, 5, false, [],
  [[(0, (.aload_n 0, 1, 0, 0)), (1, (.getfield 82, 4, 11, 267)), (4, (.bipush 12, 6, 0, 25)), (6, (.if_icmp .lt 9, 9, 15, 0)), (9, (.aload_n 0, 10, 0, 0)), (10, (.iconst 3, 11, 0, 13)), (11, (.invokevirtual 137, 14, 0, 34)), (14, (.return_, 15, 0, 0)), (15, (.aload_n 0, 16, 0, 0))],
   [(16, (.dup, 17, 0, 0)), (17, (.getfield 82, 20, 11, 267)), (20, (.iconst 1, 21, 0, 3)), (21, (.iadd, 22, 0, 0)), (22, (.putfield 82, 25, 11, 267)), (25, (.aload_n 0, 26, 0, 0)), (26, (.ldc 114, 28, 0, 1009)), (28, (.invokevirtual 142, 31, 0, 21)), (31, (.aload_n 0, 32, 0, 0))],
   [(32, (.iconst 0, 33, 0, 4)), (33, (.aload_n 0, 34, 0, 0)), (34, (.getfield 63, 37, 5, 261)), (37, (.iconst 1, 38, 0, 3)), (38, (.isub, 39, 0, 0)), (39, (.invokevirtual 149, 42, 0, 36)), (42, (.istore_n 1, 43, 0, 0)), (43, (.aload_n 0, 44, 0, 0)), (44, (.invokevirtual 169, 47, 0, 44)), (47, (.istore_n 2, 48, 0, 0))],
   [(48, (.aload_n 0, 49, 0, 0)), (49, (.iconst 0, 50, 0, 4)), (50, (.iload_n 2, 51, 0, 0)), (51, (.bipush 6, 53, 0, 26)), (53, (.if_icmp .ne 8, 56, 61, 0)), (56, (.ldc 164, 58, 0, 24)), (58, (.goto 6, 61, 64, 0)), (61, (.sipush 5000, 64, 0, 23))],
   [(64, (.invokevirtual 149, 67, 0, 36)), (67, (.istore_n 3, 68, 0, 0)), (68, (.aload_n 0, 69, 0, 0)), (69, (.iconst 3, 70, 0, 13)), (70, (.iload_n 1, 71, 0, 0)), (71, (.iload_n 2, 72, 0, 0)), (72, (.iload_n 3, 73, 0, 0)), (73, (.invokevirtual 156, 76, 0, 38)), (76, (.return_, 77, 0, 0))]])
noncomputable def p_Reader_takeWhich : mRec := (1, 1, 1, 5, false, [],
  [[(0, (.aload_n 0, 1, 0, 0)), (1, (.getfield 35, 4, 3, 259)), (4, (.ifCond .ne 33, 7, 37, 0)), (7, (.aload_n 0, 8, 0, 0)), (8, (.getfield 31, 11, 1, 257)), (11, (.ldc 100, 13, 0, 1004)), (13, (.invokevirtual 102, 16, 0, 22))],
   [(16, (.ifCond .eq 21, 19, 37, 0)), (19, (.aload_n 0, 20, 0, 0)), (20, (.ldc 100, 22, 0, 1004)), (22, (.invokevirtual 142, 25, 0, 21)), (25, (.aload_n 0, 26, 0, 0)), (26, (.iconst 0, 27, 0, 4)), (27, (.aload_n 0, 28, 0, 0)), (28, (.getfield 69, 31, 7, 263)), (31, (.iconst 1, 32, 0, 3))],
   [(32, (.isub, 33, 0, 0)), (33, (.invokevirtual 149, 36, 0, 36)), (36, (.ireturn, 37, 0, 0)), (37, (.aload_n 0, 38, 0, 0)), (38, (.getfield 35, 41, 3, 259)), (41, (.ifCond .ne 23, 44, 64, 0)), (44, (.aload_n 0, 45, 0, 0)), (45, (.getfield 31, 48, 1, 257))],
   [(48, (.ldc 109, 50, 0, 1006)), (50, (.invokevirtual 102, 53, 0, 22)), (53, (.ifCond .eq 11, 56, 64, 0)), (56, (.aload_n 0, 57, 0, 0)), (57, (.ldc 109, 59, 0, 1006)), (59, (.invokevirtual 142, 62, 0, 21)), (62, (.iconst 4, 63, 0, 14)), (63, (.ireturn, 64, 0, 0))],
   [(64, (.aload_n 0, 65, 0, 0)), (65, (.getfield 35, 68, 3, 259)), (68, (.ifCond .ne 23, 71, 91, 0)), (71, (.aload_n 0, 72, 0, 0)), (72, (.getfield 31, 75, 1, 257)), (75, (.ldc 165, 77, 0, 1007)), (77, (.invokevirtual 102, 80, 0, 22))],
   [(80, (.ifCond .eq 11, 83, 91, 0)), (83, (.aload_n 0, 84, 0, 0)), (84, (.ldc 165, 86, 0, 1007)), (86, (.invokevirtual 142, 89, 0, 21)), (89, (.iconst 5, 90, 0, 27)), (90, (.ireturn, 91, 0, 0)), (91, (.aload_n 0, 92, 0, 0)), (92, (.ldc 167, 94, 0, 1008)), (94, (.invokevirtual 142, 97, 0, 21))],
   [(97, (.bipush 6, 99, 0, 26)), (99, (.ireturn, 100, 0, 0))]])
noncomputable def p_Reader_readMoney : mRec := (4, 0, 2, 5, false, [],
  [[(0, (.aload_n 0, 1, 0, 0)), (1, (.getfield 85, 4, 12, 268)), (4, (.bipush 30, 6, 0, 28)), (6, (.if_icmp .ge 14, 9, 20, 0)), (9, (.aload_n 0, 10, 0, 0)), (10, (.getfield 88, 13, 13, 269)), (13, (.aload_n 0, 14, 0, 0)), (14, (.getfield 66, 17, 6, 262))],
   [(17, (.if_icmp .lt 9, 20, 26, 0)), (20, (.aload_n 0, 21, 0, 0)), (21, (.iconst 3, 22, 0, 13)), (22, (.invokevirtual 137, 25, 0, 34)), (25, (.return_, 26, 0, 0)), (26, (.aload_n 0, 27, 0, 0)), (27, (.dup, 28, 0, 0)), (28, (.getfield 85, 31, 12, 268)), (31, (.iconst 1, 32, 0, 3))],
   [(32, (.iadd, 33, 0, 0)), (33, (.putfield 85, 36, 12, 268)), (36, (.aload_n 0, 37, 0, 0)), (37, (.iload_n 1, 38, 0, 0)), (38, (.ifCond .le 8, 41, 46, 0)), (41, (.ldc 119, 43, 0, 1010)), (43, (.goto 5, 46, 48, 0)), (46, (.ldc 125, 48, 0, 1011))],
   [(48, (.invokevirtual 142, 51, 0, 21)), (51, (.aload_n 0, 52, 0, 0)), (52, (.iconst 0, 53, 0, 4)), (53, (.aload_n 0, 54, 0, 0)), (54, (.getfield 63, 57, 5, 261)), (57, (.iconst 1, 58, 0, 3)), (58, (.isub, 59, 0, 0)), (59, (.invokevirtual 149, 62, 0, 36)), (62, (.istore_n 2, 63, 0, 0)), (63, (.aload_n 0, 64, 0, 0))],
   [(64, (.iconst 1, 65, 0, 3)), (65, (.ldc 164, 67, 0, 24)), (67, (.invokevirtual 149, 70, 0, 36)), (70, (.istore_n 3, 71, 0, 0)), (71, (.aload_n 0, 72, 0, 0)), (72, (.iconst 4, 73, 0, 14)), (73, (.iload_n 2, 74, 0, 0)), (74, (.iload_n 1, 75, 0, 0)), (75, (.iload_n 3, 76, 0, 0)), (76, (.imul, 77, 0, 0)), (77, (.iconst 0, 78, 0, 4)), (78, (.invokevirtual 156, 81, 0, 38))],
   [(81, (.return_, 82, 0, 0))]])
noncomputable def p_Reader_readClose : mRec := (1, 0, 1, 5, false, [],
  [[(0, (.aload_n 0, 1, 0, 0)), (1, (.getfield 88, 4, 13, 269)), (4, (.aload_n 0, 5, 0, 0)), (5, (.getfield 66, 8, 6, 262)), (8, (.if_icmp .lt 9, 11, 17, 0)), (11, (.aload_n 0, 12, 0, 0)), (12, (.iconst 3, 13, 0, 13)), (13, (.invokevirtual 137, 16, 0, 34))],
   [(16, (.return_, 17, 0, 0)), (17, (.aload_n 0, 18, 0, 0)), (18, (.dup, 19, 0, 0)), (19, (.getfield 88, 22, 13, 269)), (22, (.iconst 1, 23, 0, 3)), (23, (.iadd, 24, 0, 0)), (24, (.putfield 88, 27, 13, 269)), (27, (.aload_n 0, 28, 0, 0)), (28, (.ldc 127, 30, 0, 1012)), (30, (.invokevirtual 142, 33, 0, 21))],
   [(33, (.aload_n 0, 34, 0, 0)), (34, (.iconst 5, 35, 0, 27)), (35, (.iconst 0, 36, 0, 4)), (36, (.iconst 0, 37, 0, 4)), (37, (.iconst 0, 38, 0, 4)), (38, (.invokevirtual 156, 41, 0, 38)), (41, (.return_, 42, 0, 0))]])
noncomputable def p_Reader_readRerun : mRec := (1, 0, 1, 5, false, [],
  [[(0, (.aload_n 0, 1, 0, 0)), (1, (.getfield 91, 4, 14, 270)), (4, (.bipush 6, 6, 0, 26)), (6, (.if_icmp .ge 14, 9, 20, 0)), (9, (.aload_n 0, 10, 0, 0)), (10, (.getfield 88, 13, 13, 269)), (13, (.aload_n 0, 14, 0, 0)), (14, (.getfield 66, 17, 6, 262))],
   [(17, (.if_icmp .lt 9, 20, 26, 0)), (20, (.aload_n 0, 21, 0, 0)), (21, (.iconst 3, 22, 0, 13)), (22, (.invokevirtual 137, 25, 0, 34)), (25, (.return_, 26, 0, 0)), (26, (.aload_n 0, 27, 0, 0)), (27, (.dup, 28, 0, 0)), (28, (.getfield 91, 31, 14, 270)), (31, (.iconst 1, 32, 0, 3))],
   [(32, (.iadd, 33, 0, 0)), (33, (.putfield 91, 36, 14, 270)), (36, (.aload_n 0, 37, 0, 0)), (37, (.ldc 132, 39, 0, 1013)), (39, (.invokevirtual 142, 42, 0, 21)), (42, (.aload_n 0, 43, 0, 0)), (43, (.bipush 6, 45, 0, 26)), (45, (.iconst 0, 46, 0, 4)), (46, (.iconst 0, 47, 0, 4)), (47, (.iconst 0, 48, 0, 4))],
   [(48, (.invokevirtual 156, 51, 0, 38)), (51, (.return_, 52, 0, 0))]])
noncomputable def p_Reader_faultKind : mRec := (1, 1, 1, 5, false, [],
  [[(0, (.aload_n 0, 1, 0, 0)), (1, (.getfield 35, 4, 3, 259)), (4, (.ireturn, 5, 0, 0))]])
noncomputable def p_Reader_draft : mRec := (1, 6, 1, 5, false, [],
  [[(0, (.aload_n 0, 1, 0, 0)), (1, (.getfield 12, 4, 2, 258)), (4, (.areturn, 5, 0, 0))]])
noncomputable def p_Script_copyFrom : mRec := (2, 0, 2, 6, false, [],
  [[(0, (.aload_n 1, 1, 0, 0)), (1, (.getfield 9, 4, 0, 320)), (4, (.iconst 0, 5, 0, 4)), (5, (.aload_n 0, 6, 0, 0)), (6, (.getfield 9, 9, 0, 320)), (9, (.iconst 0, 10, 0, 4)), (10, (.aload_n 0, 11, 0, 0)), (11, (.getfield 9, 14, 0, 320)), (14, (.arraylength, 15, 0, 0)), (15, (.invokestatic 32, 18, 0, 9001))],
   [(18, (.aload_n 0, 19, 0, 0)), (19, (.aload_n 1, 20, 0, 0)), (20, (.getfield 13, 23, 1, 321)), (23, (.putfield 13, 26, 1, 321)), (26, (.aload_n 0, 27, 0, 0)), (27, (.aload_n 1, 28, 0, 0)), (28, (.getfield 17, 31, 2, 322)), (31, (.putfield 17, 34, 2, 322))],
   [(34, (.return_, 35, 0, 0))]])
noncomputable def p_Script_cycle : mRec := (1, 1, 1, 6, false, [],
  [[(0, (.aload_n 0, 1, 0, 0)), (1, (.iconst 0, 2, 0, 4)), (2, (.iconst 3, 3, 0, 13)), (3, (.invokevirtual 24, 6, 0, 52)), (6, (.ireturn, 7, 0, 0))]])
noncomputable def p_Script_told : mRec := (3, 1, 3, 6, false, [],
  [[(0, (.iload_n 1, 1, 0, 0)), (1, (.ifCond .lt 20, 4, 21, 0)), (4, (.iload_n 1, 5, 0, 0)), (5, (.aload_n 0, 6, 0, 0)), (6, (.invokevirtual 20, 9, 0, 53)), (9, (.if_icmp .ge 12, 12, 21, 0)), (12, (.iload_n 2, 13, 0, 0)), (13, (.ifCond .lt 8, 16, 21, 0))],
   [(16, (.iload_n 2, 17, 0, 0)), (17, (.iconst 4, 18, 0, 14)), (18, (.if_icmp .lt 5, 21, 23, 0)), (21, (.iconst 0, 22, 0, 4)), (22, (.ireturn, 23, 0, 0)), (23, (.aload_n 0, 24, 0, 0)), (24, (.getfield 9, 27, 0, 320)), (27, (.iload_n 1, 28, 0, 0)), (28, (.iconst 4, 29, 0, 14)), (29, (.imul, 30, 0, 0)), (30, (.iload_n 2, 31, 0, 0)), (31, (.iadd, 32, 0, 0))],
   [(32, (.iaload, 33, 0, 0)), (33, (.ireturn, 34, 0, 0))]])
noncomputable def p_Script_size : mRec := (1, 1, 1, 6, false, [],
  [[(0, (.aload_n 0, 1, 0, 0)), (1, (.getfield 13, 4, 1, 321)), (4, (.aload_n 0, 5, 0, 0)), (5, (.getfield 17, 8, 2, 322)), (8, (.iadd, 9, 0, 0)), (9, (.ireturn, 10, 0, 0))]])
noncomputable def p_Ledger_replay : mRec := (4, 0, 3, 3, false, [54],
  [[(0, (.aload_n 0, 1, 0, 0)), (1, (.getfield 12, 4, 0, 128)), (4, (.invokevirtual 45, 7, 0, 55)), (7, (.aload_n 0, 8, 0, 0)), (8, (.getfield 21, 11, 1, 129)), (11, (.invokevirtual 48, 14, 0, 57)), (14, (.aload_n 0, 15, 0, 0)), (15, (.getfield 25, 18, 2, 130))],
   [(18, (.lconst 0, 19, 0, 0)), (19, (.invokestatic 49, 22, 0, 58)), (22, (.aload_n 0, 23, 0, 0)), (23, (.iconst 0, 24, 0, 4)), (24, (.putfield 42, 27, 7, 135)), (27, (.aload_n 0, 28, 0, 0)), (28, (.aload_n 1, 29, 0, 0)), (29, (.iconst 0, 30, 0, 4)), (30, (.iconst 1, 31, 0, 3)), (31, (.invokevirtual 55, 34, 0, 52))],
   [(34, (.putfield 32, 37, 4, 132)), (37, (.aload_n 0, 38, 0, 0)), (38, (.aload_n 1, 39, 0, 0)), (39, (.iconst 0, 40, 0, 4)), (40, (.iconst 2, 41, 0, 8)), (41, (.invokevirtual 55, 44, 0, 52)), (44, (.putfield 36, 47, 5, 133)), (47, (.aload_n 0, 48, 0, 0))],
   [(48, (.iload_n 2, 49, 0, 0)), (49, (.putfield 39, 52, 6, 134)), (52, (.iconst 1, 53, 0, 3)), (53, (.istore_n 3, 54, 0, 0)), (54, (.iload_n 3, 55, 0, 0)), (55, (.aload_n 1, 56, 0, 0)), (56, (.invokevirtual 61, 59, 0, 53)), (59, (.if_icmp .ge 15, 62, 74, 0)), (62, (.aload_n 0, 63, 0, 0)), (63, (.aload_n 1, 64, 0, 0))],
   [(64, (.iload_n 3, 65, 0, 0)), (65, (.invokevirtual 65, 68, 0, 59)), (68, (.iinc 3 1, 71, 0, 3)), (71, (.goto (-17), 74, 54, 0)), (74, (.return_, 75, 0, 0))]])
noncomputable def p_Terms_clear : mRec := (2, 0, 1, 8, false, [12],
  [[(0, (.aload_n 0, 1, 0, 0)), (1, (.iconst 0, 2, 0, 4)), (2, (.putfield 28, 5, 4, 452)), (5, (.aload_n 0, 6, 0, 0)), (6, (.iconst 0, 7, 0, 4)), (7, (.putfield 32, 10, 5, 453)), (10, (.iconst 0, 11, 0, 4)), (11, (.istore_n 1, 12, 0, 0)), (12, (.iload_n 1, 13, 0, 0)), (13, (.bipush 7, 15, 0, 29)), (15, (.if_icmp .ge 19, 18, 34, 0))],
   [(18, (.aload_n 0, 19, 0, 0)), (19, (.getfield 15, 22, 0, 448)), (22, (.iload_n 1, 23, 0, 0)), (23, (.aaload, 24, 0, 0)), (24, (.iconst 0, 25, 0, 4)), (25, (.invokestatic 35, 28, 0, 56)), (28, (.iinc 1 1, 31, 0, 3)), (31, (.goto (-19), 34, 12, 0))],
   [(34, (.return_, 35, 0, 0))]])
noncomputable def p_Arrays_fill : mRec := (4, 0, 2, 0, false, [5],
  [[(0, (.iconst 0, 1, 0, 4)), (1, (.istore_n 2, 2, 0, 0)), (2, (.aload_n 0, 3, 0, 0)), (3, (.arraylength, 4, 0, 0)), (4, (.istore_n 3, 5, 0, 0)), (5, (.iload_n 2, 6, 0, 0)), (6, (.iload_n 3, 7, 0, 0)), (7, (.if_icmp .ge 13, 10, 20, 0)), (10, (.aload_n 0, 11, 0, 0)), (11, (.iload_n 2, 12, 0, 0)), (12, (.iload_n 1, 13, 0, 0)), (13, (.iastore, 14, 0, 0)), (14, (.iinc 2 1, 17, 0, 3))],
   [(17, (.goto (-12), 20, 5, 0)), (20, (.return_, 21, 0, 0))]])
noncomputable def p_Entries_clear : mRec := (1, 0, 1, 2, false, [],
  [[(0, (.aload_n 0, 1, 0, 0)), (1, (.iconst 0, 2, 0, 4)), (2, (.putfield 31, 5, 6, 70)), (5, (.return_, 6, 0, 0))]])
noncomputable def p_Arrays_fill2 : mRec := (5, 0, 2, 0, false, [6],
  [[(0, (.iconst 0, 1, 0, 4)), (1, (.istore_n 3, 2, 0, 0)), (2, (.aload_n 0, 3, 0, 0)), (3, (.arraylength, 4, 0, 0)), (4, (.istore 4, 6, 0, 0)), (6, (.iload_n 3, 7, 0, 0)), (7, (.iload 4, 9, 0, 0)), (9, (.if_icmp .ge 13, 12, 22, 0)), (12, (.aload_n 0, 13, 0, 0)), (13, (.iload_n 3, 14, 0, 0)), (14, (.lload_n 1, 15, 0, 0)), (15, (.lastore, 16, 0, 0))],
   [(16, (.iinc 3 1, 19, 0, 3)), (19, (.goto (-13), 22, 6, 0)), (22, (.return_, 23, 0, 0))]])
noncomputable def p_Ledger_perform : mRec := (6, 0, 3, 3, false, [],
  [[(0, (.aload_n 1, 1, 0, 0)), (1, (.iload_n 2, 2, 0, 0)), (2, (.iconst 1, 3, 0, 3)), (3, (.invokevirtual 55, 6, 0, 52)), (6, (.istore_n 3, 7, 0, 0)), (7, (.aload_n 1, 8, 0, 0)), (8, (.iload_n 2, 9, 0, 0)), (9, (.iconst 2, 10, 0, 8)), (10, (.invokevirtual 55, 13, 0, 52)), (13, (.istore 4, 15, 0, 0)), (15, (.aload_n 1, 16, 0, 0))],
   [(16, (.iload_n 2, 17, 0, 0)), (17, (.iconst 3, 18, 0, 13)), (18, (.invokevirtual 55, 21, 0, 52)), (21, (.istore 5, 23, 0, 0)), (23, (.aload_n 1, 24, 0, 0)), (24, (.iload_n 2, 25, 0, 0)), (25, (.iconst 0, 26, 0, 4)), (26, (.invokevirtual 55, 29, 0, 52)), (29, (.tableswitch 128 1 7 #[43, 56, 71, 86, 99, 106, 113], 72, 0, 0))],
   [],
   [],
   [(72, (.aload_n 0, 73, 0, 0)), (73, (.getfield 12, 76, 0, 128)), (76, (.iload_n 3, 77, 0, 0)), (77, (.iload 4, 79, 0, 0)), (79, (.invokevirtual 69, 82, 0, 60))],
   [(82, (.goto 75, 85, 157, 0)), (85, (.aload_n 0, 86, 0, 0)), (86, (.getfield 12, 89, 0, 128)), (89, (.iload_n 3, 90, 0, 0)), (90, (.iload 4, 92, 0, 0)), (92, (.iload 5, 94, 0, 0)), (94, (.invokevirtual 73, 97, 0, 62))],
   [(97, (.goto 60, 100, 157, 0)), (100, (.aload_n 0, 101, 0, 0)), (101, (.getfield 12, 104, 0, 128)), (104, (.iload_n 3, 105, 0, 0)), (105, (.iload 4, 107, 0, 0)), (107, (.iload 5, 109, 0, 0)), (109, (.invokevirtual 77, 112, 0, 63))],
   [(112, (.goto 45, 115, 157, 0)), (115, (.aload_n 0, 116, 0, 0)), (116, (.iconst 0, 117, 0, 4)), (117, (.iload 4, 119, 0, 0)), (119, (.i2l, 120, 0, 0)), (120, (.iload_n 3, 121, 0, 0)), (121, (.iconst (-1), 122, 0, 1)), (122, (.invokevirtual 80, 125, 0, 64)), (125, (.goto 32, 128, 157, 0))],
   [(128, (.aload_n 0, 129, 0, 0)), (129, (.invokevirtual 84, 132, 0, 68)), (132, (.goto 25, 135, 157, 0)), (135, (.aload_n 0, 136, 0, 0)), (136, (.invokevirtual 87, 139, 0, 77)), (139, (.goto 18, 142, 157, 0)), (142, (.aload_n 0, 143, 0, 0)), (143, (.aload_n 0, 144, 0, 0))],
   [(144, (.getfield 21, 147, 1, 129)), (147, (.iload_n 3, 148, 0, 0)), (148, (.invokevirtual 90, 151, 0, 81)), (151, (.invokevirtual 94, 154, 0, 82)), (154, (.goto 3, 157, 157, 0)), (157, (.return_, 158, 0, 0))]])
noncomputable def p_Terms_addTier : mRec := (3, 0, 3, 8, false, [],
  [[(0, (.aload_n 0, 1, 0, 0)), (1, (.getfield 28, 4, 4, 452)), (4, (.iconst 4, 5, 0, 14)), (5, (.if_icmp .ge 33, 8, 38, 0)), (8, (.aload_n 0, 9, 0, 0)), (9, (.getfield 18, 12, 1, 449)), (12, (.aload_n 0, 13, 0, 0)), (13, (.getfield 28, 16, 4, 452))],
   [(16, (.iload_n 2, 17, 0, 0)), (17, (.iastore, 18, 0, 0)), (18, (.aload_n 0, 19, 0, 0)), (19, (.aload_n 0, 20, 0, 0)), (20, (.getfield 28, 23, 4, 452)), (23, (.iconst (-1), 24, 0, 1)), (24, (.iload_n 1, 25, 0, 0)), (25, (.invokevirtual 41, 28, 0, 61)), (28, (.aload_n 0, 29, 0, 0)), (29, (.dup, 30, 0, 0)), (30, (.getfield 28, 33, 4, 452))],
   [(33, (.iconst 1, 34, 0, 3)), (34, (.iadd, 35, 0, 0)), (35, (.putfield 28, 38, 4, 452)), (38, (.return_, 39, 0, 0))]])
noncomputable def p_Terms_spread : mRec := (6, 0, 4, 8, false, [8, 77],
  [[(0, (.sipush 320, 3, 0, 30)), (3, (.istore 4, 5, 0, 0)), (5, (.iconst 0, 6, 0, 4)), (6, (.istore 5, 8, 0, 0)), (8, (.iload 5, 10, 0, 0)), (10, (.aload_n 0, 11, 0, 0)), (11, (.getfield 32, 14, 5, 453)), (14, (.if_icmp .ge 45, 17, 59, 0))],
   [(17, (.aload_n 0, 18, 0, 0)), (18, (.getfield 25, 21, 3, 451)), (21, (.iload 5, 23, 0, 0)), (23, (.iaload, 24, 0, 0)), (24, (.iload_n 1, 25, 0, 0)), (25, (.if_icmp .ne 28, 28, 53, 0)), (28, (.aload_n 0, 29, 0, 0)), (29, (.getfield 22, 32, 2, 450))],
   [(32, (.iload 5, 34, 0, 0)), (34, (.iaload, 35, 0, 0)), (35, (.iload_n 2, 36, 0, 0)), (36, (.if_icmp .le 17, 39, 53, 0)), (39, (.iload 4, 41, 0, 0)), (41, (.aload_n 0, 42, 0, 0)), (42, (.getfield 22, 45, 2, 450)), (45, (.iload 5, 47, 0, 0)), (47, (.iaload, 48, 0, 0))],
   [(48, (.invokestatic 45, 51, 0, 9003)), (51, (.istore 4, 53, 0, 0)), (53, (.iinc 5 1, 56, 0, 3)), (56, (.goto (-48), 59, 8, 0)), (59, (.iload_n 1, 60, 0, 0)), (60, (.ifCond .lt 9, 63, 69, 0)), (63, (.iload_n 1, 64, 0, 0))],
   [(64, (.bipush 7, 66, 0, 29)), (66, (.if_icmp .lt 4, 69, 70, 0)), (69, (.return_, 70, 0, 0)), (70, (.iconst 0, 71, 0, 4)), (71, (.iload_n 2, 72, 0, 0)), (72, (.invokestatic 51, 75, 0, 9002)), (75, (.istore 5, 77, 0, 0)), (77, (.iload 5, 79, 0, 0)), (79, (.iload 4, 81, 0, 0))],
   [(81, (.if_icmp .ge 19, 84, 100, 0)), (84, (.aload_n 0, 85, 0, 0)), (85, (.getfield 15, 88, 0, 448)), (88, (.iload_n 1, 89, 0, 0)), (89, (.aaload, 90, 0, 0)), (90, (.iload 5, 92, 0, 0)), (92, (.iload_n 3, 93, 0, 0)), (93, (.iastore, 94, 0, 0)), (94, (.iinc 5 1, 97, 0, 3))],
   [(97, (.goto (-20), 100, 77, 0)), (100, (.return_, 101, 0, 0))]])
noncomputable def p_Terms_tellDebit : mRec := (4, 0, 4, 8, false, [],
  [[(0, (.aload_n 0, 1, 0, 0)), (1, (.iconst 4, 2, 0, 14)), (2, (.iconst (-1), 3, 0, 1)), (3, (.iload_n 1, 4, 0, 0)), (4, (.invokevirtual 41, 7, 0, 61)), (7, (.aload_n 0, 8, 0, 0)), (8, (.iconst 5, 9, 0, 27)), (9, (.iconst (-1), 10, 0, 1)), (10, (.iload_n 2, 11, 0, 0)), (11, (.invokevirtual 41, 14, 0, 61)), (14, (.aload_n 0, 15, 0, 0)), (15, (.bipush 6, 17, 0, 26))],
   [(17, (.iconst (-1), 18, 0, 1)), (18, (.iload_n 3, 19, 0, 0)), (19, (.invokevirtual 41, 22, 0, 61)), (22, (.return_, 23, 0, 0))]])
noncomputable def p_Terms_addChange : mRec := (4, 0, 4, 8, false, [],
  [[(0, (.aload_n 0, 1, 0, 0)), (1, (.getfield 32, 4, 5, 453)), (4, (.bipush 32, 6, 0, 16)), (6, (.if_icmp .ge 40, 9, 46, 0)), (9, (.aload_n 0, 10, 0, 0)), (10, (.iload_n 2, 11, 0, 0)), (11, (.iload_n 1, 12, 0, 0)), (12, (.iload_n 3, 13, 0, 0)), (13, (.invokevirtual 41, 16, 0, 61))],
   [(16, (.aload_n 0, 17, 0, 0)), (17, (.getfield 22, 20, 2, 450)), (20, (.aload_n 0, 21, 0, 0)), (21, (.getfield 32, 24, 5, 453)), (24, (.iload_n 1, 25, 0, 0)), (25, (.iastore, 26, 0, 0)), (26, (.aload_n 0, 27, 0, 0)), (27, (.getfield 25, 30, 3, 451)), (30, (.aload_n 0, 31, 0, 0)), (31, (.getfield 32, 34, 5, 453))],
   [(34, (.iload_n 2, 35, 0, 0)), (35, (.iastore, 36, 0, 0)), (36, (.aload_n 0, 37, 0, 0)), (37, (.dup, 38, 0, 0)), (38, (.getfield 32, 41, 5, 453)), (41, (.iconst 1, 42, 0, 3)), (42, (.iadd, 43, 0, 0)), (43, (.putfield 32, 46, 5, 453)), (46, (.return_, 47, 0, 0))]])
noncomputable def p_Ledger_addEntry : mRec := (6, 0, 5, 3, false, [],
  [[(0, (.aload_n 0, 1, 0, 0)), (1, (.getfield 21, 4, 1, 129)), (4, (.iload_n 1, 5, 0, 0)), (5, (.lload_n 2, 6, 0, 0)), (6, (.iload 4, 8, 0, 0)), (8, (.aload_n 0, 9, 0, 0)), (9, (.getfield 42, 12, 7, 135)), (12, (.iload 5, 14, 0, 0)), (14, (.invokevirtual 98, 17, 0, 65))],
   [(17, (.aload_n 0, 18, 0, 0)), (18, (.aload_n 0, 19, 0, 0)), (19, (.getfield 25, 22, 2, 130)), (22, (.iload 4, 24, 0, 0)), (24, (.lload_n 2, 25, 0, 0)), (25, (.invokevirtual 102, 28, 0, 66)), (28, (.return_, 29, 0, 0))]])
noncomputable def p_Entries_add : mRec := (8, 0, 6, 2, false, [70],
  [[(0, (.aload_n 0, 1, 0, 0)), (1, (.getfield 31, 4, 6, 70)), (4, (.sipush 220, 7, 0, 31)), (7, (.if_icmp .lt 4, 10, 11, 0)), (10, (.return_, 11, 0, 0)), (11, (.aload_n 0, 12, 0, 0)), (12, (.getfield 11, 15, 0, 64)), (15, (.aload_n 0, 16, 0, 0))],
   [(16, (.getfield 31, 19, 6, 70)), (19, (.iload_n 1, 20, 0, 0)), (20, (.iastore, 21, 0, 0)), (21, (.aload_n 0, 22, 0, 0)), (22, (.getfield 15, 25, 1, 65)), (25, (.aload_n 0, 26, 0, 0)), (26, (.getfield 31, 29, 6, 70)), (29, (.lload_n 2, 30, 0, 0)), (30, (.lastore, 31, 0, 0)), (31, (.aload_n 0, 32, 0, 0))],
   [(32, (.getfield 19, 35, 2, 66)), (35, (.aload_n 0, 36, 0, 0)), (36, (.getfield 31, 39, 6, 70)), (39, (.iload 4, 41, 0, 0)), (41, (.iastore, 42, 0, 0)), (42, (.aload_n 0, 43, 0, 0)), (43, (.getfield 22, 46, 3, 67)), (46, (.aload_n 0, 47, 0, 0)), (47, (.getfield 31, 50, 6, 70))],
   [(50, (.iload 5, 52, 0, 0)), (52, (.iastore, 53, 0, 0)), (53, (.aload_n 0, 54, 0, 0)), (54, (.getfield 25, 57, 4, 68)), (57, (.aload_n 0, 58, 0, 0)), (58, (.getfield 31, 61, 6, 70)), (61, (.iload 6, 63, 0, 0)), (63, (.iastore, 64, 0, 0))],
   [(64, (.aload_n 0, 65, 0, 0)), (65, (.getfield 31, 68, 6, 70)), (68, (.istore 7, 70, 0, 0)), (70, (.iload 7, 72, 0, 0)), (72, (.ifCond .le 44, 75, 116, 0)), (75, (.aload_n 0, 76, 0, 0)), (76, (.getfield 19, 79, 2, 66)), (79, (.aload_n 0, 80, 0, 0))],
   [(80, (.getfield 28, 83, 5, 69)), (83, (.iload 7, 85, 0, 0)), (85, (.iconst 1, 86, 0, 3)), (86, (.isub, 87, 0, 0)), (87, (.iaload, 88, 0, 0)), (88, (.iaload, 89, 0, 0)), (89, (.iload 4, 91, 0, 0)), (91, (.if_icmp .le 25, 94, 116, 0)), (94, (.aload_n 0, 95, 0, 0)), (95, (.getfield 28, 98, 5, 69))],
   [(98, (.iload 7, 100, 0, 0)), (100, (.aload_n 0, 101, 0, 0)), (101, (.getfield 28, 104, 5, 69)), (104, (.iload 7, 106, 0, 0)), (106, (.iconst 1, 107, 0, 3)), (107, (.isub, 108, 0, 0)), (108, (.iaload, 109, 0, 0)), (109, (.iastore, 110, 0, 0)), (110, (.iinc 7 (-1), 113, 0, 1))],
   [(113, (.goto (-43), 116, 70, 0)), (116, (.aload_n 0, 117, 0, 0)), (117, (.getfield 28, 120, 5, 69)), (120, (.iload 7, 122, 0, 0)), (122, (.aload_n 0, 123, 0, 0)), (123, (.getfield 31, 126, 6, 70)), (126, (.iastore, 127, 0, 0)), (127, (.aload_n 0, 128, 0, 0))],
   [(128, (.dup, 129, 0, 0)), (129, (.getfield 31, 132, 6, 70)), (132, (.iconst 1, 133, 0, 3)), (133, (.iadd, 134, 0, 0)), (134, (.putfield 31, 137, 6, 70)), (137, (.return_, 138, 0, 0))]])
noncomputable def p_Ledger_shift : mRec := (7, 0, 4, 3, false, [18],
  [[(0, (.aload_n 1, 1, 0, 0)), (1, (.arraylength, 2, 0, 0)), (2, (.aload_n 0, 3, 0, 0)), (3, (.invokevirtual 167, 6, 0, 67)), (6, (.invokestatic 145, 9, 0, 9003)), (9, (.istore 5, 11, 0, 0)), (11, (.iconst 0, 12, 0, 4)), (12, (.iload_n 2, 13, 0, 0)), (13, (.invokestatic 150, 16, 0, 9002))],
   [(16, (.istore 6, 18, 0, 0)), (18, (.iload 6, 20, 0, 0)), (20, (.iload 5, 22, 0, 0)), (22, (.if_icmp .ge 17, 25, 39, 0)), (25, (.aload_n 1, 26, 0, 0)), (26, (.iload 6, 28, 0, 0)), (28, (.dup2, 29, 0, 0)), (29, (.laload, 30, 0, 0)), (30, (.lload_n 3, 31, 0, 0)), (31, (.ladd, 32, 0, 0))],
   [(32, (.lastore, 33, 0, 0)), (33, (.iinc 6 1, 36, 0, 3)), (36, (.goto (-18), 39, 18, 0)), (39, (.return_, 40, 0, 0))]])
noncomputable def p_Ledger_days : mRec := (1, 1, 1, 3, false, [],
  [[(0, (.aload_n 0, 1, 0, 0)), (1, (.getfield 32, 4, 4, 132)), (4, (.aload_n 0, 5, 0, 0)), (5, (.getfield 36, 8, 5, 133)), (8, (.imul, 9, 0, 0)), (9, (.ireturn, 10, 0, 0))]])
noncomputable def p_Ledger_closeOpen : mRec := (3, 0, 1, 3, false, [],
  [[(0, (.aload_n 0, 1, 0, 0)), (1, (.invokevirtual 106, 4, 0, 69)), (4, (.ifCond .eq 49, 7, 53, 0)), (7, (.aload_n 0, 8, 0, 0)), (8, (.aload_n 0, 9, 0, 0)), (9, (.getfield 25, 12, 2, 130)), (12, (.aload_n 0, 13, 0, 0)), (13, (.getfield 42, 16, 7, 135))],
   [(16, (.iconst 0, 17, 0, 4)), (17, (.lconst 0, 18, 0, 0)), (18, (.invokevirtual 110, 21, 0, 70)), (21, (.invokestatic 114, 24, 0, 75)), (24, (.lstore_n 1, 25, 0, 0)), (25, (.aload_n 0, 26, 0, 0)), (26, (.iconst 1, 27, 0, 3)), (27, (.lload_n 1, 28, 0, 0)), (28, (.aload_n 0, 29, 0, 0)), (29, (.aload_n 0, 30, 0, 0)), (30, (.getfield 42, 33, 7, 135))],
   [(33, (.invokevirtual 118, 36, 0, 76)), (36, (.aload_n 0, 37, 0, 0)), (37, (.getfield 42, 40, 7, 135)), (40, (.invokevirtual 80, 43, 0, 64)), (43, (.aload_n 0, 44, 0, 0)), (44, (.dup, 45, 0, 0)), (45, (.getfield 42, 48, 7, 135))],
   [(48, (.iconst 1, 49, 0, 3)), (49, (.iadd, 50, 0, 0)), (50, (.putfield 42, 53, 7, 135)), (53, (.return_, 54, 0, 0))]])
noncomputable def p_Ledger_hasOpen : mRec := (1, 3, 1, 3, false, [],
  [[(0, (.aload_n 0, 1, 0, 0)), (1, (.getfield 42, 4, 7, 135)), (4, (.aload_n 0, 5, 0, 0)), (5, (.getfield 36, 8, 5, 133)), (8, (.if_icmp .ge 7, 11, 15, 0)), (11, (.iconst 1, 12, 0, 3)), (12, (.goto 4, 15, 16, 0)), (15, (.iconst 0, 16, 0, 4))],
   [(16, (.ireturn, 17, 0, 0))]])
noncomputable def p_Ledger_productsOf : mRec := (12, 2, 5, 3, false, [31],
  [[(0, (.lconst 0, 1, 0, 0)), (1, (.lstore 6, 3, 0, 0)), (3, (.aload_n 1, 4, 0, 0)), (4, (.arraylength, 5, 0, 0)), (5, (.aload_n 0, 6, 0, 0)), (6, (.iload_n 2, 7, 0, 0)), (7, (.invokevirtual 142, 10, 0, 71)), (10, (.aload_n 0, 11, 0, 0)), (11, (.getfield 32, 14, 4, 132)), (14, (.iadd, 15, 0, 0)), (15, (.invokestatic 145, 18, 0, 9003))],
   [(18, (.istore 8, 20, 0, 0)), (20, (.iconst 0, 21, 0, 4)), (21, (.aload_n 0, 22, 0, 0)), (22, (.iload_n 2, 23, 0, 0)), (23, (.invokevirtual 142, 26, 0, 71)), (26, (.invokestatic 150, 29, 0, 9002)), (29, (.istore 9, 31, 0, 0)), (31, (.iload 9, 33, 0, 0))],
   [(33, (.iload 8, 35, 0, 0)), (35, (.if_icmp .ge 59, 38, 94, 0)), (38, (.iload 9, 40, 0, 0)), (40, (.iload_n 3, 41, 0, 0)), (41, (.if_icmp .ge 10, 44, 51, 0)), (44, (.aload_n 1, 45, 0, 0)), (45, (.iload 9, 47, 0, 0)), (47, (.laload, 48, 0, 0))],
   [(48, (.goto 10, 51, 58, 0)), (51, (.aload_n 1, 52, 0, 0)), (52, (.iload 9, 54, 0, 0)), (54, (.laload, 55, 0, 0)), (55, (.lload 4, 57, 0, 0)), (57, (.ladd, 58, 0, 0)), (58, (.lstore 10, 60, 0, 0)), (60, (.lload 6, 62, 0, 0)), (62, (.aload_n 0, 63, 0, 0)), (63, (.getfield 12, 66, 0, 128))],
   [(66, (.iload 9, 68, 0, 0)), (68, (.lload 10, 70, 0, 0)), (70, (.invokevirtual 153, 73, 0, 72)), (73, (.aload_n 0, 74, 0, 0)), (74, (.getfield 12, 77, 0, 128)), (77, (.iload 9, 79, 0, 0)), (79, (.lload 10, 81, 0, 0))],
   [(81, (.invokevirtual 157, 84, 0, 73)), (84, (.lsub, 85, 0, 0)), (85, (.ladd, 86, 0, 0)), (86, (.lstore 6, 88, 0, 0)), (88, (.iinc 9 1, 91, 0, 3)), (91, (.goto (-60), 94, 31, 0)), (94, (.lload 6, 96, 0, 0))],
   [(96, (.lreturn, 97, 0, 0))]])
noncomputable def p_Ledger_firstDay : mRec := (2, 1, 2, 3, false, [],
  [[(0, (.iload_n 1, 1, 0, 0)), (1, (.aload_n 0, 2, 0, 0)), (2, (.getfield 32, 5, 4, 132)), (5, (.imul, 6, 0, 0)), (6, (.ireturn, 7, 0, 0))]])
noncomputable def p_Terms_credit : mRec := (11, 2, 3, 8, false, [22],
  [[(0, (.iload_n 1, 1, 0, 0)), (1, (.ifCond .lt 10, 4, 11, 0)), (4, (.iload_n 1, 5, 0, 0)), (5, (.sipush 320, 8, 0, 30)), (8, (.if_icmp .lt 5, 11, 13, 0)), (11, (.lconst 0, 12, 0, 0)), (12, (.lreturn, 13, 0, 0)), (13, (.lconst 0, 14, 0, 0)), (14, (.lstore 4, 16, 0, 0))],
   [(16, (.lconst 0, 17, 0, 0)), (17, (.lstore 6, 19, 0, 0)), (19, (.iconst 0, 20, 0, 4)), (20, (.istore 8, 22, 0, 0)), (22, (.iload 8, 24, 0, 0)), (24, (.aload_n 0, 25, 0, 0)), (25, (.getfield 28, 28, 4, 452)), (28, (.if_icmp .ge 79, 31, 107, 0)), (31, (.lload 6, 33, 0, 0))],
   [(33, (.lload_n 2, 34, 0, 0)), (34, (.lcmp, 38, 107, 3)), (35, (.ifCond .ge 72, 38, 107, 0)), (38, (.aload_n 0, 39, 0, 0)), (39, (.getfield 18, 42, 1, 449)), (42, (.iload 8, 44, 0, 0)), (44, (.iaload, 45, 0, 0)), (45, (.iconst (-1), 46, 0, 1)), (46, (.if_icmp .eq 16, 49, 62, 0))],
   [(49, (.aload_n 0, 50, 0, 0)), (50, (.getfield 18, 53, 1, 449)), (53, (.iload 8, 55, 0, 0)), (55, (.iaload, 56, 0, 0)), (56, (.i2l, 57, 0, 0)), (57, (.lload_n 2, 58, 0, 0)), (58, (.lcmp, 62, 66, 5)), (59, (.ifCond .le 7, 62, 66, 0)), (62, (.lload_n 2, 63, 0, 0)), (63, (.goto 11, 66, 74, 0))],
   [(66, (.aload_n 0, 67, 0, 0)), (67, (.getfield 18, 70, 1, 449)), (70, (.iload 8, 72, 0, 0)), (72, (.iaload, 73, 0, 0)), (73, (.i2l, 74, 0, 0)), (74, (.lstore 9, 76, 0, 0)), (76, (.lload 4, 78, 0, 0)), (78, (.lload 9, 80, 0, 0))],
   [(80, (.lload 6, 82, 0, 0)), (82, (.lsub, 83, 0, 0)), (83, (.aload_n 0, 84, 0, 0)), (84, (.getfield 15, 87, 0, 448)), (87, (.iload 8, 89, 0, 0)), (89, (.aaload, 90, 0, 0)), (90, (.iload_n 1, 91, 0, 0)), (91, (.iaload, 92, 0, 0)), (92, (.i2l, 93, 0, 0)), (93, (.lmul, 94, 0, 0)), (94, (.ladd, 95, 0, 0)), (95, (.lstore 4, 97, 0, 0))],
   [(97, (.lload 9, 99, 0, 0)), (99, (.lstore 6, 101, 0, 0)), (101, (.iinc 8 1, 104, 0, 3)), (104, (.goto (-82), 107, 22, 0)), (107, (.lload 4, 109, 0, 0)), (109, (.lreturn, 110, 0, 0))]])
noncomputable def p_Terms_debt : mRec := (4, 2, 3, 8, false, [],
  [[(0, (.iload_n 1, 1, 0, 0)), (1, (.ifCond .lt 10, 4, 11, 0)), (4, (.iload_n 1, 5, 0, 0)), (5, (.sipush 320, 8, 0, 30)), (8, (.if_icmp .lt 7, 11, 15, 0)), (11, (.lconst 0, 12, 0, 0)), (12, (.goto 18, 15, 30, 0)), (15, (.aload_n 0, 16, 0, 0))],
   [(16, (.aload_n 0, 17, 0, 0)), (17, (.getfield 15, 20, 0, 448)), (20, (.bipush 6, 22, 0, 26)), (22, (.aaload, 23, 0, 0)), (23, (.iload_n 1, 24, 0, 0)), (24, (.iaload, 25, 0, 0)), (25, (.iload_n 1, 26, 0, 0)), (26, (.lload_n 2, 27, 0, 0)), (27, (.invokevirtual 66, 30, 0, 74)), (30, (.lreturn, 31, 0, 0))]])
noncomputable def p_Terms_debtBy : mRec := (9, 2, 4, 8, false, [],
  [[(0, (.lload_n 3, 1, 0, 0)), (1, (.lconst 0, 2, 0, 0)), (2, (.lcmp, 6, 17, 3)), (3, (.ifCond .ge 14, 6, 17, 0)), (6, (.iload_n 2, 7, 0, 0)), (7, (.ifCond .lt 10, 10, 17, 0)), (10, (.iload_n 2, 11, 0, 0)), (11, (.sipush 320, 14, 0, 30)), (14, (.if_icmp .lt 5, 17, 19, 0))],
   [(17, (.lconst 0, 18, 0, 0)), (18, (.lreturn, 19, 0, 0)), (19, (.lload_n 3, 20, 0, 0)), (20, (.lneg, 21, 0, 0)), (21, (.lstore 5, 23, 0, 0)), (23, (.lload 5, 25, 0, 0)), (25, (.iload_n 1, 26, 0, 0)), (26, (.i2l, 27, 0, 0)), (27, (.lcmp, 31, 36, 3)), (28, (.ifCond .ge 8, 31, 36, 0)), (31, (.lload 5, 33, 0, 0))],
   [(33, (.goto 5, 36, 38, 0)), (36, (.iload_n 1, 37, 0, 0)), (37, (.i2l, 38, 0, 0)), (38, (.lstore 7, 40, 0, 0)), (40, (.lload 7, 42, 0, 0)), (42, (.aload_n 0, 43, 0, 0)), (43, (.getfield 15, 46, 0, 448)), (46, (.iconst 4, 47, 0, 14)), (47, (.aaload, 48, 0, 0))],
   [(48, (.iload_n 2, 49, 0, 0)), (49, (.iaload, 50, 0, 0)), (50, (.i2l, 51, 0, 0)), (51, (.lmul, 52, 0, 0)), (52, (.lload 5, 54, 0, 0)), (54, (.lload 7, 56, 0, 0)), (56, (.lsub, 57, 0, 0)), (57, (.aload_n 0, 58, 0, 0)), (58, (.getfield 15, 61, 0, 448)), (61, (.iconst 5, 62, 0, 27)), (62, (.aaload, 63, 0, 0)), (63, (.iload_n 2, 64, 0, 0))],
   [(64, (.iaload, 65, 0, 0)), (65, (.i2l, 66, 0, 0)), (66, (.lmul, 67, 0, 0)), (67, (.ladd, 68, 0, 0)), (68, (.lreturn, 69, 0, 0))]])
noncomputable def p_Ledger_nearest : mRec := (4, 2, 1, 0, false, [],
  [[(0, (.lload_n 0, 1, 0, 0)), (1, (.invokestatic 160, 4, 0, 9006)), (4, (.ldc2_w 163, 7, 0, 1)), (7, (.ladd, 8, 0, 0)), (8, (.ldc2_w 165, 11, 0, 2)), (11, (.ldiv, 12, 0, 0)), (12, (.lstore_n 2, 13, 0, 0)), (13, (.lload_n 0, 14, 0, 0)), (14, (.lconst 0, 15, 0, 0)), (15, (.lcmp, 19, 24, 3))],
   [(16, (.ifCond .ge 8, 19, 24, 0)), (19, (.lload_n 2, 20, 0, 0)), (20, (.lneg, 21, 0, 0)), (21, (.goto 4, 24, 25, 0)), (24, (.lload_n 2, 25, 0, 0)), (25, (.lreturn, 26, 0, 0))]])
noncomputable def p_Ledger_compoundingDay : mRec := (2, 1, 2, 3, false, [],
  [[(0, (.aload_n 0, 1, 0, 0)), (1, (.getfield 39, 4, 6, 134)), (4, (.iconst 1, 5, 0, 3)), (5, (.if_icmp .ge 7, 8, 12, 0)), (8, (.iconst 0, 9, 0, 4)), (9, (.goto 21, 12, 30, 0)), (12, (.aload_n 0, 13, 0, 0)), (13, (.getfield 32, 16, 4, 132))],
   [(16, (.aload_n 0, 17, 0, 0)), (17, (.getfield 39, 20, 6, 134)), (20, (.imul, 21, 0, 0)), (21, (.iload_n 1, 22, 0, 0)), (22, (.aload_n 0, 23, 0, 0)), (23, (.getfield 39, 26, 6, 134)), (26, (.idiv, 27, 0, 0)), (27, (.iconst 1, 28, 0, 3)), (28, (.iadd, 29, 0, 0)), (29, (.imul, 30, 0, 0)), (30, (.ireturn, 31, 0, 0))]])
noncomputable def p_Ledger_runAnew : mRec := (4, 0, 1, 3, false, [2],
  [[(0, (.iconst 0, 1, 0, 4)), (1, (.istore_n 1, 2, 0, 0)), (2, (.iload_n 1, 3, 0, 0)), (3, (.aload_n 0, 4, 0, 0)), (4, (.getfield 42, 7, 7, 135)), (7, (.if_icmp .ge 51, 10, 58, 0)), (10, (.aload_n 0, 11, 0, 0)), (11, (.aload_n 0, 12, 0, 0)), (12, (.getfield 25, 15, 2, 130)), (15, (.iload_n 1, 16, 0, 0))],
   [(16, (.iconst 0, 17, 0, 4)), (17, (.lconst 0, 18, 0, 0)), (18, (.invokevirtual 110, 21, 0, 70)), (21, (.invokestatic 114, 24, 0, 75)), (24, (.aload_n 0, 25, 0, 0)), (25, (.getfield 21, 28, 1, 129)), (28, (.iload_n 1, 29, 0, 0)), (29, (.invokevirtual 121, 32, 0, 78))],
   [(32, (.lsub, 33, 0, 0)), (33, (.lstore_n 2, 34, 0, 0)), (34, (.lload_n 2, 35, 0, 0)), (35, (.lconst 0, 36, 0, 0)), (36, (.lcmp, 40, 52, 0)), (37, (.ifCond .eq 15, 40, 52, 0)), (40, (.aload_n 0, 41, 0, 0)), (41, (.iconst 2, 42, 0, 8)), (42, (.lload_n 2, 43, 0, 0)), (43, (.aload_n 0, 44, 0, 0)), (44, (.iload_n 1, 45, 0, 0)), (45, (.invokevirtual 118, 48, 0, 76))],
   [(48, (.iload_n 1, 49, 0, 0)), (49, (.invokevirtual 80, 52, 0, 64)), (52, (.iinc 1 1, 55, 0, 3)), (55, (.goto (-53), 58, 2, 0)), (58, (.return_, 59, 0, 0))]])
noncomputable def p_Entries_interestBooked : mRec := (5, 2, 2, 2, false, [5],
  [[(0, (.lconst 0, 1, 0, 0)), (1, (.lstore_n 2, 2, 0, 0)), (2, (.iconst 0, 3, 0, 4)), (3, (.istore 4, 5, 0, 0)), (5, (.iload 4, 7, 0, 0)), (7, (.aload_n 0, 8, 0, 0)), (8, (.getfield 31, 11, 6, 70)), (11, (.if_icmp .ge 39, 14, 50, 0)), (14, (.aload_n 0, 15, 0, 0)), (15, (.getfield 25, 18, 4, 68))],
   [(18, (.iload 4, 20, 0, 0)), (20, (.iaload, 21, 0, 0)), (21, (.iload_n 1, 22, 0, 0)), (22, (.if_icmp .ne 22, 25, 44, 0)), (25, (.aload_n 0, 26, 0, 0)), (26, (.iload 4, 28, 0, 0)), (28, (.invokevirtual 39, 31, 0, 79)), (31, (.ifCond .eq 13, 34, 44, 0))],
   [(34, (.lload_n 2, 35, 0, 0)), (35, (.aload_n 0, 36, 0, 0)), (36, (.getfield 15, 39, 1, 65)), (39, (.iload 4, 41, 0, 0)), (41, (.laload, 42, 0, 0)), (42, (.ladd, 43, 0, 0)), (43, (.lstore_n 2, 44, 0, 0)), (44, (.iinc 4 1, 47, 0, 3)), (47, (.goto (-42), 50, 5, 0))],
   [(50, (.lload_n 2, 51, 0, 0)), (51, (.lreturn, 52, 0, 0))]])
noncomputable def p_Entries_isInterest : mRec := (2, 3, 2, 2, false, [],
  [[(0, (.aload_n 0, 1, 0, 0)), (1, (.iload_n 1, 2, 0, 0)), (2, (.invokevirtual 35, 5, 0, 80)), (5, (.ifCond .eq 27, 8, 32, 0)), (8, (.aload_n 0, 9, 0, 0)), (9, (.getfield 11, 12, 0, 64)), (12, (.iload_n 1, 13, 0, 0)), (13, (.iaload, 14, 0, 0)), (14, (.iconst 1, 15, 0, 3)), (15, (.if_icmp .eq 13, 18, 28, 0))],
   [(18, (.aload_n 0, 19, 0, 0)), (19, (.getfield 11, 22, 0, 64)), (22, (.iload_n 1, 23, 0, 0)), (23, (.iaload, 24, 0, 0)), (24, (.iconst 2, 25, 0, 8)), (25, (.if_icmp .ne 7, 28, 32, 0)), (28, (.iconst 1, 29, 0, 3)), (29, (.goto 4, 32, 33, 0))],
   [(32, (.iconst 0, 33, 0, 4)), (33, (.ireturn, 34, 0, 0))]])
noncomputable def p_Entries_has : mRec := (2, 3, 2, 2, false, [],
  [[(0, (.iload_n 1, 1, 0, 0)), (1, (.ifCond .lt 15, 4, 16, 0)), (4, (.iload_n 1, 5, 0, 0)), (5, (.aload_n 0, 6, 0, 0)), (6, (.getfield 31, 9, 6, 70)), (9, (.if_icmp .ge 7, 12, 16, 0)), (12, (.iconst 1, 13, 0, 3)), (13, (.goto 4, 16, 17, 0))],
   [(16, (.iconst 0, 17, 0, 4)), (17, (.ireturn, 18, 0, 0))]])
noncomputable def p_Entries_moneyAt : mRec := (4, 1, 2, 2, false, [4],
  [[(0, (.iconst 0, 1, 0, 4)), (1, (.istore_n 2, 2, 0, 0)), (2, (.iconst 0, 3, 0, 4)), (3, (.istore_n 3, 4, 0, 0)), (4, (.iload_n 3, 5, 0, 0)), (5, (.aload_n 0, 6, 0, 0)), (6, (.getfield 31, 9, 6, 70)), (9, (.if_icmp .ge 28, 12, 37, 0)), (12, (.aload_n 0, 13, 0, 0)), (13, (.getfield 11, 16, 0, 64))],
   [(16, (.iload_n 3, 17, 0, 0)), (17, (.iaload, 18, 0, 0)), (18, (.ifCond .ne 13, 21, 31, 0)), (21, (.iload_n 2, 22, 0, 0)), (22, (.iload_n 1, 23, 0, 0)), (23, (.if_icmp .ne 5, 26, 28, 0)), (26, (.iload_n 3, 27, 0, 0)), (27, (.ireturn, 28, 0, 0)), (28, (.iinc 2 1, 31, 0, 3)), (31, (.iinc 3 1, 34, 0, 3))],
   [(34, (.goto (-30), 37, 4, 0)), (37, (.iconst (-1), 38, 0, 1)), (38, (.ireturn, 39, 0, 0))]])
noncomputable def p_Ledger_turnBack : mRec := (2, 0, 2, 3, false, [],
  [[(0, (.aload_n 0, 1, 0, 0)), (1, (.getfield 21, 4, 1, 129)), (4, (.iload_n 1, 5, 0, 0)), (5, (.invokevirtual 125, 8, 0, 80)), (8, (.ifCond .eq 26, 11, 34, 0)), (11, (.aload_n 0, 12, 0, 0)), (12, (.iconst 3, 13, 0, 13)), (13, (.aload_n 0, 14, 0, 0)), (14, (.getfield 21, 17, 1, 129))],
   [(17, (.iload_n 1, 18, 0, 0)), (18, (.invokevirtual 129, 21, 0, 83)), (21, (.lneg, 22, 0, 0)), (22, (.aload_n 0, 23, 0, 0)), (23, (.getfield 21, 26, 1, 129)), (26, (.iload_n 1, 27, 0, 0)), (27, (.invokevirtual 132, 30, 0, 84)), (30, (.iload_n 1, 31, 0, 0)), (31, (.invokevirtual 80, 34, 0, 64))],
   [(34, (.return_, 35, 0, 0))]])
noncomputable def p_Entries_amountOf : mRec := (2, 2, 2, 2, false, [],
  [[(0, (.aload_n 0, 1, 0, 0)), (1, (.iload_n 1, 2, 0, 0)), (2, (.invokevirtual 35, 5, 0, 80)), (5, (.ifCond .eq 12, 8, 17, 0)), (8, (.aload_n 0, 9, 0, 0)), (9, (.getfield 15, 12, 1, 65)), (12, (.iload_n 1, 13, 0, 0)), (13, (.laload, 14, 0, 0)), (14, (.goto 4, 17, 18, 0))],
   [(17, (.lconst 0, 18, 0, 0)), (18, (.lreturn, 19, 0, 0))]])
noncomputable def p_Entries_valueOf : mRec := (2, 1, 2, 2, false, [],
  [[(0, (.aload_n 0, 1, 0, 0)), (1, (.iload_n 1, 2, 0, 0)), (2, (.invokevirtual 35, 5, 0, 80)), (5, (.ifCond .eq 12, 8, 17, 0)), (8, (.aload_n 0, 9, 0, 0)), (9, (.getfield 19, 12, 2, 66)), (12, (.iload_n 1, 13, 0, 0)), (13, (.iaload, 14, 0, 0)), (14, (.goto 4, 17, 18, 0))],
   [(17, (.iconst (-1), 18, 0, 1)), (18, (.ireturn, 19, 0, 0))]])
noncomputable def p_V_fault : mRec := (2, 1, 2, 11, false, [],
  [[(0, (.iload_n 1, 1, 0, 0)), (1, (.lookupswitch 43 #[(0, 27), (1, 35)], 28, 0, 1))],
   [(28, (.aload_n 0, 29, 0, 0)), (29, (.getfield 23, 32, 1, 641))],
   [(32, (.invokevirtual 92, 35, 0, 48)), (35, (.ireturn, 36, 0, 0)), (36, (.aload_n 0, 37, 0, 0)), (37, (.getfield 23, 40, 1, 641)), (40, (.invokevirtual 113, 43, 0, 86)), (43, (.ireturn, 44, 0, 0)), (44, (.iconst (-1), 45, 0, 1)), (45, (.ireturn, 46, 0, 0))]])
noncomputable def p_Reader_faultPlace : mRec := (1, 1, 1, 5, false, [],
  [[(0, (.aload_n 0, 1, 0, 0)), (1, (.getfield 18, 4, 4, 260)), (4, (.ireturn, 5, 0, 0))]])
noncomputable def p_V_count : mRec := (2, 1, 2, 11, false, [],
  [[(0, (.iload_n 1, 1, 0, 0)), (1, (.tableswitch 144 0 9 #[55, 63, 71, 79, 90, 101, 112, 120, 128, 136], 56, 0, 2))],
   [],
   [],
   [(56, (.aload_n 0, 57, 0, 0)), (57, (.getfield 41, 60, 4, 644)), (60, (.invokevirtual 116, 63, 0, 88)), (63, (.ireturn, 64, 0, 0))],
   [(64, (.aload_n 0, 65, 0, 0)), (65, (.getfield 41, 68, 4, 644)), (68, (.invokevirtual 119, 71, 0, 89)), (71, (.ireturn, 72, 0, 0)), (72, (.aload_n 0, 73, 0, 0)), (73, (.getfield 41, 76, 4, 644)), (76, (.invokevirtual 122, 79, 0, 90)), (79, (.ireturn, 80, 0, 0))],
   [(80, (.aload_n 0, 81, 0, 0)), (81, (.getfield 41, 84, 4, 644)), (84, (.getfield 123, 87, 0, 128)), (87, (.invokevirtual 127, 90, 0, 91)), (90, (.ireturn, 91, 0, 0)), (91, (.aload_n 0, 92, 0, 0)), (92, (.getfield 41, 95, 4, 644)), (95, (.getfield 123, 98, 0, 128))],
   [(98, (.invokevirtual 132, 101, 0, 92)), (101, (.ireturn, 102, 0, 0)), (102, (.aload_n 0, 103, 0, 0)), (103, (.getfield 41, 106, 4, 644)), (106, (.getfield 63, 109, 1, 129)), (109, (.invokevirtual 135, 112, 0, 93))],
   [(112, (.ireturn, 113, 0, 0)), (113, (.aload_n 0, 114, 0, 0)), (114, (.getfield 41, 117, 4, 644)), (117, (.invokevirtual 140, 120, 0, 94)), (120, (.ireturn, 121, 0, 0)), (121, (.aload_n 0, 122, 0, 0)), (122, (.getfield 30, 125, 2, 642)), (125, (.invokevirtual 143, 128, 0, 95))],
   [(128, (.ireturn, 129, 0, 0)), (129, (.aload_n 0, 130, 0, 0)), (130, (.getfield 30, 133, 2, 642)), (133, (.invokevirtual 110, 136, 0, 19)), (136, (.ireturn, 137, 0, 0)), (137, (.aload_n 0, 138, 0, 0)), (138, (.getfield 12, 141, 0, 640)), (141, (.invokevirtual 82, 144, 0, 3))],
   [(144, (.ireturn, 145, 0, 0)), (145, (.iconst (-1), 146, 0, 1)), (146, (.ireturn, 147, 0, 0))]])
noncomputable def p_Ledger_span : mRec := (1, 1, 1, 3, false, [],
  [[(0, (.aload_n 0, 1, 0, 0)), (1, (.getfield 32, 4, 4, 132)), (4, (.ireturn, 5, 0, 0))]])
noncomputable def p_Ledger_periods : mRec := (1, 1, 1, 3, false, [],
  [[(0, (.aload_n 0, 1, 0, 0)), (1, (.getfield 36, 4, 5, 133)), (4, (.ireturn, 5, 0, 0))]])
noncomputable def p_Ledger_cycle : mRec := (1, 1, 1, 3, false, [],
  [[(0, (.aload_n 0, 1, 0, 0)), (1, (.getfield 39, 4, 6, 134)), (4, (.ireturn, 5, 0, 0))]])
noncomputable def p_Terms_tiers : mRec := (1, 1, 1, 8, false, [],
  [[(0, (.aload_n 0, 1, 0, 0)), (1, (.getfield 28, 4, 4, 452)), (4, (.ireturn, 5, 0, 0))]])
noncomputable def p_Terms_changes : mRec := (1, 1, 1, 8, false, [],
  [[(0, (.aload_n 0, 1, 0, 0)), (1, (.getfield 32, 4, 5, 453)), (4, (.ireturn, 5, 0, 0))]])
noncomputable def p_Entries_size : mRec := (1, 1, 1, 2, false, [],
  [[(0, (.aload_n 0, 1, 0, 0)), (1, (.getfield 31, 4, 6, 70)), (4, (.ireturn, 5, 0, 0))]])
noncomputable def p_Ledger_closed : mRec := (1, 1, 1, 3, false, [],
  [[(0, (.aload_n 0, 1, 0, 0)), (1, (.getfield 42, 4, 7, 135)), (4, (.ireturn, 5, 0, 0))]])
noncomputable def p_Script_acts : mRec := (1, 1, 1, 6, false, [],
  [[(0, (.aload_n 0, 1, 0, 0)), (1, (.getfield 17, 4, 2, 322)), (4, (.ireturn, 5, 0, 0))]])
noncomputable def p_V_entry : mRec := (4, 2, 3, 11, false, [],
  [[(0, (.aload_n 0, 1, 0, 0)), (1, (.getfield 41, 4, 4, 644)), (4, (.getfield 63, 7, 1, 129)), (7, (.astore_n 3, 8, 0, 0)), (8, (.aload_n 3, 9, 0, 0)), (9, (.iload_n 1, 10, 0, 0)), (10, (.invokevirtual 146, 13, 0, 80)), (13, (.ifCond .ne 7, 16, 20, 0))],
   [(16, (.ldc2_w 149, 19, 0, 3)), (19, (.lreturn, 20, 0, 0)), (20, (.iload_n 2, 21, 0, 0)), (21, (.tableswitch 80 0 5 #[39, 46, 52, 59, 66, 73], 60, 0, 3))],
   [],
   [(60, (.aload_n 3, 61, 0, 0)), (61, (.iload_n 1, 62, 0, 0)), (62, (.invokevirtual 151, 65, 0, 97))],
   [(65, (.i2l, 66, 0, 0)), (66, (.lreturn, 67, 0, 0)), (67, (.aload_n 3, 68, 0, 0)), (68, (.iload_n 1, 69, 0, 0)), (69, (.invokevirtual 155, 72, 0, 83)), (72, (.lreturn, 73, 0, 0)), (73, (.aload_n 3, 74, 0, 0)), (74, (.iload_n 1, 75, 0, 0)), (75, (.invokevirtual 159, 78, 0, 84)), (78, (.i2l, 79, 0, 0)), (79, (.lreturn, 80, 0, 0))],
   [(80, (.aload_n 3, 81, 0, 0)), (81, (.iload_n 1, 82, 0, 0)), (82, (.invokevirtual 162, 85, 0, 98)), (85, (.i2l, 86, 0, 0)), (86, (.lreturn, 87, 0, 0)), (87, (.aload_n 3, 88, 0, 0)), (88, (.iload_n 1, 89, 0, 0)), (89, (.invokevirtual 165, 92, 0, 99)), (92, (.i2l, 93, 0, 0)), (93, (.lreturn, 94, 0, 0)), (94, (.aload_n 3, 95, 0, 0)), (95, (.iload_n 1, 96, 0, 0))],
   [(96, (.invokevirtual 168, 99, 0, 100)), (99, (.i2l, 100, 0, 0)), (100, (.lreturn, 101, 0, 0)), (101, (.ldc2_w 149, 104, 0, 3)), (104, (.lreturn, 105, 0, 0))]])
noncomputable def p_Entries_sortOf : mRec := (2, 1, 2, 2, false, [],
  [[(0, (.aload_n 0, 1, 0, 0)), (1, (.iload_n 1, 2, 0, 0)), (2, (.invokevirtual 35, 5, 0, 80)), (5, (.ifCond .eq 12, 8, 17, 0)), (8, (.aload_n 0, 9, 0, 0)), (9, (.getfield 11, 12, 0, 64)), (12, (.iload_n 1, 13, 0, 0)), (13, (.iaload, 14, 0, 0)), (14, (.goto 4, 17, 18, 0))],
   [(17, (.iconst (-1), 18, 0, 1)), (18, (.ireturn, 19, 0, 0))]])
noncomputable def p_Entries_pageOf : mRec := (2, 1, 2, 2, false, [],
  [[(0, (.aload_n 0, 1, 0, 0)), (1, (.iload_n 1, 2, 0, 0)), (2, (.invokevirtual 35, 5, 0, 80)), (5, (.ifCond .eq 12, 8, 17, 0)), (8, (.aload_n 0, 9, 0, 0)), (9, (.getfield 22, 12, 3, 67)), (12, (.iload_n 1, 13, 0, 0)), (13, (.iaload, 14, 0, 0)), (14, (.goto 4, 17, 18, 0))],
   [(17, (.iconst (-1), 18, 0, 1)), (18, (.ireturn, 19, 0, 0))]])
noncomputable def p_Entries_periodOf : mRec := (2, 1, 2, 2, false, [],
  [[(0, (.aload_n 0, 1, 0, 0)), (1, (.iload_n 1, 2, 0, 0)), (2, (.invokevirtual 39, 5, 0, 79)), (5, (.ifCond .eq 12, 8, 17, 0)), (8, (.aload_n 0, 9, 0, 0)), (9, (.getfield 25, 12, 4, 68)), (12, (.iload_n 1, 13, 0, 0)), (13, (.iaload, 14, 0, 0)), (14, (.goto 4, 17, 18, 0))],
   [(17, (.iconst (-1), 18, 0, 1)), (18, (.ireturn, 19, 0, 0))]])
noncomputable def p_Entries_turnedOf : mRec := (2, 1, 2, 2, false, [],
  [[(0, (.aload_n 0, 1, 0, 0)), (1, (.iload_n 1, 2, 0, 0)), (2, (.invokevirtual 35, 5, 0, 80)), (5, (.ifCond .eq 22, 8, 27, 0)), (8, (.aload_n 0, 9, 0, 0)), (9, (.getfield 11, 12, 0, 64)), (12, (.iload_n 1, 13, 0, 0)), (13, (.iaload, 14, 0, 0)), (14, (.iconst 3, 15, 0, 13)), (15, (.if_icmp .ne 12, 18, 27, 0))],
   [(18, (.aload_n 0, 19, 0, 0)), (19, (.getfield 25, 22, 4, 68)), (22, (.iload_n 1, 23, 0, 0)), (23, (.iaload, 24, 0, 0)), (24, (.goto 4, 27, 28, 0)), (27, (.iconst (-1), 28, 0, 1)), (28, (.ireturn, 29, 0, 0))]])
noncomputable def p_V_sorted : mRec := (2, 1, 2, 11, false, [],
  [[(0, (.iload_n 1, 1, 0, 0)), (1, (.ifCond .lt 10, 4, 11, 0)), (4, (.aload_n 0, 5, 0, 0)), (5, (.invokevirtual 171, 8, 0, 102)), (8, (.ifCond .eq 6, 11, 14, 0)), (11, (.bipush (-2), 13, 0, 32)), (13, (.ireturn, 14, 0, 0)), (14, (.aload_n 0, 15, 0, 0)), (15, (.getfield 41, 18, 4, 644))],
   [(18, (.getfield 63, 21, 1, 129)), (21, (.iload_n 1, 22, 0, 0)), (22, (.invokevirtual 175, 25, 0, 103)), (25, (.ireturn, 26, 0, 0))]])
noncomputable def p_V_noBook : mRec := (1, 3, 1, 11, false, [],
  [[(0, (.aload_n 0, 1, 0, 0)), (1, (.getfield 30, 4, 2, 642)), (4, (.invokevirtual 110, 7, 0, 19)), (7, (.ifCond .ne 7, 10, 14, 0)), (10, (.iconst 1, 11, 0, 3)), (11, (.goto 4, 14, 15, 0)), (14, (.iconst 0, 15, 0, 4)), (15, (.ireturn, 16, 0, 0))]])
noncomputable def p_Entries_inOrder : mRec := (2, 1, 2, 2, false, [],
  [[(0, (.aload_n 0, 1, 0, 0)), (1, (.iload_n 1, 2, 0, 0)), (2, (.invokevirtual 35, 5, 0, 80)), (5, (.ifCond .eq 12, 8, 17, 0)), (8, (.aload_n 0, 9, 0, 0)), (9, (.getfield 28, 12, 5, 69)), (12, (.iload_n 1, 13, 0, 0)), (13, (.iaload, 14, 0, 0)), (14, (.goto 4, 17, 18, 0))],
   [(17, (.iconst (-1), 18, 0, 1)), (18, (.ireturn, 19, 0, 0))]])
noncomputable def p_V_rate : mRec := (3, 1, 3, 11, false, [],
  [[(0, (.aload_n 0, 1, 0, 0)), (1, (.getfield 41, 4, 4, 644)), (4, (.getfield 123, 7, 0, 128)), (7, (.iload_n 1, 8, 0, 0)), (8, (.invokevirtual 178, 11, 0, 105)), (11, (.ifCond .eq 14, 14, 25, 0)), (14, (.aload_n 0, 15, 0, 0)), (15, (.getfield 41, 18, 4, 644))],
   [(18, (.iload_n 2, 19, 0, 0)), (19, (.invokevirtual 181, 22, 0, 106)), (22, (.ifCond .ne 5, 25, 27, 0)), (25, (.iconst (-1), 26, 0, 1)), (26, (.ireturn, 27, 0, 0)), (27, (.aload_n 0, 28, 0, 0)), (28, (.getfield 41, 31, 4, 644)), (31, (.getfield 123, 34, 0, 128))],
   [(34, (.iload_n 1, 35, 0, 0)), (35, (.iload_n 2, 36, 0, 0)), (36, (.invokevirtual 184, 39, 0, 107)), (39, (.ireturn, 40, 0, 0))]])
noncomputable def p_Terms_isTier : mRec := (2, 3, 2, 8, false, [],
  [[(0, (.iload_n 1, 1, 0, 0)), (1, (.ifCond .lt 15, 4, 16, 0)), (4, (.iload_n 1, 5, 0, 0)), (5, (.aload_n 0, 6, 0, 0)), (6, (.getfield 28, 9, 4, 452)), (9, (.if_icmp .ge 7, 12, 16, 0)), (12, (.iconst 1, 13, 0, 3)), (13, (.goto 4, 16, 17, 0))],
   [(16, (.iconst 0, 17, 0, 4)), (17, (.ireturn, 18, 0, 0))]])
noncomputable def p_Ledger_isDay : mRec := (2, 3, 2, 3, false, [],
  [[(0, (.iload_n 1, 1, 0, 0)), (1, (.ifCond .lt 20, 4, 21, 0)), (4, (.iload_n 1, 5, 0, 0)), (5, (.aload_n 0, 6, 0, 0)), (6, (.getfield 32, 9, 4, 132)), (9, (.aload_n 0, 10, 0, 0)), (10, (.getfield 36, 13, 5, 133)), (13, (.imul, 14, 0, 0)), (14, (.if_icmp .ge 7, 17, 21, 0))],
   [(17, (.iconst 1, 18, 0, 3)), (18, (.goto 4, 21, 22, 0)), (21, (.iconst 0, 22, 0, 4)), (22, (.ireturn, 23, 0, 0))]])
noncomputable def p_Terms_rule : mRec := (3, 1, 3, 8, false, [],
  [[(0, (.iload_n 1, 1, 0, 0)), (1, (.ifCond .lt 20, 4, 21, 0)), (4, (.iload_n 1, 5, 0, 0)), (5, (.bipush 7, 7, 0, 29)), (7, (.if_icmp .ge 14, 10, 21, 0)), (10, (.iload_n 2, 11, 0, 0)), (11, (.ifCond .lt 10, 14, 21, 0)), (14, (.iload_n 2, 15, 0, 0)), (15, (.sipush 320, 18, 0, 30))],
   [(18, (.if_icmp .lt 5, 21, 23, 0)), (21, (.iconst 0, 22, 0, 4)), (22, (.ireturn, 23, 0, 0)), (23, (.aload_n 0, 24, 0, 0)), (24, (.getfield 15, 27, 0, 448)), (27, (.iload_n 1, 28, 0, 0)), (28, (.aaload, 29, 0, 0)), (29, (.iload_n 2, 30, 0, 0)), (30, (.iaload, 31, 0, 0)), (31, (.ireturn, 32, 0, 0))]])
noncomputable def p_V_owing : mRec := (3, 1, 3, 11, false, [],
  [[(0, (.aload_n 0, 1, 0, 0)), (1, (.getfield 41, 4, 4, 644)), (4, (.iload_n 1, 5, 0, 0)), (5, (.invokevirtual 181, 8, 0, 106)), (8, (.ifCond .ne 5, 11, 13, 0)), (11, (.iconst (-1), 12, 0, 1)), (12, (.ireturn, 13, 0, 0)), (13, (.iload_n 2, 14, 0, 0)), (14, (.tableswitch 66 0 2 #[26, 39, 52], 40, 0, 4))],
   [],
   [(40, (.aload_n 0, 41, 0, 0)), (41, (.getfield 41, 44, 4, 644)), (44, (.getfield 123, 47, 0, 128)), (47, (.iconst 4, 48, 0, 14))],
   [(48, (.iload_n 1, 49, 0, 0)), (49, (.invokevirtual 184, 52, 0, 107)), (52, (.ireturn, 53, 0, 0)), (53, (.aload_n 0, 54, 0, 0)), (54, (.getfield 41, 57, 4, 644)), (57, (.getfield 123, 60, 0, 128)), (60, (.iconst 5, 61, 0, 27)), (61, (.iload_n 1, 62, 0, 0)), (62, (.invokevirtual 184, 65, 0, 107))],
   [(65, (.ireturn, 66, 0, 0)), (66, (.aload_n 0, 67, 0, 0)), (67, (.getfield 41, 70, 4, 644)), (70, (.getfield 123, 73, 0, 128)), (73, (.bipush 6, 75, 0, 26)), (75, (.iload_n 1, 76, 0, 0)), (76, (.invokevirtual 184, 79, 0, 107)), (79, (.ireturn, 80, 0, 0))],
   [(80, (.iconst (-1), 81, 0, 1)), (81, (.ireturn, 82, 0, 0))]])
noncomputable def p_V_balance : mRec := (2, 2, 2, 11, false, [],
  [[(0, (.aload_n 0, 1, 0, 0)), (1, (.getfield 41, 4, 4, 644)), (4, (.iload_n 1, 5, 0, 0)), (5, (.invokevirtual 181, 8, 0, 106)), (8, (.ifCond .eq 14, 11, 22, 0)), (11, (.aload_n 0, 12, 0, 0)), (12, (.getfield 41, 15, 4, 644)), (15, (.iload_n 1, 16, 0, 0))],
   [(16, (.invokevirtual 188, 19, 0, 110)), (19, (.goto 6, 22, 25, 0)), (22, (.ldc2_w 149, 25, 0, 3)), (25, (.lreturn, 26, 0, 0))]])
noncomputable def p_Ledger_standing : mRec := (2, 2, 2, 3, false, [],
  [[(0, (.iload_n 1, 1, 0, 0)), (1, (.ifCond .lt 19, 4, 20, 0)), (4, (.iload_n 1, 5, 0, 0)), (5, (.sipush 320, 8, 0, 30)), (8, (.if_icmp .ge 12, 11, 20, 0)), (11, (.aload_n 0, 12, 0, 0)), (12, (.getfield 25, 15, 2, 130)), (15, (.iload_n 1, 16, 0, 0))],
   [(16, (.laload, 17, 0, 0)), (17, (.goto 4, 20, 21, 0)), (20, (.lconst 0, 21, 0, 0)), (21, (.lreturn, 22, 0, 0))]])
noncomputable def p_V_part : mRec := (6, 2, 3, 11, false, [],
  [[(0, (.aload_n 0, 1, 0, 0)), (1, (.getfield 41, 4, 4, 644)), (4, (.iload_n 1, 5, 0, 0)), (5, (.invokevirtual 181, 8, 0, 106)), (8, (.ifCond .eq 7, 11, 15, 0)), (11, (.iload_n 2, 12, 0, 0)), (12, (.ifCond .ge 7, 15, 19, 0)), (15, (.ldc2_w 149, 18, 0, 3))],
   [(18, (.lreturn, 19, 0, 0)), (19, (.aload_n 0, 20, 0, 0)), (20, (.getfield 41, 23, 4, 644)), (23, (.getfield 123, 26, 0, 128)), (26, (.astore_n 3, 27, 0, 0)), (27, (.aload_n 0, 28, 0, 0)), (28, (.getfield 41, 31, 4, 644)), (31, (.iload_n 1, 32, 0, 0))],
   [(32, (.invokevirtual 188, 35, 0, 110)), (35, (.lstore 4, 37, 0, 0)), (37, (.aload_n 3, 38, 0, 0)), (38, (.iload_n 2, 39, 0, 0)), (39, (.invokevirtual 178, 42, 0, 105)), (42, (.ifCond .eq 11, 45, 53, 0)), (45, (.aload_n 3, 46, 0, 0)), (46, (.iload_n 2, 47, 0, 0)), (47, (.lload 4, 49, 0, 0))],
   [(49, (.invokevirtual 191, 52, 0, 112)), (52, (.lreturn, 53, 0, 0)), (53, (.iload_n 2, 54, 0, 0)), (54, (.aload_n 3, 55, 0, 0)), (55, (.invokevirtual 127, 58, 0, 91)), (58, (.isub, 59, 0, 0)), (59, (.tableswitch 48 0 2 #[25, 32, 40], 84, 0, 5))],
   [],
   [(84, (.aload_n 3, 85, 0, 0)), (85, (.lload 4, 87, 0, 0)), (87, (.invokevirtual 195, 90, 0, 114)), (90, (.lreturn, 91, 0, 0)), (91, (.aload_n 3, 92, 0, 0)), (92, (.iload_n 1, 93, 0, 0)), (93, (.lload 4, 95, 0, 0)), (95, (.invokevirtual 199, 98, 0, 115))],
   [(98, (.lreturn, 99, 0, 0)), (99, (.aload_n 3, 100, 0, 0)), (100, (.iload_n 1, 101, 0, 0)), (101, (.lload 4, 103, 0, 0)), (103, (.invokevirtual 202, 106, 0, 116)), (106, (.lreturn, 107, 0, 0)), (107, (.ldc2_w 149, 110, 0, 3)), (110, (.lreturn, 111, 0, 0))]])
noncomputable def p_Terms_partOf : mRec := (6, 2, 3, 8, false, [],
  [[(0, (.iload_n 1, 1, 0, 0)), (1, (.ifCond .ne 7, 4, 8, 0)), (4, (.lconst 0, 5, 0, 0)), (5, (.goto 11, 8, 16, 0)), (8, (.aload_n 0, 9, 0, 0)), (9, (.iload_n 1, 10, 0, 0)), (10, (.iconst 1, 11, 0, 3)), (11, (.isub, 12, 0, 0)), (12, (.lload_n 2, 13, 0, 0)), (13, (.invokevirtual 57, 16, 0, 113))],
   [(16, (.lstore 4, 18, 0, 0)), (18, (.lconst 0, 19, 0, 0)), (19, (.aload_n 0, 20, 0, 0)), (20, (.iload_n 1, 21, 0, 0)), (21, (.lload_n 2, 22, 0, 0)), (22, (.invokevirtual 57, 25, 0, 113)), (25, (.lload 4, 27, 0, 0)), (27, (.lsub, 28, 0, 0)), (28, (.invokestatic 61, 31, 0, 9004)), (31, (.lreturn, 32, 0, 0))]])
noncomputable def p_Terms_topOf : mRec := (4, 2, 3, 8, false, [],
  [[(0, (.iload_n 1, 1, 0, 0)), (1, (.ifCond .lt 18, 4, 19, 0)), (4, (.iload_n 1, 5, 0, 0)), (5, (.iconst 4, 6, 0, 14)), (6, (.if_icmp .ge 13, 9, 19, 0)), (9, (.aload_n 0, 10, 0, 0)), (10, (.getfield 18, 13, 1, 449)), (13, (.iload_n 1, 14, 0, 0)), (14, (.iaload, 15, 0, 0)), (15, (.iconst (-1), 16, 0, 1))],
   [(16, (.if_icmp .ne 5, 19, 21, 0)), (19, (.lload_n 2, 20, 0, 0)), (20, (.lreturn, 21, 0, 0)), (21, (.lload_n 2, 22, 0, 0)), (22, (.aload_n 0, 23, 0, 0)), (23, (.getfield 18, 26, 1, 449)), (26, (.iload_n 1, 27, 0, 0)), (27, (.iaload, 28, 0, 0)), (28, (.i2l, 29, 0, 0)), (29, (.invokestatic 54, 32, 0, 9005))],
   [(32, (.lreturn, 33, 0, 0))]])
noncomputable def p_Terms_partAboveAll : mRec := (5, 2, 2, 8, false, [],
  [[(0, (.aload_n 0, 1, 0, 0)), (1, (.getfield 28, 4, 4, 452)), (4, (.ifCond .ne 7, 7, 11, 0)), (7, (.lconst 0, 8, 0, 0)), (8, (.goto 14, 11, 22, 0)), (11, (.aload_n 0, 12, 0, 0)), (12, (.aload_n 0, 13, 0, 0)), (13, (.getfield 28, 16, 4, 452))],
   [(16, (.iconst 1, 17, 0, 3)), (17, (.isub, 18, 0, 0)), (18, (.lload_n 1, 19, 0, 0)), (19, (.invokevirtual 57, 22, 0, 113)), (22, (.lstore_n 3, 23, 0, 0)), (23, (.lconst 0, 24, 0, 0)), (24, (.lload_n 1, 25, 0, 0)), (25, (.lload_n 3, 26, 0, 0)), (26, (.lsub, 27, 0, 0)), (27, (.invokestatic 61, 30, 0, 9004)), (30, (.lreturn, 31, 0, 0))]])
noncomputable def p_Terms_owedWithin : mRec := (4, 2, 3, 8, false, [],
  [[(0, (.lconst 0, 1, 0, 0)), (1, (.lload_n 2, 2, 0, 0)), (2, (.lneg, 3, 0, 0)), (3, (.invokestatic 61, 6, 0, 9004)), (6, (.aload_n 0, 7, 0, 0)), (7, (.bipush 6, 9, 0, 26)), (9, (.iload_n 1, 10, 0, 0)), (10, (.invokevirtual 63, 13, 0, 107)), (13, (.i2l, 14, 0, 0)), (14, (.invokestatic 54, 17, 0, 9005))],
   [(17, (.lreturn, 18, 0, 0))]])
noncomputable def p_Terms_owedAbove : mRec := (4, 2, 3, 8, false, [],
  [[(0, (.lconst 0, 1, 0, 0)), (1, (.lload_n 2, 2, 0, 0)), (2, (.lneg, 3, 0, 0)), (3, (.aload_n 0, 4, 0, 0)), (4, (.bipush 6, 6, 0, 26)), (6, (.iload_n 1, 7, 0, 0)), (7, (.invokevirtual 63, 10, 0, 107)), (10, (.i2l, 11, 0, 0)), (11, (.lsub, 12, 0, 0)), (12, (.invokestatic 61, 15, 0, 9004)), (15, (.lreturn, 16, 0, 0))]])
noncomputable def p_V_product : mRec := (4, 2, 2, 11, false, [],
  [[(0, (.aload_n 0, 1, 0, 0)), (1, (.getfield 41, 4, 4, 644)), (4, (.iload_n 1, 5, 0, 0)), (5, (.invokevirtual 181, 8, 0, 106)), (8, (.ifCond .ne 7, 11, 15, 0)), (11, (.ldc2_w 149, 14, 0, 3)), (14, (.lreturn, 15, 0, 0)), (15, (.aload_n 0, 16, 0, 0))],
   [(16, (.getfield 41, 19, 4, 644)), (19, (.iload_n 1, 20, 0, 0)), (20, (.invokevirtual 188, 23, 0, 110)), (23, (.lstore_n 2, 24, 0, 0)), (24, (.aload_n 0, 25, 0, 0)), (25, (.getfield 41, 28, 4, 644)), (28, (.getfield 123, 31, 0, 128)), (31, (.iload_n 1, 32, 0, 0))],
   [(32, (.lload_n 2, 33, 0, 0)), (33, (.invokevirtual 205, 36, 0, 72)), (36, (.aload_n 0, 37, 0, 0)), (37, (.getfield 41, 40, 4, 644)), (40, (.getfield 123, 43, 0, 128)), (43, (.iload_n 1, 44, 0, 0)), (44, (.lload_n 2, 45, 0, 0)), (45, (.invokevirtual 208, 48, 0, 73))],
   [(48, (.lsub, 49, 0, 0)), (49, (.lreturn, 50, 0, 0))]])
noncomputable def p_V_products : mRec := (3, 2, 3, 11, false, [],
  [[(0, (.aload_n 0, 1, 0, 0)), (1, (.getfield 41, 4, 4, 644)), (4, (.iload_n 1, 5, 0, 0)), (5, (.invokevirtual 211, 8, 0, 119)), (8, (.ifCond .ne 7, 11, 15, 0)), (11, (.ldc2_w 149, 14, 0, 3)), (14, (.lreturn, 15, 0, 0)), (15, (.iload_n 2, 16, 0, 0))],
   [(16, (.lookupswitch 46 #[(0, 28), (1, 37)], 44, 0, 6))],
   [(44, (.aload_n 0, 45, 0, 0)), (45, (.getfield 50, 48, 5, 645))],
   [(48, (.iload_n 1, 49, 0, 0)), (49, (.invokevirtual 214, 52, 0, 120)), (52, (.lreturn, 53, 0, 0)), (53, (.aload_n 0, 54, 0, 0)), (54, (.getfield 50, 57, 5, 645)), (57, (.iload_n 1, 58, 0, 0)), (58, (.invokevirtual 217, 61, 0, 121)), (61, (.lreturn, 62, 0, 0)), (62, (.ldc2_w 149, 65, 0, 3))],
   [(65, (.lreturn, 66, 0, 0))]])
noncomputable def p_Ledger_isPeriod : mRec := (2, 3, 2, 3, false, [],
  [[(0, (.iload_n 1, 1, 0, 0)), (1, (.ifCond .lt 15, 4, 16, 0)), (4, (.iload_n 1, 5, 0, 0)), (5, (.aload_n 0, 6, 0, 0)), (6, (.getfield 36, 9, 5, 133)), (9, (.if_icmp .ge 7, 12, 16, 0)), (12, (.iconst 1, 13, 0, 3)), (13, (.goto 4, 16, 17, 0))],
   [(16, (.iconst 0, 17, 0, 4)), (17, (.ireturn, 18, 0, 0))]])
noncomputable def p_Course_creditOf : mRec := (6, 2, 2, 1, false, [16],
  [[(0, (.lconst 0, 1, 0, 0)), (1, (.lstore_n 2, 2, 0, 0)), (2, (.aload_n 0, 3, 0, 0)), (3, (.getfield 9, 6, 0, 0)), (6, (.iload_n 1, 7, 0, 0)), (7, (.invokevirtual 22, 10, 0, 71)), (10, (.istore 4, 12, 0, 0)), (12, (.iload 4, 14, 0, 0)), (14, (.istore 5, 16, 0, 0))],
   [(16, (.iload 5, 18, 0, 0)), (18, (.iload 4, 20, 0, 0)), (20, (.aload_n 0, 21, 0, 0)), (21, (.getfield 9, 24, 0, 0)), (24, (.invokevirtual 26, 27, 0, 88)), (27, (.iadd, 28, 0, 0)), (28, (.if_icmp .ge 30, 31, 58, 0)), (31, (.lload_n 2, 32, 0, 0))],
   [(32, (.aload_n 0, 33, 0, 0)), (33, (.getfield 21, 36, 1, 1)), (36, (.iload 5, 38, 0, 0)), (38, (.aload_n 0, 39, 0, 0)), (39, (.getfield 9, 42, 0, 0)), (42, (.iload 5, 44, 0, 0)), (44, (.invokevirtual 30, 47, 0, 110)), (47, (.invokevirtual 34, 50, 0, 72))],
   [(50, (.ladd, 51, 0, 0)), (51, (.lstore_n 2, 52, 0, 0)), (52, (.iinc 5 1, 55, 0, 3)), (55, (.goto (-39), 58, 16, 0)), (58, (.lload_n 2, 59, 0, 0)), (59, (.lreturn, 60, 0, 0))]])
noncomputable def p_Course_debtOf : mRec := (6, 2, 2, 1, false, [16],
  [[(0, (.lconst 0, 1, 0, 0)), (1, (.lstore_n 2, 2, 0, 0)), (2, (.aload_n 0, 3, 0, 0)), (3, (.getfield 9, 6, 0, 0)), (6, (.iload_n 1, 7, 0, 0)), (7, (.invokevirtual 22, 10, 0, 71)), (10, (.istore 4, 12, 0, 0)), (12, (.iload 4, 14, 0, 0)), (14, (.istore 5, 16, 0, 0))],
   [(16, (.iload 5, 18, 0, 0)), (18, (.iload 4, 20, 0, 0)), (20, (.aload_n 0, 21, 0, 0)), (21, (.getfield 9, 24, 0, 0)), (24, (.invokevirtual 26, 27, 0, 88)), (27, (.iadd, 28, 0, 0)), (28, (.if_icmp .ge 30, 31, 58, 0)), (31, (.lload_n 2, 32, 0, 0))],
   [(32, (.aload_n 0, 33, 0, 0)), (33, (.getfield 21, 36, 1, 1)), (36, (.iload 5, 38, 0, 0)), (38, (.aload_n 0, 39, 0, 0)), (39, (.getfield 9, 42, 0, 0)), (42, (.iload 5, 44, 0, 0)), (44, (.invokevirtual 30, 47, 0, 110)), (47, (.invokevirtual 40, 50, 0, 73))],
   [(50, (.ladd, 51, 0, 0)), (51, (.lstore_n 2, 52, 0, 0)), (52, (.iinc 5 1, 55, 0, 3)), (55, (.goto (-39), 58, 16, 0)), (58, (.lload_n 2, 59, 0, 0)), (59, (.lreturn, 60, 0, 0))]])
noncomputable def p_V_fresh : mRec := (2, 2, 2, 11, false, [],
  [[(0, (.aload_n 0, 1, 0, 0)), (1, (.getfield 41, 4, 4, 644)), (4, (.iload_n 1, 5, 0, 0)), (5, (.invokevirtual 211, 8, 0, 119)), (8, (.ifCond .eq 14, 11, 22, 0)), (11, (.aload_n 0, 12, 0, 0)), (12, (.getfield 41, 15, 4, 644)), (15, (.iload_n 1, 16, 0, 0))],
   [(16, (.invokevirtual 220, 19, 0, 123)), (19, (.goto 6, 22, 25, 0)), (22, (.ldc2_w 149, 25, 0, 3)), (25, (.lreturn, 26, 0, 0))]])
noncomputable def p_Ledger_interestNow : mRec := (2, 2, 2, 3, false, [],
  [[(0, (.aload_n 0, 1, 0, 0)), (1, (.aload_n 0, 2, 0, 0)), (2, (.getfield 25, 5, 2, 130)), (5, (.iload_n 1, 6, 0, 0)), (6, (.iconst 0, 7, 0, 4)), (7, (.lconst 0, 8, 0, 0)), (8, (.invokevirtual 135, 11, 0, 124)), (11, (.lreturn, 12, 0, 0))]])
noncomputable def p_Ledger_interest : mRec := (6, 2, 5, 3, false, [],
  [[(0, (.aload_n 0, 1, 0, 0)), (1, (.aload_n 1, 2, 0, 0)), (2, (.iload_n 2, 3, 0, 0)), (3, (.iload_n 3, 4, 0, 0)), (4, (.lload 4, 6, 0, 0)), (6, (.invokevirtual 110, 9, 0, 70)), (9, (.invokestatic 114, 12, 0, 75)), (12, (.lreturn, 13, 0, 0))]])
noncomputable def p_V_booked : mRec := (2, 2, 2, 11, false, [],
  [[(0, (.aload_n 0, 1, 0, 0)), (1, (.getfield 41, 4, 4, 644)), (4, (.iload_n 1, 5, 0, 0)), (5, (.invokevirtual 211, 8, 0, 119)), (8, (.ifCond .eq 17, 11, 25, 0)), (11, (.aload_n 0, 12, 0, 0)), (12, (.getfield 41, 15, 4, 644)), (15, (.getfield 63, 18, 1, 129))],
   [(18, (.iload_n 1, 19, 0, 0)), (19, (.invokevirtual 223, 22, 0, 78)), (22, (.goto 6, 25, 28, 0)), (25, (.ldc2_w 149, 28, 0, 3)), (28, (.lreturn, 29, 0, 0))]])
noncomputable def p_V_wrong : mRec := (2, 2, 2, 11, false, [],
  [[(0, (.aload_n 0, 1, 0, 0)), (1, (.getfield 41, 4, 4, 644)), (4, (.iload_n 1, 5, 0, 0)), (5, (.invokevirtual 211, 8, 0, 119)), (8, (.ifCond .ne 7, 11, 15, 0)), (11, (.ldc2_w 149, 14, 0, 3)), (14, (.lreturn, 15, 0, 0)), (15, (.aload_n 0, 16, 0, 0))],
   [(16, (.getfield 41, 19, 4, 644)), (19, (.iload_n 1, 20, 0, 0)), (20, (.invokevirtual 226, 23, 0, 127)), (23, (.ifCond .eq 26, 26, 49, 0)), (26, (.aload_n 0, 27, 0, 0)), (27, (.getfield 41, 30, 4, 644)), (30, (.iload_n 1, 31, 0, 0)), (31, (.invokevirtual 220, 34, 0, 123))],
   [(34, (.aload_n 0, 35, 0, 0)), (35, (.getfield 41, 38, 4, 644)), (38, (.getfield 63, 41, 1, 129)), (41, (.iload_n 1, 42, 0, 0)), (42, (.invokevirtual 223, 45, 0, 78)), (45, (.lsub, 46, 0, 0)), (46, (.goto 4, 49, 50, 0))],
   [(49, (.lconst 0, 50, 0, 0)), (50, (.lreturn, 51, 0, 0))]])
noncomputable def p_Ledger_isClosed : mRec := (2, 3, 2, 3, false, [],
  [[(0, (.iload_n 1, 1, 0, 0)), (1, (.ifCond .lt 15, 4, 16, 0)), (4, (.iload_n 1, 5, 0, 0)), (5, (.aload_n 0, 6, 0, 0)), (6, (.getfield 42, 9, 7, 135)), (9, (.if_icmp .ge 7, 12, 16, 0)), (12, (.iconst 1, 13, 0, 3)), (13, (.goto 4, 16, 17, 0))],
   [(16, (.iconst 0, 17, 0, 4)), (17, (.ireturn, 18, 0, 0))]])
noncomputable def p_V_compounds : mRec := (2, 1, 2, 11, false, [],
  [[(0, (.aload_n 0, 1, 0, 0)), (1, (.getfield 41, 4, 4, 644)), (4, (.iload_n 1, 5, 0, 0)), (5, (.invokevirtual 211, 8, 0, 119)), (8, (.ifCond .eq 14, 11, 22, 0)), (11, (.aload_n 0, 12, 0, 0)), (12, (.getfield 41, 15, 4, 644)), (15, (.iload_n 1, 16, 0, 0))],
   [(16, (.invokevirtual 229, 19, 0, 76)), (19, (.goto 4, 22, 23, 0)), (22, (.iconst (-1), 23, 0, 1)), (23, (.ireturn, 24, 0, 0))]])
noncomputable def p_V_page : mRec := (4, 2, 3, 11, false, [],
  [[(0, (.aload_n 0, 1, 0, 0)), (1, (.getfield 41, 4, 4, 644)), (4, (.iload_n 1, 5, 0, 0)), (5, (.invokevirtual 211, 8, 0, 119)), (8, (.ifCond .ne 7, 11, 15, 0)), (11, (.ldc2_w 149, 14, 0, 3)), (14, (.lreturn, 15, 0, 0)), (15, (.aload_n 0, 16, 0, 0))],
   [(16, (.getfield 41, 19, 4, 644)), (19, (.getfield 63, 22, 1, 129)), (22, (.astore_n 3, 23, 0, 0)), (23, (.iload_n 2, 24, 0, 0)), (24, (.tableswitch 102 0 7 #[48, 54, 60, 66, 73, 80, 87, 95], 72, 0, 7))],
   [],
   [],
   [(72, (.aload_n 3, 73, 0, 0)), (73, (.iload_n 1, 74, 0, 0)), (74, (.invokevirtual 232, 77, 0, 130)), (77, (.lreturn, 78, 0, 0)), (78, (.aload_n 3, 79, 0, 0)), (79, (.iload_n 1, 80, 0, 0))],
   [(80, (.invokevirtual 235, 83, 0, 131)), (83, (.lreturn, 84, 0, 0)), (84, (.aload_n 3, 85, 0, 0)), (85, (.iload_n 1, 86, 0, 0)), (86, (.invokevirtual 238, 89, 0, 132)), (89, (.lreturn, 90, 0, 0)), (90, (.aload_n 3, 91, 0, 0)), (91, (.iload_n 1, 92, 0, 0)), (92, (.iconst 1, 93, 0, 3)), (93, (.invokevirtual 241, 96, 0, 133))],
   [(96, (.lreturn, 97, 0, 0)), (97, (.aload_n 3, 98, 0, 0)), (98, (.iload_n 1, 99, 0, 0)), (99, (.iconst 2, 100, 0, 8)), (100, (.invokevirtual 241, 103, 0, 133)), (103, (.lreturn, 104, 0, 0)), (104, (.aload_n 3, 105, 0, 0)), (105, (.iload_n 1, 106, 0, 0)), (106, (.iconst 3, 107, 0, 13)), (107, (.invokevirtual 241, 110, 0, 133)), (110, (.lreturn, 111, 0, 0)), (111, (.aload_n 3, 112, 0, 0))],
   [(112, (.iload_n 1, 113, 0, 0)), (113, (.iconst 1, 114, 0, 3)), (114, (.iadd, 115, 0, 0)), (115, (.invokevirtual 232, 118, 0, 130)), (118, (.lreturn, 119, 0, 0)), (119, (.aload_n 3, 120, 0, 0)), (120, (.iload_n 1, 121, 0, 0)), (121, (.invokevirtual 245, 124, 0, 134)), (124, (.i2l, 125, 0, 0)), (125, (.lreturn, 126, 0, 0)), (126, (.ldc2_w 149, 129, 0, 3))],
   [(129, (.lreturn, 130, 0, 0))]])
noncomputable def p_Entries_sumAhead : mRec := (5, 2, 2, 2, false, [5],
  [[(0, (.lconst 0, 1, 0, 0)), (1, (.lstore_n 2, 2, 0, 0)), (2, (.iconst 0, 3, 0, 4)), (3, (.istore 4, 5, 0, 0)), (5, (.iload 4, 7, 0, 0)), (7, (.aload_n 0, 8, 0, 0)), (8, (.getfield 31, 11, 6, 70)), (11, (.if_icmp .ge 30, 14, 41, 0)), (14, (.aload_n 0, 15, 0, 0)), (15, (.getfield 22, 18, 3, 67))],
   [(18, (.iload 4, 20, 0, 0)), (20, (.iaload, 21, 0, 0)), (21, (.iload_n 1, 22, 0, 0)), (22, (.if_icmp .ge 13, 25, 35, 0)), (25, (.lload_n 2, 26, 0, 0)), (26, (.aload_n 0, 27, 0, 0)), (27, (.getfield 15, 30, 1, 65)), (30, (.iload 4, 32, 0, 0))],
   [(32, (.laload, 33, 0, 0)), (33, (.ladd, 34, 0, 0)), (34, (.lstore_n 2, 35, 0, 0)), (35, (.iinc 4 1, 38, 0, 3)), (38, (.goto (-33), 41, 5, 0)), (41, (.lload_n 2, 42, 0, 0)), (42, (.lreturn, 43, 0, 0))]])
noncomputable def p_Entries_paidOn : mRec := (5, 2, 2, 2, false, [5],
  [[(0, (.lconst 0, 1, 0, 0)), (1, (.lstore_n 2, 2, 0, 0)), (2, (.iconst 0, 3, 0, 4)), (3, (.istore 4, 5, 0, 0)), (5, (.iload 4, 7, 0, 0)), (7, (.aload_n 0, 8, 0, 0)), (8, (.getfield 31, 11, 6, 70)), (11, (.if_icmp .ge 44, 14, 55, 0)), (14, (.aload_n 0, 15, 0, 0)), (15, (.getfield 22, 18, 3, 67))],
   [(18, (.iload 4, 20, 0, 0)), (20, (.iaload, 21, 0, 0)), (21, (.iload_n 1, 22, 0, 0)), (22, (.if_icmp .ne 27, 25, 49, 0)), (25, (.aload_n 0, 26, 0, 0)), (26, (.getfield 11, 29, 0, 64)), (29, (.iload 4, 31, 0, 0)), (31, (.iaload, 32, 0, 0))],
   [(32, (.ifCond .ne 17, 35, 49, 0)), (35, (.lload_n 2, 36, 0, 0)), (36, (.lconst 0, 37, 0, 0)), (37, (.aload_n 0, 38, 0, 0)), (38, (.getfield 15, 41, 1, 65)), (41, (.iload 4, 43, 0, 0)), (43, (.laload, 44, 0, 0)), (44, (.invokestatic 42, 47, 0, 9004)), (47, (.ladd, 48, 0, 0))],
   [(48, (.lstore_n 2, 49, 0, 0)), (49, (.iinc 4 1, 52, 0, 3)), (52, (.goto (-47), 55, 5, 0)), (55, (.lload_n 2, 56, 0, 0)), (56, (.lreturn, 57, 0, 0))]])
noncomputable def p_Entries_drawnOn : mRec := (2, 2, 2, 2, false, [],
  [[(0, (.aload_n 0, 1, 0, 0)), (1, (.iload_n 1, 2, 0, 0)), (2, (.invokevirtual 48, 5, 0, 131)), (5, (.aload_n 0, 6, 0, 0)), (6, (.iload_n 1, 7, 0, 0)), (7, (.iconst 0, 8, 0, 4)), (8, (.invokevirtual 52, 11, 0, 133)), (11, (.lsub, 12, 0, 0)), (12, (.lreturn, 13, 0, 0))]])
noncomputable def p_Entries_sumOn : mRec := (6, 2, 3, 2, false, [5],
  [[(0, (.lconst 0, 1, 0, 0)), (1, (.lstore_n 3, 2, 0, 0)), (2, (.iconst 0, 3, 0, 4)), (3, (.istore 5, 5, 0, 0)), (5, (.iload 5, 7, 0, 0)), (7, (.aload_n 0, 8, 0, 0)), (8, (.getfield 31, 11, 6, 70)), (11, (.if_icmp .ge 41, 14, 52, 0)), (14, (.aload_n 0, 15, 0, 0)), (15, (.getfield 22, 18, 3, 67))],
   [(18, (.iload 5, 20, 0, 0)), (20, (.iaload, 21, 0, 0)), (21, (.iload_n 1, 22, 0, 0)), (22, (.if_icmp .ne 24, 25, 46, 0)), (25, (.aload_n 0, 26, 0, 0)), (26, (.getfield 11, 29, 0, 64)), (29, (.iload 5, 31, 0, 0)), (31, (.iaload, 32, 0, 0))],
   [(32, (.iload_n 2, 33, 0, 0)), (33, (.if_icmp .ne 13, 36, 46, 0)), (36, (.lload_n 3, 37, 0, 0)), (37, (.aload_n 0, 38, 0, 0)), (38, (.getfield 15, 41, 1, 65)), (41, (.iload 5, 43, 0, 0)), (43, (.laload, 44, 0, 0)), (44, (.ladd, 45, 0, 0)), (45, (.lstore_n 3, 46, 0, 0)), (46, (.iinc 5 1, 49, 0, 3))],
   [(49, (.goto (-44), 52, 5, 0)), (52, (.lload_n 3, 53, 0, 0)), (53, (.lreturn, 54, 0, 0))]])
noncomputable def p_Entries_sizeOn : mRec := (2, 1, 2, 2, false, [],
  [[(0, (.aload_n 0, 1, 0, 0)), (1, (.iload_n 1, 2, 0, 0)), (2, (.iconst 0, 3, 0, 4)), (3, (.sipush 1000, 6, 0, 33)), (6, (.invokevirtual 56, 9, 0, 135)), (9, (.ireturn, 10, 0, 0))]])
noncomputable def p_Entries_sizeValued : mRec := (6, 1, 4, 2, false, [6],
  [[(0, (.iconst 0, 1, 0, 4)), (1, (.istore 4, 3, 0, 0)), (3, (.iconst 0, 4, 0, 4)), (4, (.istore 5, 6, 0, 0)), (6, (.iload 5, 8, 0, 0)), (8, (.aload_n 0, 9, 0, 0)), (9, (.getfield 31, 12, 6, 70)), (12, (.if_icmp .ge 45, 15, 57, 0)), (15, (.aload_n 0, 16, 0, 0))],
   [(16, (.getfield 22, 19, 3, 67)), (19, (.iload 5, 21, 0, 0)), (21, (.iaload, 22, 0, 0)), (22, (.iload_n 1, 23, 0, 0)), (23, (.if_icmp .ne 28, 26, 51, 0)), (26, (.aload_n 0, 27, 0, 0)), (27, (.getfield 19, 30, 2, 66)), (30, (.iload 5, 32, 0, 0))],
   [(32, (.iaload, 33, 0, 0)), (33, (.iload_n 2, 34, 0, 0)), (34, (.if_icmp .lt 17, 37, 51, 0)), (37, (.aload_n 0, 38, 0, 0)), (38, (.getfield 19, 41, 2, 66)), (41, (.iload 5, 43, 0, 0)), (43, (.iaload, 44, 0, 0)), (44, (.iload_n 3, 45, 0, 0)), (45, (.if_icmp .ge 6, 48, 51, 0))],
   [(48, (.iinc 4 1, 51, 0, 3)), (51, (.iinc 5 1, 54, 0, 3)), (54, (.goto (-48), 57, 6, 0)), (57, (.iload 4, 59, 0, 0)), (59, (.ireturn, 60, 0, 0))]])
noncomputable def p_V_line : mRec := (3, 1, 3, 11, false, [],
  [[(0, (.aload_n 0, 1, 0, 0)), (1, (.getfield 41, 4, 4, 644)), (4, (.iload_n 1, 5, 0, 0)), (5, (.invokevirtual 211, 8, 0, 119)), (8, (.ifCond .eq 7, 11, 15, 0)), (11, (.iload_n 2, 12, 0, 0)), (12, (.ifCond .ge 6, 15, 18, 0)), (15, (.bipush (-2), 17, 0, 32))],
   [(17, (.ireturn, 18, 0, 0)), (18, (.aload_n 0, 19, 0, 0)), (19, (.getfield 41, 22, 4, 644)), (22, (.getfield 63, 25, 1, 129)), (25, (.iload_n 1, 26, 0, 0)), (26, (.iload_n 2, 27, 0, 0)), (27, (.invokevirtual 248, 30, 0, 137)), (30, (.ireturn, 31, 0, 0))]])
noncomputable def p_Entries_onPage : mRec := (5, 1, 3, 2, false, [5],
  [[(0, (.iconst 0, 1, 0, 4)), (1, (.istore_n 3, 2, 0, 0)), (2, (.iconst 0, 3, 0, 4)), (3, (.istore 4, 5, 0, 0)), (5, (.iload 4, 7, 0, 0)), (7, (.aload_n 0, 8, 0, 0)), (8, (.getfield 31, 11, 6, 70)), (11, (.if_icmp .ge 31, 14, 42, 0)), (14, (.aload_n 0, 15, 0, 0)), (15, (.getfield 22, 18, 3, 67))],
   [(18, (.iload 4, 20, 0, 0)), (20, (.iaload, 21, 0, 0)), (21, (.iload_n 1, 22, 0, 0)), (22, (.if_icmp .ne 14, 25, 36, 0)), (25, (.iload_n 3, 26, 0, 0)), (26, (.iload_n 2, 27, 0, 0)), (27, (.if_icmp .ne 6, 30, 33, 0)), (30, (.iload 4, 32, 0, 0))],
   [(32, (.ireturn, 33, 0, 0)), (33, (.iinc 3 1, 36, 0, 3)), (36, (.iinc 4 1, 39, 0, 3)), (39, (.goto (-34), 42, 5, 0)), (42, (.iconst (-1), 43, 0, 1)), (43, (.ireturn, 44, 0, 0))]])
noncomputable def p_V_mean : mRec := (3, 2, 3, 11, false, [],
  [[(0, (.aload_n 0, 1, 0, 0)), (1, (.getfield 41, 4, 4, 644)), (4, (.iload_n 1, 5, 0, 0)), (5, (.invokevirtual 211, 8, 0, 119)), (8, (.ifCond .ne 7, 11, 15, 0)), (11, (.ldc2_w 149, 14, 0, 3)), (14, (.lreturn, 15, 0, 0)), (15, (.iload_n 2, 16, 0, 0))],
   [(16, (.lookupswitch 46 #[(0, 28), (1, 37)], 44, 0, 8))],
   [(44, (.aload_n 0, 45, 0, 0)), (45, (.getfield 50, 48, 5, 645))],
   [(48, (.iload_n 1, 49, 0, 0)), (49, (.invokevirtual 251, 52, 0, 139)), (52, (.lreturn, 53, 0, 0)), (53, (.aload_n 0, 54, 0, 0)), (54, (.getfield 50, 57, 5, 645)), (57, (.iload_n 1, 58, 0, 0)), (58, (.invokevirtual 254, 61, 0, 142)), (61, (.lreturn, 62, 0, 0)), (62, (.ldc2_w 149, 65, 0, 3))],
   [(65, (.lreturn, 66, 0, 0))]])
noncomputable def p_Course_meanAbove : mRec := (4, 2, 2, 1, false, [],
  [[(0, (.aload_n 0, 1, 0, 0)), (1, (.iload_n 1, 2, 0, 0)), (2, (.invokevirtual 50, 5, 0, 140)), (5, (.lstore_n 2, 6, 0, 0)), (6, (.lload_n 2, 7, 0, 0)), (7, (.aload_n 0, 8, 0, 0)), (8, (.lload_n 2, 9, 0, 0)), (9, (.invokevirtual 53, 12, 0, 141)), (12, (.i2l, 13, 0, 0)), (13, (.ldiv, 14, 0, 0)), (14, (.lreturn, 15, 0, 0))]])
noncomputable def p_Course_standingsOf : mRec := (6, 2, 2, 1, false, [16],
  [[(0, (.lconst 0, 1, 0, 0)), (1, (.lstore_n 2, 2, 0, 0)), (2, (.aload_n 0, 3, 0, 0)), (3, (.getfield 9, 6, 0, 0)), (6, (.iload_n 1, 7, 0, 0)), (7, (.invokevirtual 22, 10, 0, 71)), (10, (.istore 4, 12, 0, 0)), (12, (.iload 4, 14, 0, 0)), (14, (.istore 5, 16, 0, 0))],
   [(16, (.iload 5, 18, 0, 0)), (18, (.iload 4, 20, 0, 0)), (20, (.aload_n 0, 21, 0, 0)), (21, (.getfield 9, 24, 0, 0)), (24, (.invokevirtual 26, 27, 0, 88)), (27, (.iadd, 28, 0, 0)), (28, (.if_icmp .ge 21, 31, 49, 0)), (31, (.lload_n 2, 32, 0, 0))],
   [(32, (.aload_n 0, 33, 0, 0)), (33, (.getfield 9, 36, 0, 0)), (36, (.iload 5, 38, 0, 0)), (38, (.invokevirtual 30, 41, 0, 110)), (41, (.ladd, 42, 0, 0)), (42, (.lstore_n 2, 43, 0, 0)), (43, (.iinc 5 1, 46, 0, 3)), (46, (.goto (-30), 49, 16, 0))],
   [(49, (.lload_n 2, 50, 0, 0)), (50, (.lreturn, 51, 0, 0))]])
noncomputable def p_Course_commonDivisor : mRec := (4, 1, 2, 1, false, [8],
  [[(0, (.aload_n 0, 1, 0, 0)), (1, (.getfield 9, 4, 0, 0)), (4, (.invokevirtual 26, 7, 0, 88)), (7, (.istore_n 3, 8, 0, 0)), (8, (.iload_n 3, 9, 0, 0)), (9, (.iconst 1, 10, 0, 3)), (10, (.if_icmp .le 32, 13, 42, 0)), (13, (.aload_n 0, 14, 0, 0)), (14, (.getfield 9, 17, 0, 0))],
   [(17, (.invokevirtual 26, 20, 0, 88)), (20, (.iload_n 3, 21, 0, 0)), (21, (.irem, 22, 0, 0)), (22, (.ifCond .ne 14, 25, 36, 0)), (25, (.lload_n 1, 26, 0, 0)), (26, (.iload_n 3, 27, 0, 0)), (27, (.i2l, 28, 0, 0)), (28, (.lrem, 29, 0, 0)), (29, (.lconst 0, 30, 0, 0)), (30, (.lcmp, 34, 36, 1)), (31, (.ifCond .ne 5, 34, 36, 0))],
   [(34, (.iload_n 3, 35, 0, 0)), (35, (.ireturn, 36, 0, 0)), (36, (.iinc 3 (-1), 39, 0, 1)), (39, (.goto (-31), 42, 8, 0)), (42, (.iconst 1, 43, 0, 3)), (43, (.ireturn, 44, 0, 0))]])
noncomputable def p_Course_meanBelow : mRec := (2, 2, 2, 1, false, [],
  [[(0, (.aload_n 0, 1, 0, 0)), (1, (.getfield 9, 4, 0, 0)), (4, (.invokevirtual 26, 7, 0, 88)), (7, (.aload_n 0, 8, 0, 0)), (8, (.aload_n 0, 9, 0, 0)), (9, (.iload_n 1, 10, 0, 0)), (10, (.invokevirtual 50, 13, 0, 140)), (13, (.invokevirtual 53, 16, 0, 141))],
   [(16, (.idiv, 17, 0, 0)), (17, (.i2l, 18, 0, 0)), (18, (.lreturn, 19, 0, 0))]])
noncomputable def p_V_earned : mRec := (3, 2, 3, 11, false, [],
  [[(0, (.aload_n 0, 1, 0, 0)), (1, (.getfield 41, 4, 4, 644)), (4, (.iload_n 1, 5, 0, 0)), (5, (.invokevirtual 211, 8, 0, 119)), (8, (.ifCond .eq 17, 11, 25, 0)), (11, (.aload_n 0, 12, 0, 0)), (12, (.getfield 41, 15, 4, 644)), (15, (.getfield 123, 18, 0, 128))],
   [(18, (.iload_n 2, 19, 0, 0)), (19, (.invokevirtual 178, 22, 0, 105)), (22, (.ifCond .ne 7, 25, 29, 0)), (25, (.ldc2_w 149, 28, 0, 3)), (28, (.lreturn, 29, 0, 0)), (29, (.aload_n 0, 30, 0, 0)), (30, (.getfield 50, 33, 5, 645))],
   [(33, (.iload_n 1, 34, 0, 0)), (34, (.iload_n 2, 35, 0, 0)), (35, (.invokevirtual 257, 38, 0, 144)), (38, (.lreturn, 39, 0, 0))]])
noncomputable def p_Course_creditOfTier : mRec := (7, 2, 3, 1, false, [16],
  [[(0, (.lconst 0, 1, 0, 0)), (1, (.lstore_n 3, 2, 0, 0)), (2, (.aload_n 0, 3, 0, 0)), (3, (.getfield 9, 6, 0, 0)), (6, (.iload_n 1, 7, 0, 0)), (7, (.invokevirtual 22, 10, 0, 71)), (10, (.istore 5, 12, 0, 0)), (12, (.iload 5, 14, 0, 0)), (14, (.istore 6, 16, 0, 0))],
   [(16, (.iload 6, 18, 0, 0)), (18, (.iload 5, 20, 0, 0)), (20, (.aload_n 0, 21, 0, 0)), (21, (.getfield 9, 24, 0, 0)), (24, (.invokevirtual 26, 27, 0, 88)), (27, (.iadd, 28, 0, 0)), (28, (.if_icmp .ge 41, 31, 69, 0)), (31, (.lload_n 3, 32, 0, 0))],
   [(32, (.aload_n 0, 33, 0, 0)), (33, (.getfield 21, 36, 1, 1)), (36, (.iload_n 2, 37, 0, 0)), (37, (.aload_n 0, 38, 0, 0)), (38, (.getfield 9, 41, 0, 0)), (41, (.iload 6, 43, 0, 0)), (43, (.invokevirtual 30, 46, 0, 110)), (46, (.invokevirtual 43, 49, 0, 112))],
   [(49, (.aload_n 0, 50, 0, 0)), (50, (.getfield 21, 53, 1, 1)), (53, (.iload_n 2, 54, 0, 0)), (54, (.iload 6, 56, 0, 0)), (56, (.invokevirtual 46, 59, 0, 107)), (59, (.i2l, 60, 0, 0)), (60, (.lmul, 61, 0, 0)), (61, (.ladd, 62, 0, 0)), (62, (.lstore_n 3, 63, 0, 0)), (63, (.iinc 6 1, 66, 0, 3))],
   [(66, (.goto (-50), 69, 16, 0)), (69, (.lload_n 3, 70, 0, 0)), (70, (.lreturn, 71, 0, 0))]])
noncomputable def p_V_backdated : mRec := (6, 2, 3, 11, false, [],
  [[(0, (.aload_n 0, 1, 0, 0)), (1, (.getfield 41, 4, 4, 644)), (4, (.iload_n 1, 5, 0, 0)), (5, (.invokevirtual 211, 8, 0, 119)), (8, (.ifCond .ne 7, 11, 15, 0)), (11, (.ldc2_w 149, 14, 0, 3)), (14, (.lreturn, 15, 0, 0)), (15, (.aload_n 0, 16, 0, 0))],
   [(16, (.getfield 41, 19, 4, 644)), (19, (.getfield 63, 22, 1, 129)), (22, (.astore_n 3, 23, 0, 0)), (23, (.aload_n 0, 24, 0, 0)), (24, (.getfield 41, 27, 4, 644)), (27, (.iload_n 1, 28, 0, 0)), (28, (.invokevirtual 260, 31, 0, 71)), (31, (.istore 4, 33, 0, 0))],
   [(33, (.iload 4, 35, 0, 0)), (35, (.aload_n 0, 36, 0, 0)), (36, (.getfield 41, 39, 4, 644)), (39, (.invokevirtual 116, 42, 0, 88)), (42, (.iadd, 43, 0, 0)), (43, (.istore 5, 45, 0, 0)), (45, (.iload_n 2, 46, 0, 0)), (46, (.tableswitch 72 0 3 #[30, 40, 49, 61], 76, 0, 9))],
   [],
   [(76, (.aload_n 3, 77, 0, 0)), (77, (.iload_n 1, 78, 0, 0)), (78, (.iconst 0, 79, 0, 4)), (79, (.iload 4, 81, 0, 0))],
   [(81, (.invokevirtual 263, 84, 0, 135)), (84, (.i2l, 85, 0, 0)), (85, (.lreturn, 86, 0, 0)), (86, (.aload_n 3, 87, 0, 0)), (87, (.iload_n 1, 88, 0, 0)), (88, (.iconst 0, 89, 0, 4)), (89, (.iload 4, 91, 0, 0)), (91, (.invokevirtual 267, 94, 0, 146)), (94, (.lreturn, 95, 0, 0)), (95, (.aload_n 3, 96, 0, 0))],
   [(96, (.iload_n 1, 97, 0, 0)), (97, (.iload 5, 99, 0, 0)), (99, (.sipush 1000, 102, 0, 33)), (102, (.invokevirtual 263, 105, 0, 135)), (105, (.i2l, 106, 0, 0)), (106, (.lreturn, 107, 0, 0)), (107, (.aload_n 3, 108, 0, 0)), (108, (.iload_n 1, 109, 0, 0)), (109, (.iload 5, 111, 0, 0)), (111, (.sipush 1000, 114, 0, 33))],
   [(114, (.invokevirtual 267, 117, 0, 146)), (117, (.lreturn, 118, 0, 0)), (118, (.ldc2_w 149, 121, 0, 3)), (121, (.lreturn, 122, 0, 0))]])
noncomputable def p_Entries_sumValued : mRec := (7, 2, 4, 2, false, [6],
  [[(0, (.lconst 0, 1, 0, 0)), (1, (.lstore 4, 3, 0, 0)), (3, (.iconst 0, 4, 0, 4)), (4, (.istore 6, 6, 0, 0)), (6, (.iload 6, 8, 0, 0)), (8, (.aload_n 0, 9, 0, 0)), (9, (.getfield 31, 12, 6, 70)), (12, (.if_icmp .ge 54, 15, 66, 0)), (15, (.aload_n 0, 16, 0, 0))],
   [(16, (.getfield 22, 19, 3, 67)), (19, (.iload 6, 21, 0, 0)), (21, (.iaload, 22, 0, 0)), (22, (.iload_n 1, 23, 0, 0)), (23, (.if_icmp .ne 37, 26, 60, 0)), (26, (.aload_n 0, 27, 0, 0)), (27, (.getfield 19, 30, 2, 66)), (30, (.iload 6, 32, 0, 0))],
   [(32, (.iaload, 33, 0, 0)), (33, (.iload_n 2, 34, 0, 0)), (34, (.if_icmp .lt 26, 37, 60, 0)), (37, (.aload_n 0, 38, 0, 0)), (38, (.getfield 19, 41, 2, 66)), (41, (.iload 6, 43, 0, 0)), (43, (.iaload, 44, 0, 0)), (44, (.iload_n 3, 45, 0, 0)), (45, (.if_icmp .ge 15, 48, 60, 0))],
   [(48, (.lload 4, 50, 0, 0)), (50, (.aload_n 0, 51, 0, 0)), (51, (.getfield 15, 54, 1, 65)), (54, (.iload 6, 56, 0, 0)), (56, (.laload, 57, 0, 0)), (57, (.ladd, 58, 0, 0)), (58, (.lstore 4, 60, 0, 0)), (60, (.iinc 6 1, 63, 0, 3)), (63, (.goto (-57), 66, 6, 0))],
   [(66, (.lload 4, 68, 0, 0)), (68, (.lreturn, 69, 0, 0))]])
noncomputable def p_V_bears : mRec := (2, 1, 2, 11, false, [],
  [[(0, (.aload_n 0, 1, 0, 0)), (1, (.getfield 41, 4, 4, 644)), (4, (.iload_n 1, 5, 0, 0)), (5, (.invokevirtual 211, 8, 0, 119)), (8, (.ifCond .ne 6, 11, 14, 0)), (11, (.bipush (-2), 13, 0, 32)), (13, (.ireturn, 14, 0, 0)), (14, (.aload_n 0, 15, 0, 0)), (15, (.getfield 41, 18, 4, 644))],
   [(18, (.getfield 63, 21, 1, 129)), (21, (.aload_n 0, 22, 0, 0)), (22, (.getfield 41, 25, 4, 644)), (25, (.iload_n 1, 26, 0, 0)), (26, (.invokevirtual 260, 29, 0, 71)), (29, (.aload_n 0, 30, 0, 0)), (30, (.getfield 41, 33, 4, 644))],
   [(33, (.invokevirtual 116, 36, 0, 88)), (36, (.iadd, 37, 0, 0)), (37, (.invokevirtual 271, 40, 0, 148)), (40, (.ireturn, 41, 0, 0))]])
noncomputable def p_Entries_valueDaysAhead : mRec := (6, 1, 2, 2, false, [7],
  [[(0, (.iconst 0, 1, 0, 4)), (1, (.istore_n 2, 2, 0, 0)), (2, (.iconst (-1), 3, 0, 1)), (3, (.istore_n 3, 4, 0, 0)), (4, (.iconst 0, 5, 0, 4)), (5, (.istore 4, 7, 0, 0)), (7, (.iload 4, 9, 0, 0)), (9, (.aload_n 0, 10, 0, 0)), (10, (.getfield 31, 13, 6, 70)), (13, (.if_icmp .ge 41, 16, 54, 0))],
   [(16, (.aload_n 0, 17, 0, 0)), (17, (.getfield 19, 20, 2, 66)), (20, (.aload_n 0, 21, 0, 0)), (21, (.getfield 28, 24, 5, 69)), (24, (.iload 4, 26, 0, 0)), (26, (.iaload, 27, 0, 0)), (27, (.iaload, 28, 0, 0)), (28, (.istore 5, 30, 0, 0)), (30, (.iload 5, 32, 0, 0))],
   [(32, (.iload_n 1, 33, 0, 0)), (33, (.if_icmp .ge 15, 36, 48, 0)), (36, (.iload 5, 38, 0, 0)), (38, (.iload_n 3, 39, 0, 0)), (39, (.if_icmp .eq 9, 42, 48, 0)), (42, (.iinc 2 1, 45, 0, 3)), (45, (.iload 5, 47, 0, 0)), (47, (.istore_n 3, 48, 0, 0))],
   [(48, (.iinc 4 1, 51, 0, 3)), (51, (.goto (-44), 54, 7, 0)), (54, (.iload_n 2, 55, 0, 0)), (55, (.ireturn, 56, 0, 0))]])
noncomputable def p_V_steps : mRec := (1, 1, 1, 11, false, [],
  [[(0, (.aload_n 0, 1, 0, 0)), (1, (.invokevirtual 171, 4, 0, 102)), (4, (.ifCond .eq 8, 7, 12, 0)), (7, (.bipush (-2), 9, 0, 32)), (9, (.goto 17, 12, 26, 0)), (12, (.aload_n 0, 13, 0, 0)), (13, (.getfield 50, 16, 5, 645))],
   [(16, (.aload_n 0, 17, 0, 0)), (17, (.getfield 41, 20, 4, 644)), (20, (.invokevirtual 274, 23, 0, 67)), (23, (.invokevirtual 277, 26, 0, 150)), (26, (.ireturn, 27, 0, 0))]])
noncomputable def p_Course_stepsTill : mRec := (4, 1, 2, 1, false, [4],
  [[(0, (.iconst 0, 1, 0, 4)), (1, (.istore_n 2, 2, 0, 0)), (2, (.iconst 1, 3, 0, 3)), (3, (.istore_n 3, 4, 0, 0)), (4, (.iload_n 3, 5, 0, 0)), (5, (.iload_n 1, 6, 0, 0)), (6, (.if_icmp .ge 20, 9, 26, 0)), (9, (.aload_n 0, 10, 0, 0)), (10, (.iload_n 3, 11, 0, 0)), (11, (.invokevirtual 57, 14, 0, 151)), (14, (.ifCond .eq 6, 17, 20, 0))],
   [(17, (.iinc 2 1, 20, 0, 3)), (20, (.iinc 3 1, 23, 0, 3)), (23, (.goto (-19), 26, 4, 0)), (26, (.iload_n 2, 27, 0, 0)), (27, (.ireturn, 28, 0, 0))]])
noncomputable def p_Course_isStep : mRec := (2, 3, 2, 1, false, [],
  [[(0, (.aload_n 0, 1, 0, 0)), (1, (.getfield 9, 4, 0, 0)), (4, (.iload_n 1, 5, 0, 0)), (5, (.invokevirtual 30, 8, 0, 110)), (8, (.aload_n 0, 9, 0, 0)), (9, (.getfield 9, 12, 0, 0)), (12, (.iload_n 1, 13, 0, 0)), (13, (.iconst 1, 14, 0, 3)), (14, (.isub, 15, 0, 0)), (15, (.invokevirtual 30, 18, 0, 110))],
   [(18, (.lcmp, 22, 26, 0)), (19, (.ifCond .eq 7, 22, 26, 0)), (22, (.iconst 1, 23, 0, 3)), (23, (.goto 4, 26, 27, 0)), (26, (.iconst 0, 27, 0, 4)), (27, (.ireturn, 28, 0, 0))]])
noncomputable def p_V_step : mRec := (2, 1, 2, 11, false, [],
  [[(0, (.iload_n 1, 1, 0, 0)), (1, (.ifCond .lt 10, 4, 11, 0)), (4, (.aload_n 0, 5, 0, 0)), (5, (.invokevirtual 171, 8, 0, 102)), (8, (.ifCond .eq 8, 11, 16, 0)), (11, (.bipush (-2), 13, 0, 32)), (13, (.goto 11, 16, 24, 0))],
   [(16, (.aload_n 0, 17, 0, 0)), (17, (.getfield 50, 20, 5, 645)), (20, (.iload_n 1, 21, 0, 0)), (21, (.invokevirtual 280, 24, 0, 153)), (24, (.ireturn, 25, 0, 0))]])
noncomputable def p_Course_stepDay : mRec := (4, 1, 2, 1, false, [4],
  [[(0, (.iconst 0, 1, 0, 4)), (1, (.istore_n 2, 2, 0, 0)), (2, (.iconst 1, 3, 0, 3)), (3, (.istore_n 3, 4, 0, 0)), (4, (.iload_n 3, 5, 0, 0)), (5, (.aload_n 0, 6, 0, 0)), (6, (.getfield 9, 9, 0, 0)), (9, (.invokevirtual 61, 12, 0, 67)), (12, (.if_icmp .ge 27, 15, 39, 0)), (15, (.aload_n 0, 16, 0, 0))],
   [(16, (.iload_n 3, 17, 0, 0)), (17, (.invokevirtual 57, 20, 0, 151)), (20, (.ifCond .eq 13, 23, 33, 0)), (23, (.iload_n 2, 24, 0, 0)), (24, (.iload_n 1, 25, 0, 0)), (25, (.if_icmp .ne 5, 28, 30, 0)), (28, (.iload_n 3, 29, 0, 0)), (29, (.ireturn, 30, 0, 0)), (30, (.iinc 2 1, 33, 0, 3))],
   [(33, (.iinc 3 1, 36, 0, 3)), (36, (.goto (-32), 39, 4, 0)), (39, (.iconst (-1), 40, 0, 1)), (40, (.ireturn, 41, 0, 0))]])
noncomputable def p_V_lowest : mRec := (1, 2, 1, 11, false, [],
  [[(0, (.aload_n 0, 1, 0, 0)), (1, (.invokevirtual 171, 4, 0, 102)), (4, (.ifCond .eq 9, 7, 13, 0)), (7, (.ldc2_w 149, 10, 0, 3)), (10, (.goto 10, 13, 20, 0)), (13, (.aload_n 0, 14, 0, 0)), (14, (.getfield 50, 17, 5, 645))],
   [(17, (.invokevirtual 283, 20, 0, 155)), (20, (.lreturn, 21, 0, 0))]])
noncomputable def p_Course_leastStanding : mRec := (4, 2, 1, 1, false, [11],
  [[(0, (.aload_n 0, 1, 0, 0)), (1, (.getfield 9, 4, 0, 0)), (4, (.iconst 0, 5, 0, 4)), (5, (.invokevirtual 30, 8, 0, 110)), (8, (.lstore_n 1, 9, 0, 0)), (9, (.iconst 1, 10, 0, 3)), (10, (.istore_n 3, 11, 0, 0)), (11, (.iload_n 3, 12, 0, 0)), (12, (.aload_n 0, 13, 0, 0)), (13, (.getfield 9, 16, 0, 0))],
   [(16, (.invokevirtual 61, 19, 0, 67)), (19, (.if_icmp .ge 22, 22, 41, 0)), (22, (.lload_n 1, 23, 0, 0)), (23, (.aload_n 0, 24, 0, 0)), (24, (.getfield 9, 27, 0, 0)), (27, (.iload_n 3, 28, 0, 0)), (28, (.invokevirtual 30, 31, 0, 110)), (31, (.invokestatic 64, 34, 0, 9005))],
   [(34, (.lstore_n 1, 35, 0, 0)), (35, (.iinc 3 1, 38, 0, 3)), (38, (.goto (-27), 41, 11, 0)), (41, (.lload_n 1, 42, 0, 0)), (42, (.lreturn, 43, 0, 0))]])
noncomputable def p_V_beyond : mRec := (1, 1, 1, 11, false, [],
  [[(0, (.aload_n 0, 1, 0, 0)), (1, (.invokevirtual 171, 4, 0, 102)), (4, (.ifCond .eq 8, 7, 12, 0)), (7, (.bipush (-2), 9, 0, 32)), (9, (.goto 10, 12, 19, 0)), (12, (.aload_n 0, 13, 0, 0)), (13, (.getfield 50, 16, 5, 645))],
   [(16, (.invokevirtual 287, 19, 0, 157)), (19, (.ireturn, 20, 0, 0))]])
noncomputable def p_Course_daysBeyond : mRec := (3, 1, 1, 1, false, [4],
  [[(0, (.iconst 0, 1, 0, 4)), (1, (.istore_n 1, 2, 0, 0)), (2, (.iconst 0, 3, 0, 4)), (3, (.istore_n 2, 4, 0, 0)), (4, (.iload_n 2, 5, 0, 0)), (5, (.aload_n 0, 6, 0, 0)), (6, (.getfield 9, 9, 0, 0)), (9, (.invokevirtual 61, 12, 0, 67)), (12, (.if_icmp .ge 22, 15, 34, 0)), (15, (.aload_n 0, 16, 0, 0))],
   [(16, (.iload_n 2, 17, 0, 0)), (17, (.invokevirtual 70, 20, 0, 158)), (20, (.lconst 0, 21, 0, 0)), (21, (.lcmp, 25, 28, 3)), (22, (.ifCond .ge 6, 25, 28, 0)), (25, (.iinc 1 1, 28, 0, 3)), (28, (.iinc 2 1, 31, 0, 3)), (31, (.goto (-27), 34, 4, 0))],
   [(34, (.iload_n 1, 35, 0, 0)), (35, (.ireturn, 36, 0, 0))]])
noncomputable def p_Course_room : mRec := (2, 2, 2, 1, false, [],
  [[(0, (.aload_n 0, 1, 0, 0)), (1, (.getfield 9, 4, 0, 0)), (4, (.iload_n 1, 5, 0, 0)), (5, (.invokevirtual 30, 8, 0, 110)), (8, (.aload_n 0, 9, 0, 0)), (9, (.getfield 21, 12, 1, 1)), (12, (.bipush 6, 14, 0, 26)), (14, (.iload_n 1, 15, 0, 0)), (15, (.invokevirtual 46, 18, 0, 107))],
   [(18, (.i2l, 19, 0, 0)), (19, (.ladd, 20, 0, 0)), (20, (.lreturn, 21, 0, 0))]])
noncomputable def p_V_firstBeyond : mRec := (1, 1, 1, 11, false, [],
  [[(0, (.aload_n 0, 1, 0, 0)), (1, (.invokevirtual 171, 4, 0, 102)), (4, (.ifCond .eq 8, 7, 12, 0)), (7, (.bipush (-2), 9, 0, 32)), (9, (.goto 10, 12, 19, 0)), (12, (.aload_n 0, 13, 0, 0)), (13, (.getfield 50, 16, 5, 645))],
   [(16, (.invokevirtual 290, 19, 0, 160)), (19, (.ireturn, 20, 0, 0))]])
noncomputable def p_Course_firstDayBeyond : mRec := (2, 1, 1, 1, false, [2],
  [[(0, (.iconst 0, 1, 0, 4)), (1, (.istore_n 1, 2, 0, 0)), (2, (.iload_n 1, 3, 0, 0)), (3, (.aload_n 0, 4, 0, 0)), (4, (.getfield 9, 7, 0, 0)), (7, (.invokevirtual 61, 10, 0, 67)), (10, (.if_icmp .ge 21, 13, 31, 0)), (13, (.aload_n 0, 14, 0, 0)), (14, (.iload_n 1, 15, 0, 0)), (15, (.invokevirtual 70, 18, 0, 158))],
   [(18, (.lconst 0, 19, 0, 0)), (19, (.lcmp, 23, 25, 3)), (20, (.ifCond .ge 5, 23, 25, 0)), (23, (.iload_n 1, 24, 0, 0)), (24, (.ireturn, 25, 0, 0)), (25, (.iinc 1 1, 28, 0, 3)), (28, (.goto (-26), 31, 2, 0)), (31, (.iconst (-1), 32, 0, 1))],
   [(32, (.ireturn, 33, 0, 0))]])
noncomputable def p_V_most : mRec := (2, 1, 2, 11, false, [],
  [[(0, (.aload_n 0, 1, 0, 0)), (1, (.getfield 41, 4, 4, 644)), (4, (.iload_n 1, 5, 0, 0)), (5, (.invokevirtual 181, 8, 0, 106)), (8, (.ifCond .eq 14, 11, 22, 0)), (11, (.aload_n 0, 12, 0, 0)), (12, (.getfield 50, 15, 5, 645)), (15, (.iload_n 1, 16, 0, 0))],
   [(16, (.invokevirtual 293, 19, 0, 162)), (19, (.goto 5, 22, 24, 0)), (22, (.bipush (-2), 24, 0, 32)), (24, (.ireturn, 25, 0, 0))]])
noncomputable def p_Course_mostDrawn : mRec := (4, 1, 2, 1, false, [],
  [[(0, (.aload_n 0, 1, 0, 0)), (1, (.iload_n 1, 2, 0, 0)), (2, (.invokevirtual 73, 5, 0, 163)), (5, (.lstore_n 2, 6, 0, 0)), (6, (.lload_n 2, 7, 0, 0)), (7, (.lconst 0, 8, 0, 0)), (8, (.lcmp, 12, 16, 3)), (9, (.ifCond .ge 7, 12, 16, 0)), (12, (.iconst (-1), 13, 0, 1)), (13, (.goto 11, 16, 24, 0))],
   [(16, (.lload_n 2, 17, 0, 0)), (17, (.ldc2_w 76, 20, 0, 4)), (20, (.invokestatic 64, 23, 0, 9005)), (23, (.l2i, 24, 0, 0)), (24, (.ireturn, 25, 0, 0))]])
noncomputable def p_Course_roomFrom : mRec := (5, 2, 2, 1, false, [11],
  [[(0, (.aload_n 0, 1, 0, 0)), (1, (.iload_n 1, 2, 0, 0)), (2, (.invokevirtual 70, 5, 0, 158)), (5, (.lstore_n 2, 6, 0, 0)), (6, (.iload_n 1, 7, 0, 0)), (7, (.iconst 1, 8, 0, 3)), (8, (.iadd, 9, 0, 0)), (9, (.istore 4, 11, 0, 0)), (11, (.iload 4, 13, 0, 0)), (13, (.aload_n 0, 14, 0, 0)), (14, (.getfield 9, 17, 0, 0))],
   [(17, (.invokevirtual 61, 20, 0, 67)), (20, (.if_icmp .ge 20, 23, 40, 0)), (23, (.lload_n 2, 24, 0, 0)), (24, (.aload_n 0, 25, 0, 0)), (25, (.iload 4, 27, 0, 0)), (27, (.invokevirtual 70, 30, 0, 158)), (30, (.invokestatic 64, 33, 0, 9005))],
   [(33, (.lstore_n 2, 34, 0, 0)), (34, (.iinc 4 1, 37, 0, 3)), (37, (.goto (-26), 40, 11, 0)), (40, (.lload_n 2, 41, 0, 0)), (41, (.lreturn, 42, 0, 0))]])
noncomputable def p_V_least : mRec := (2, 1, 2, 11, false, [],
  [[(0, (.aload_n 0, 1, 0, 0)), (1, (.getfield 41, 4, 4, 644)), (4, (.iload_n 1, 5, 0, 0)), (5, (.invokevirtual 181, 8, 0, 106)), (8, (.ifCond .eq 14, 11, 22, 0)), (11, (.aload_n 0, 12, 0, 0)), (12, (.getfield 50, 15, 5, 645)), (15, (.iload_n 1, 16, 0, 0))],
   [(16, (.invokevirtual 296, 19, 0, 165)), (19, (.goto 5, 22, 24, 0)), (22, (.bipush (-2), 24, 0, 32)), (24, (.ireturn, 25, 0, 0))]])
noncomputable def p_Course_leastPaid : mRec := (4, 1, 2, 1, false, [],
  [[(0, (.lconst 0, 1, 0, 0)), (1, (.aload_n 0, 2, 0, 0)), (2, (.iload_n 1, 3, 0, 0)), (3, (.invokevirtual 73, 6, 0, 163)), (6, (.lneg, 7, 0, 0)), (7, (.invokestatic 78, 10, 0, 9004)), (10, (.lstore_n 2, 11, 0, 0)), (11, (.lload_n 2, 12, 0, 0)), (12, (.ldc2_w 76, 15, 0, 4)), (15, (.lcmp, 19, 23, 5))],
   [(16, (.ifCond .le 7, 19, 23, 0)), (19, (.iconst (-1), 20, 0, 1)), (20, (.goto 5, 23, 25, 0)), (23, (.lload_n 2, 24, 0, 0)), (24, (.l2i, 25, 0, 0)), (25, (.ireturn, 26, 0, 0))]])
noncomputable def p_V_reaches : mRec := (2, 1, 2, 11, false, [],
  [[(0, (.aload_n 0, 1, 0, 0)), (1, (.invokevirtual 171, 4, 0, 102)), (4, (.ifCond .ne 16, 7, 20, 0)), (7, (.iload_n 1, 8, 0, 0)), (8, (.ldc_w 299, 11, 0, 34)), (11, (.ldc_w 300, 14, 0, 24)), (14, (.invokestatic 301, 17, 0, 167))],
   [(17, (.ifCond .ne 6, 20, 23, 0)), (20, (.bipush (-2), 22, 0, 32)), (22, (.ireturn, 23, 0, 0)), (23, (.aload_n 0, 24, 0, 0)), (24, (.getfield 50, 27, 5, 645)), (27, (.iload_n 1, 28, 0, 0)), (28, (.invokevirtual 305, 31, 0, 168)), (31, (.ireturn, 32, 0, 0))]])
noncomputable def p_V_isBetween : mRec := (3, 3, 3, 0, false, [],
  [[(0, (.iload_n 0, 1, 0, 0)), (1, (.iload_n 1, 2, 0, 0)), (2, (.if_icmp .lt 12, 5, 14, 0)), (5, (.iload_n 0, 6, 0, 0)), (6, (.iload_n 2, 7, 0, 0)), (7, (.if_icmp .gt 7, 10, 14, 0)), (10, (.iconst 1, 11, 0, 3)), (11, (.goto 4, 14, 15, 0)), (14, (.iconst 0, 15, 0, 4)), (15, (.ireturn, 16, 0, 0))]])
noncomputable def p_Course_firstDayAt : mRec := (3, 1, 2, 1, false, [2],
  [[(0, (.iconst 0, 1, 0, 4)), (1, (.istore_n 2, 2, 0, 0)), (2, (.iload_n 2, 3, 0, 0)), (3, (.aload_n 0, 4, 0, 0)), (4, (.getfield 9, 7, 0, 0)), (7, (.invokevirtual 61, 10, 0, 67)), (10, (.if_icmp .ge 25, 13, 35, 0)), (13, (.aload_n 0, 14, 0, 0)), (14, (.getfield 9, 17, 0, 0))],
   [(17, (.iload_n 2, 18, 0, 0)), (18, (.invokevirtual 30, 21, 0, 110)), (21, (.iload_n 1, 22, 0, 0)), (22, (.i2l, 23, 0, 0)), (23, (.lcmp, 27, 29, 2)), (24, (.ifCond .lt 5, 27, 29, 0)), (27, (.iload_n 2, 28, 0, 0)), (28, (.ireturn, 29, 0, 0)), (29, (.iinc 2 1, 32, 0, 3))],
   [(32, (.goto (-30), 35, 2, 0)), (35, (.iconst (-1), 36, 0, 1)), (36, (.ireturn, 37, 0, 0))]])
noncomputable def p_V_limitFor : mRec := (3, 1, 1, 11, false, [],
  [[(0, (.aload_n 0, 1, 0, 0)), (1, (.invokevirtual 171, 4, 0, 102)), (4, (.ifCond .eq 6, 7, 10, 0)), (7, (.bipush (-2), 9, 0, 32)), (9, (.ireturn, 10, 0, 0)), (10, (.lconst 0, 11, 0, 0)), (11, (.aload_n 0, 12, 0, 0)), (12, (.getfield 50, 15, 5, 645)), (15, (.invokevirtual 283, 18, 0, 155))],
   [(18, (.lneg, 19, 0, 0)), (19, (.invokestatic 308, 22, 0, 9004)), (22, (.lstore_n 1, 23, 0, 0)), (23, (.lload_n 1, 24, 0, 0)), (24, (.ldc2_w 314, 27, 0, 5)), (27, (.lcmp, 31, 35, 5)), (28, (.ifCond .le 7, 31, 35, 0)), (31, (.iconst (-1), 32, 0, 1))],
   [(32, (.goto 5, 35, 37, 0)), (35, (.lload_n 1, 36, 0, 0)), (36, (.l2i, 37, 0, 0)), (37, (.ireturn, 38, 0, 0))]])
noncomputable def p_V_all : mRec := (1, 2, 1, 11, false, [],
  [[(0, (.aload_n 0, 1, 0, 0)), (1, (.invokevirtual 171, 4, 0, 102)), (4, (.ifCond .eq 9, 7, 13, 0)), (7, (.ldc2_w 149, 10, 0, 3)), (10, (.goto 10, 13, 20, 0)), (13, (.aload_n 0, 14, 0, 0)), (14, (.getfield 41, 17, 4, 644))],
   [(17, (.invokevirtual 316, 20, 0, 171)), (20, (.lreturn, 21, 0, 0))]])
noncomputable def p_Ledger_interestOfAll : mRec := (1, 2, 1, 3, false, [],
  [[(0, (.aload_n 0, 1, 0, 0)), (1, (.aload_n 0, 2, 0, 0)), (2, (.getfield 25, 5, 2, 130)), (5, (.iconst 0, 6, 0, 4)), (6, (.lconst 0, 7, 0, 0)), (7, (.invokevirtual 138, 10, 0, 172)), (10, (.lreturn, 11, 0, 0))]])
noncomputable def p_Ledger_interestOfAllBy : mRec := (8, 2, 4, 3, false, [6],
  [[(0, (.lconst 0, 1, 0, 0)), (1, (.lstore 5, 3, 0, 0)), (3, (.iconst 0, 4, 0, 4)), (4, (.istore 7, 6, 0, 0)), (6, (.iload 7, 8, 0, 0)), (8, (.aload_n 0, 9, 0, 0)), (9, (.getfield 36, 12, 5, 133)), (12, (.if_icmp .ge 23, 15, 35, 0)), (15, (.lload 5, 17, 0, 0))],
   [(17, (.aload_n 0, 18, 0, 0)), (18, (.aload_n 1, 19, 0, 0)), (19, (.iload 7, 21, 0, 0)), (21, (.iload_n 2, 22, 0, 0)), (22, (.lload_n 3, 23, 0, 0)), (23, (.invokevirtual 135, 26, 0, 124)), (26, (.ladd, 27, 0, 0)), (27, (.lstore 5, 29, 0, 0)), (29, (.iinc 7 1, 32, 0, 3))],
   [(32, (.goto (-26), 35, 6, 0)), (35, (.lload 5, 37, 0, 0)), (37, (.lreturn, 38, 0, 0))]])
noncomputable def p_V_brought : mRec := (2, 2, 2, 11, false, [],
  [[(0, (.aload_n 0, 1, 0, 0)), (1, (.getfield 41, 4, 4, 644)), (4, (.getfield 63, 7, 1, 129)), (7, (.iload_n 1, 8, 0, 0)), (8, (.invokevirtual 146, 11, 0, 80)), (11, (.ifCond .eq 14, 14, 25, 0)), (14, (.aload_n 0, 15, 0, 0)), (15, (.getfield 57, 18, 6, 646))],
   [(18, (.iload_n 1, 19, 0, 0)), (19, (.invokevirtual 319, 22, 0, 174)), (22, (.goto 6, 25, 28, 0)), (25, (.ldc2_w 149, 28, 0, 3)), (28, (.lreturn, 29, 0, 0))]])
noncomputable def p_WhatIf_gainBy : mRec := (5, 2, 2, 10, false, [5],
  [[(0, (.lconst 0, 1, 0, 0)), (1, (.lstore_n 2, 2, 0, 0)), (2, (.iconst 0, 3, 0, 4)), (3, (.istore 4, 5, 0, 0)), (5, (.iload 4, 7, 0, 0)), (7, (.aload_n 0, 8, 0, 0)), (8, (.getfield 9, 11, 0, 576)), (11, (.invokevirtual 48, 14, 0, 89)), (14, (.if_icmp .ge 19, 17, 33, 0))],
   [(17, (.lload_n 2, 18, 0, 0)), (18, (.aload_n 0, 19, 0, 0)), (19, (.iload_n 1, 20, 0, 0)), (20, (.iload 4, 22, 0, 0)), (22, (.invokevirtual 52, 25, 0, 175)), (25, (.ladd, 26, 0, 0)), (26, (.lstore_n 2, 27, 0, 0)), (27, (.iinc 4 1, 30, 0, 3)), (30, (.goto (-25), 33, 5, 0))],
   [(33, (.lload_n 2, 34, 0, 0)), (34, (.lreturn, 35, 0, 0))]])
noncomputable def p_WhatIf_gainIn : mRec := (5, 2, 3, 10, false, [],
  [[(0, (.aload_n 0, 1, 0, 0)), (1, (.getfield 9, 4, 0, 576)), (4, (.aload_n 0, 5, 0, 0)), (5, (.getfield 9, 8, 0, 576)), (8, (.invokevirtual 27, 11, 0, 176)), (11, (.iload_n 2, 12, 0, 0)), (12, (.aload_n 0, 13, 0, 0)), (13, (.getfield 26, 16, 2, 578))],
   [(16, (.iload_n 1, 17, 0, 0)), (17, (.invokevirtual 31, 20, 0, 84)), (20, (.aload_n 0, 21, 0, 0)), (21, (.getfield 26, 24, 2, 578)), (24, (.iload_n 1, 25, 0, 0)), (25, (.invokevirtual 37, 28, 0, 83)), (28, (.lneg, 29, 0, 0)), (29, (.invokevirtual 41, 32, 0, 124))],
   [(32, (.lstore_n 3, 33, 0, 0)), (33, (.aload_n 0, 34, 0, 0)), (34, (.getfield 9, 37, 0, 576)), (37, (.iload_n 2, 38, 0, 0)), (38, (.invokevirtual 45, 41, 0, 123)), (41, (.lload_n 3, 42, 0, 0)), (42, (.lsub, 43, 0, 0)), (43, (.lreturn, 44, 0, 0))]])
noncomputable def p_Ledger_balances : mRec := (1, 6, 1, 3, false, [],
  [[(0, (.aload_n 0, 1, 0, 0)), (1, (.getfield 25, 4, 2, 130)), (4, (.areturn, 5, 0, 0))]])
noncomputable def p_V_moved : mRec := (3, 2, 3, 11, false, [],
  [[(0, (.aload_n 0, 1, 0, 0)), (1, (.getfield 41, 4, 4, 644)), (4, (.getfield 63, 7, 1, 129)), (7, (.iload_n 1, 8, 0, 0)), (8, (.invokevirtual 146, 11, 0, 80)), (11, (.ifCond .eq 14, 14, 25, 0)), (14, (.aload_n 0, 15, 0, 0)), (15, (.getfield 41, 18, 4, 644))],
   [(18, (.iload_n 2, 19, 0, 0)), (19, (.invokevirtual 181, 22, 0, 106)), (22, (.ifCond .ne 7, 25, 29, 0)), (25, (.ldc2_w 149, 28, 0, 3)), (28, (.lreturn, 29, 0, 0)), (29, (.aload_n 0, 30, 0, 0)), (30, (.getfield 57, 33, 6, 646))],
   [(33, (.iload_n 1, 34, 0, 0)), (34, (.iload_n 2, 35, 0, 0)), (35, (.invokevirtual 322, 38, 0, 178)), (38, (.lreturn, 39, 0, 0))]])
noncomputable def p_WhatIf_gainByMoving : mRec := (4, 2, 3, 10, false, [],
  [[(0, (.aload_n 0, 1, 0, 0)), (1, (.getfield 9, 4, 0, 576)), (4, (.invokevirtual 65, 7, 0, 179)), (7, (.astore_n 3, 8, 0, 0)), (8, (.aload_n 0, 9, 0, 0)), (9, (.getfield 9, 12, 0, 576)), (12, (.aload_n 3, 13, 0, 0)), (13, (.aload_n 0, 14, 0, 0)), (14, (.getfield 26, 17, 2, 578))],
   [(17, (.iload_n 1, 18, 0, 0)), (18, (.invokevirtual 31, 21, 0, 84)), (21, (.aload_n 0, 22, 0, 0)), (22, (.getfield 26, 25, 2, 578)), (25, (.iload_n 1, 26, 0, 0)), (26, (.invokevirtual 37, 29, 0, 83)), (29, (.lneg, 30, 0, 0)), (30, (.invokevirtual 68, 33, 0, 66))],
   [(33, (.aload_n 0, 34, 0, 0)), (34, (.getfield 9, 37, 0, 576)), (37, (.aload_n 3, 38, 0, 0)), (38, (.iload_n 2, 39, 0, 0)), (39, (.aload_n 0, 40, 0, 0)), (40, (.getfield 26, 43, 2, 578)), (43, (.iload_n 1, 44, 0, 0)), (44, (.invokevirtual 37, 47, 0, 83)), (47, (.invokevirtual 72, 50, 0, 172))],
   [(50, (.aload_n 0, 51, 0, 0)), (51, (.getfield 9, 54, 0, 576)), (54, (.invokevirtual 76, 57, 0, 171)), (57, (.lsub, 58, 0, 0)), (58, (.lreturn, 59, 0, 0))]])
noncomputable def p_Ledger_trialBalances : mRec := (1, 6, 1, 3, false, [],
  [[(0, (.aload_n 0, 1, 0, 0)), (1, (.getfield 25, 4, 2, 130)), (4, (.iconst 0, 5, 0, 4)), (5, (.aload_n 0, 6, 0, 0)), (6, (.getfield 29, 9, 3, 131)), (9, (.iconst 0, 10, 0, 4)), (10, (.sipush 320, 13, 0, 30)), (13, (.invokestatic 170, 16, 0, 9001))],
   [(16, (.aload_n 0, 17, 0, 0)), (17, (.getfield 29, 20, 3, 131)), (20, (.areturn, 21, 0, 0))]])
noncomputable def p_V_bestDay : mRec := (2, 1, 2, 11, false, [],
  [[(0, (.aload_n 0, 1, 0, 0)), (1, (.getfield 41, 4, 4, 644)), (4, (.getfield 63, 7, 1, 129)), (7, (.iload_n 1, 8, 0, 0)), (8, (.invokevirtual 146, 11, 0, 80)), (11, (.ifCond .eq 14, 14, 25, 0)), (14, (.aload_n 0, 15, 0, 0)), (15, (.getfield 57, 18, 6, 646))],
   [(18, (.iload_n 1, 19, 0, 0)), (19, (.invokevirtual 325, 22, 0, 181)), (22, (.goto 5, 25, 27, 0)), (25, (.bipush (-2), 27, 0, 32)), (27, (.ireturn, 28, 0, 0))]])
noncomputable def p_WhatIf_dayOfMost : mRec := (20, 1, 2, 10, false, [57, 123],
  [[(0, (.aload_n 0, 1, 0, 0)), (1, (.getfield 26, 4, 2, 578)), (4, (.iload_n 1, 5, 0, 0)), (5, (.invokevirtual 37, 8, 0, 83)), (8, (.lstore_n 2, 9, 0, 0)), (9, (.aload_n 0, 10, 0, 0)), (10, (.getfield 9, 13, 0, 576)), (13, (.invokevirtual 65, 16, 0, 179))],
   [(16, (.astore 4, 18, 0, 0)), (18, (.aload_n 0, 19, 0, 0)), (19, (.getfield 9, 22, 0, 576)), (22, (.aload 4, 24, 0, 0)), (24, (.aload_n 0, 25, 0, 0)), (25, (.getfield 26, 28, 2, 578)), (28, (.iload_n 1, 29, 0, 0)), (29, (.invokevirtual 31, 32, 0, 84))],
   [(32, (.lload_n 2, 33, 0, 0)), (33, (.lneg, 34, 0, 0)), (34, (.invokevirtual 68, 37, 0, 66)), (37, (.lconst 0, 38, 0, 0)), (38, (.lstore 5, 40, 0, 0)), (40, (.lconst 0, 41, 0, 0)), (41, (.lstore 7, 43, 0, 0)), (43, (.iconst (-1), 44, 0, 1)), (44, (.istore 9, 46, 0, 0)), (46, (.aload_n 0, 47, 0, 0)), (47, (.getfield 9, 50, 0, 576))],
   [(50, (.invokevirtual 48, 53, 0, 89)), (53, (.iconst 1, 54, 0, 3)), (54, (.isub, 55, 0, 0)), (55, (.istore 10, 57, 0, 0)), (57, (.iload 10, 59, 0, 0)), (59, (.ifCond .lt 161, 62, 220, 0)), (62, (.iconst 0, 63, 0, 4)), (63, (.aload_n 0, 64, 0, 0))],
   [(64, (.getfield 9, 67, 0, 576)), (67, (.iload 10, 69, 0, 0)), (69, (.invokevirtual 80, 72, 0, 71)), (72, (.invokestatic 83, 75, 0, 9002)), (75, (.istore 11, 77, 0, 0)), (77, (.aload 4, 79, 0, 0)), (79, (.arraylength, 80, 0, 0))],
   [(80, (.iload 11, 82, 0, 0)), (82, (.aload_n 0, 83, 0, 0)), (83, (.getfield 9, 86, 0, 576)), (86, (.invokevirtual 87, 89, 0, 88)), (89, (.iadd, 90, 0, 0)), (90, (.invokestatic 90, 93, 0, 9003)), (93, (.istore 12, 95, 0, 0)), (95, (.aload_n 0, 96, 0, 0))],
   [(96, (.getfield 9, 99, 0, 576)), (99, (.aload 4, 101, 0, 0)), (101, (.iload 10, 103, 0, 0)), (103, (.iconst 0, 104, 0, 4)), (104, (.lconst 0, 105, 0, 0)), (105, (.invokevirtual 93, 108, 0, 70)), (108, (.lstore 13, 110, 0, 0)), (110, (.lload 13, 112, 0, 0))],
   [(112, (.invokestatic 96, 115, 0, 75)), (115, (.lstore 15, 117, 0, 0)), (117, (.iload 12, 119, 0, 0)), (119, (.iconst 1, 120, 0, 3)), (120, (.isub, 121, 0, 0)), (121, (.istore 17, 123, 0, 0)), (123, (.iload 17, 125, 0, 0)), (125, (.iload 11, 127, 0, 0)), (127, (.if_icmp .lt 74, 130, 201, 0))],
   [(130, (.lload 13, 132, 0, 0)), (132, (.aload_n 0, 133, 0, 0)), (133, (.iload 17, 135, 0, 0)), (135, (.aload 4, 137, 0, 0)), (137, (.iload 17, 139, 0, 0)), (139, (.laload, 140, 0, 0)), (140, (.lload_n 2, 141, 0, 0)), (141, (.ladd, 142, 0, 0)), (142, (.invokevirtual 99, 145, 0, 182))],
   [(145, (.aload_n 0, 146, 0, 0)), (146, (.iload 17, 148, 0, 0)), (148, (.aload 4, 150, 0, 0)), (150, (.iload 17, 152, 0, 0)), (152, (.laload, 153, 0, 0)), (153, (.invokevirtual 99, 156, 0, 182)), (156, (.lsub, 157, 0, 0)), (157, (.ladd, 158, 0, 0)), (158, (.lstore 13, 160, 0, 0))],
   [(160, (.lload 5, 162, 0, 0)), (162, (.lload 13, 164, 0, 0)), (164, (.invokestatic 96, 167, 0, 75)), (167, (.ladd, 168, 0, 0)), (168, (.lload 15, 170, 0, 0)), (170, (.lsub, 171, 0, 0)), (171, (.lstore 18, 173, 0, 0)), (173, (.iload 9, 175, 0, 0)), (175, (.iconst (-1), 176, 0, 1))],
   [(176, (.if_icmp .eq 11, 179, 187, 0)), (179, (.lload 18, 181, 0, 0)), (181, (.lload 7, 183, 0, 0)), (183, (.lcmp, 187, 195, 2)), (184, (.ifCond .lt 11, 187, 195, 0)), (187, (.lload 18, 189, 0, 0)), (189, (.lstore 7, 191, 0, 0)), (191, (.iload 17, 193, 0, 0))],
   [(193, (.istore 9, 195, 0, 0)), (195, (.iinc 17 (-1), 198, 0, 1)), (198, (.goto (-75), 201, 123, 0)), (201, (.lload 5, 203, 0, 0)), (203, (.lload 13, 205, 0, 0)), (205, (.invokestatic 96, 208, 0, 75))],
   [(208, (.lload 15, 210, 0, 0)), (210, (.lsub, 211, 0, 0)), (211, (.ladd, 212, 0, 0)), (212, (.lstore 5, 214, 0, 0)), (214, (.iinc 10 (-1), 217, 0, 1)), (217, (.goto (-160), 220, 57, 0)), (220, (.iload 9, 222, 0, 0)), (222, (.ireturn, 223, 0, 0))]])
noncomputable def p_WhatIf_productOf : mRec := (4, 2, 3, 10, false, [],
  [[(0, (.aload_n 0, 1, 0, 0)), (1, (.getfield 21, 4, 1, 577)), (4, (.iload_n 1, 5, 0, 0)), (5, (.lload_n 2, 6, 0, 0)), (6, (.invokevirtual 103, 9, 0, 72)), (9, (.aload_n 0, 10, 0, 0)), (10, (.getfield 21, 13, 1, 577)), (13, (.iload_n 1, 14, 0, 0)), (14, (.lload_n 2, 15, 0, 0)), (15, (.invokevirtual 108, 18, 0, 73))],
   [(18, (.lsub, 19, 0, 0)), (19, (.lreturn, 20, 0, 0))]])
noncomputable def p_V_late : mRec := (3, 2, 3, 11, false, [],
  [[(0, (.aload_n 0, 1, 0, 0)), (1, (.getfield 41, 4, 4, 644)), (4, (.iload_n 1, 5, 0, 0)), (5, (.invokevirtual 181, 8, 0, 106)), (8, (.ifCond .eq 16, 11, 24, 0)), (11, (.iload_n 2, 12, 0, 0)), (12, (.ldc_w 299, 15, 0, 34)), (15, (.ldc_w 300, 18, 0, 24))],
   [(18, (.invokestatic 301, 21, 0, 167)), (21, (.ifCond .ne 7, 24, 28, 0)), (24, (.ldc2_w 149, 27, 0, 3)), (27, (.lreturn, 28, 0, 0)), (28, (.aload_n 0, 29, 0, 0)), (29, (.getfield 57, 32, 6, 646))],
   [(32, (.iload_n 1, 33, 0, 0)), (33, (.iload_n 2, 34, 0, 0)), (34, (.invokevirtual 328, 37, 0, 184)), (37, (.lreturn, 38, 0, 0))]])
noncomputable def p_WhatIf_unlikeWith : mRec := (6, 2, 3, 10, false, [5],
  [[(0, (.lconst 0, 1, 0, 0)), (1, (.lstore_n 3, 2, 0, 0)), (2, (.iconst 0, 3, 0, 4)), (3, (.istore 5, 5, 0, 0)), (5, (.iload 5, 7, 0, 0)), (7, (.aload_n 0, 8, 0, 0)), (8, (.getfield 9, 11, 0, 576)), (11, (.invokevirtual 111, 14, 0, 94)), (14, (.if_icmp .ge 41, 17, 55, 0))],
   [(17, (.lload_n 3, 18, 0, 0)), (18, (.aload_n 0, 19, 0, 0)), (19, (.getfield 9, 22, 0, 576)), (22, (.aload_n 0, 23, 0, 0)), (23, (.getfield 9, 26, 0, 576)), (26, (.invokevirtual 27, 29, 0, 176)), (29, (.iload 5, 31, 0, 0)), (31, (.iload_n 1, 32, 0, 0))],
   [(32, (.iload_n 2, 33, 0, 0)), (33, (.i2l, 34, 0, 0)), (34, (.invokevirtual 41, 37, 0, 124)), (37, (.aload_n 0, 38, 0, 0)), (38, (.getfield 26, 41, 2, 578)), (41, (.iload 5, 43, 0, 0)), (43, (.invokevirtual 114, 46, 0, 78)), (46, (.lsub, 47, 0, 0)), (47, (.ladd, 48, 0, 0))],
   [(48, (.lstore_n 3, 49, 0, 0)), (49, (.iinc 5 1, 52, 0, 3)), (52, (.goto (-47), 55, 5, 0)), (55, (.lload_n 3, 56, 0, 0)), (56, (.lreturn, 57, 0, 0))]])
noncomputable def p_V_touched : mRec := (3, 1, 3, 11, false, [],
  [[(0, (.aload_n 0, 1, 0, 0)), (1, (.getfield 41, 4, 4, 644)), (4, (.iload_n 1, 5, 0, 0)), (5, (.invokevirtual 181, 8, 0, 106)), (8, (.ifCond .eq 16, 11, 24, 0)), (11, (.iload_n 2, 12, 0, 0)), (12, (.ldc_w 299, 15, 0, 34)), (15, (.ldc_w 300, 18, 0, 24))],
   [(18, (.invokestatic 301, 21, 0, 167)), (21, (.ifCond .ne 6, 24, 27, 0)), (24, (.bipush (-2), 26, 0, 32)), (26, (.ireturn, 27, 0, 0)), (27, (.aload_n 0, 28, 0, 0)), (28, (.getfield 57, 31, 6, 646)), (31, (.iload_n 1, 32, 0, 0))],
   [(32, (.iload_n 2, 33, 0, 0)), (33, (.invokevirtual 331, 36, 0, 186)), (36, (.ireturn, 37, 0, 0))]])
noncomputable def p_WhatIf_firstTouched : mRec := (4, 1, 3, 10, false, [2],
  [[(0, (.iconst 0, 1, 0, 4)), (1, (.istore_n 3, 2, 0, 0)), (2, (.iload_n 3, 3, 0, 0)), (3, (.aload_n 0, 4, 0, 0)), (4, (.getfield 9, 7, 0, 576)), (7, (.invokevirtual 111, 10, 0, 94)), (10, (.if_icmp .ge 41, 13, 51, 0)), (13, (.aload_n 0, 14, 0, 0)), (14, (.getfield 9, 17, 0, 576))],
   [(17, (.aload_n 0, 18, 0, 0)), (18, (.getfield 9, 21, 0, 576)), (21, (.invokevirtual 27, 24, 0, 176)), (24, (.iload_n 3, 25, 0, 0)), (25, (.iload_n 1, 26, 0, 0)), (26, (.iload_n 2, 27, 0, 0)), (27, (.i2l, 28, 0, 0)), (28, (.invokevirtual 41, 31, 0, 124)), (31, (.aload_n 0, 32, 0, 0))],
   [(32, (.getfield 9, 35, 0, 576)), (35, (.iload_n 3, 36, 0, 0)), (36, (.invokevirtual 45, 39, 0, 123)), (39, (.lcmp, 43, 45, 0)), (40, (.ifCond .eq 5, 43, 45, 0)), (43, (.iload_n 3, 44, 0, 0)), (44, (.ireturn, 45, 0, 0)), (45, (.iinc 3 1, 48, 0, 3))],
   [(48, (.goto (-46), 51, 2, 0)), (51, (.iconst (-1), 52, 0, 1)), (52, (.ireturn, 53, 0, 0))]])
noncomputable def p_V_tilted : mRec := (3, 2, 3, 11, false, [],
  [[(0, (.aload_n 0, 1, 0, 0)), (1, (.getfield 41, 4, 4, 644)), (4, (.getfield 123, 7, 0, 128)), (7, (.iload_n 1, 8, 0, 0)), (8, (.invokevirtual 178, 11, 0, 105)), (11, (.ifCond .eq 16, 14, 27, 0)), (14, (.iload_n 2, 15, 0, 0)), (15, (.sipush (-5000), 18, 0, 35))],
   [(18, (.sipush 5000, 21, 0, 23)), (21, (.invokestatic 301, 24, 0, 167)), (24, (.ifCond .ne 7, 27, 31, 0)), (27, (.ldc2_w 149, 30, 0, 3)), (30, (.lreturn, 31, 0, 0)), (31, (.aload_n 0, 32, 0, 0))],
   [(32, (.getfield 57, 35, 6, 646)), (35, (.iload_n 1, 36, 0, 0)), (36, (.iload_n 2, 37, 0, 0)), (37, (.invokevirtual 334, 40, 0, 188)), (40, (.lreturn, 41, 0, 0))]])
noncomputable def p_WhatIf_gainByTilt : mRec := (8, 2, 3, 10, false, [5],
  [[(0, (.lconst 0, 1, 0, 0)), (1, (.lstore_n 3, 2, 0, 0)), (2, (.iconst 0, 3, 0, 4)), (3, (.istore 5, 5, 0, 0)), (5, (.iload 5, 7, 0, 0)), (7, (.aload_n 0, 8, 0, 0)), (8, (.getfield 9, 11, 0, 576)), (11, (.invokevirtual 48, 14, 0, 89)), (14, (.if_icmp .ge 52, 17, 66, 0))],
   [(17, (.aload_n 0, 18, 0, 0)), (18, (.getfield 9, 21, 0, 576)), (21, (.aload_n 0, 22, 0, 0)), (22, (.getfield 9, 25, 0, 576)), (25, (.invokevirtual 27, 28, 0, 176)), (28, (.iload 5, 30, 0, 0)), (30, (.iconst 0, 31, 0, 4)), (31, (.lconst 0, 32, 0, 0))],
   [(32, (.invokevirtual 93, 35, 0, 70)), (35, (.lstore 6, 37, 0, 0)), (37, (.lload_n 3, 38, 0, 0)), (38, (.lload 6, 40, 0, 0)), (40, (.aload_n 0, 41, 0, 0)), (41, (.iload 5, 43, 0, 0)), (43, (.iload_n 1, 44, 0, 0)), (44, (.iload_n 2, 45, 0, 0)), (45, (.invokevirtual 117, 48, 0, 189))],
   [(48, (.ladd, 49, 0, 0)), (49, (.invokestatic 96, 52, 0, 75)), (52, (.lload 6, 54, 0, 0)), (54, (.invokestatic 96, 57, 0, 75)), (57, (.lsub, 58, 0, 0)), (58, (.ladd, 59, 0, 0)), (59, (.lstore_n 3, 60, 0, 0)), (60, (.iinc 5 1, 63, 0, 3)), (63, (.goto (-58), 66, 5, 0))],
   [(66, (.lload_n 3, 67, 0, 0)), (67, (.lreturn, 68, 0, 0))]])
noncomputable def p_WhatIf_tiltIn : mRec := (8, 2, 4, 10, false, [17],
  [[(0, (.lconst 0, 1, 0, 0)), (1, (.lstore 4, 3, 0, 0)), (3, (.aload_n 0, 4, 0, 0)), (4, (.getfield 9, 7, 0, 576)), (7, (.iload_n 1, 8, 0, 0)), (8, (.invokevirtual 80, 11, 0, 71)), (11, (.istore 6, 13, 0, 0)), (13, (.iload 6, 15, 0, 0)), (15, (.istore 7, 17, 0, 0))],
   [(17, (.iload 7, 19, 0, 0)), (19, (.iload 6, 21, 0, 0)), (21, (.aload_n 0, 22, 0, 0)), (22, (.getfield 9, 25, 0, 576)), (25, (.invokevirtual 87, 28, 0, 88)), (28, (.iadd, 29, 0, 0)), (29, (.if_icmp .ge 34, 32, 63, 0))],
   [(32, (.lload 4, 34, 0, 0)), (34, (.aload_n 0, 35, 0, 0)), (35, (.getfield 21, 38, 1, 577)), (38, (.iload_n 2, 39, 0, 0)), (39, (.iload_n 3, 40, 0, 0)), (40, (.iload 7, 42, 0, 0)), (42, (.aload_n 0, 43, 0, 0)), (43, (.getfield 9, 46, 0, 576)), (46, (.iload 7, 48, 0, 0))],
   [(48, (.invokevirtual 121, 51, 0, 110)), (51, (.invokevirtual 124, 54, 0, 190)), (54, (.ladd, 55, 0, 0)), (55, (.lstore 4, 57, 0, 0)), (57, (.iinc 7 1, 60, 0, 3)), (60, (.goto (-43), 63, 17, 0)), (63, (.lload 4, 65, 0, 0))],
   [(65, (.lreturn, 66, 0, 0))]])
noncomputable def p_Terms_tiltOf : mRec := (7, 2, 5, 8, false, [],
  [[(0, (.aload_n 0, 1, 0, 0)), (1, (.iload_n 1, 2, 0, 0)), (2, (.iload_n 3, 3, 0, 0)), (3, (.invokevirtual 63, 6, 0, 107)), (6, (.istore 6, 8, 0, 0)), (8, (.aload_n 0, 9, 0, 0)), (9, (.iload_n 1, 10, 0, 0)), (10, (.lload 4, 12, 0, 0)), (12, (.invokevirtual 70, 15, 0, 112)), (15, (.iconst 0, 16, 0, 4))],
   [(16, (.iload 6, 18, 0, 0)), (18, (.iload_n 2, 19, 0, 0)), (19, (.iadd, 20, 0, 0)), (20, (.invokestatic 51, 23, 0, 9002)), (23, (.iload 6, 25, 0, 0)), (25, (.isub, 26, 0, 0)), (26, (.i2l, 27, 0, 0)), (27, (.lmul, 28, 0, 0)), (28, (.lreturn, 29, 0, 0))]])
noncomputable def p_V_limited : mRec := (2, 2, 2, 11, false, [],
  [[(0, (.aload_n 0, 1, 0, 0)), (1, (.invokevirtual 171, 4, 0, 102)), (4, (.ifCond .ne 14, 7, 18, 0)), (7, (.iload_n 1, 8, 0, 0)), (8, (.iconst 0, 9, 0, 4)), (9, (.ldc_w 300, 12, 0, 24)), (12, (.invokestatic 301, 15, 0, 167)), (15, (.ifCond .ne 7, 18, 22, 0))],
   [(18, (.ldc2_w 149, 21, 0, 3)), (21, (.lreturn, 22, 0, 0)), (22, (.aload_n 0, 23, 0, 0)), (23, (.getfield 57, 26, 6, 646)), (26, (.iload_n 1, 27, 0, 0)), (27, (.invokevirtual 337, 30, 0, 192)), (30, (.lreturn, 31, 0, 0))]])
noncomputable def p_WhatIf_gainByLimit : mRec := (5, 2, 2, 10, false, [5],
  [[(0, (.lconst 0, 1, 0, 0)), (1, (.lstore_n 2, 2, 0, 0)), (2, (.iconst 0, 3, 0, 4)), (3, (.istore 4, 5, 0, 0)), (5, (.iload 4, 7, 0, 0)), (7, (.aload_n 0, 8, 0, 0)), (8, (.getfield 9, 11, 0, 576)), (11, (.invokevirtual 48, 14, 0, 89)), (14, (.if_icmp .ge 32, 17, 46, 0))],
   [(17, (.lload_n 2, 18, 0, 0)), (18, (.aload_n 0, 19, 0, 0)), (19, (.iload 4, 21, 0, 0)), (21, (.iload_n 1, 22, 0, 0)), (22, (.invokevirtual 128, 25, 0, 193)), (25, (.invokestatic 96, 28, 0, 75)), (28, (.aload_n 0, 29, 0, 0)), (29, (.getfield 9, 32, 0, 576))],
   [(32, (.iload 4, 34, 0, 0)), (34, (.invokevirtual 45, 37, 0, 123)), (37, (.lsub, 38, 0, 0)), (38, (.ladd, 39, 0, 0)), (39, (.lstore_n 2, 40, 0, 0)), (40, (.iinc 4 1, 43, 0, 3)), (43, (.goto (-38), 46, 5, 0)), (46, (.lload_n 2, 47, 0, 0)), (47, (.lreturn, 48, 0, 0))]])
noncomputable def p_WhatIf_limitedProducts : mRec := (9, 2, 3, 10, false, [16],
  [[(0, (.lconst 0, 1, 0, 0)), (1, (.lstore_n 3, 2, 0, 0)), (2, (.aload_n 0, 3, 0, 0)), (3, (.getfield 9, 6, 0, 576)), (6, (.iload_n 1, 7, 0, 0)), (7, (.invokevirtual 80, 10, 0, 71)), (10, (.istore 5, 12, 0, 0)), (12, (.iload 5, 14, 0, 0)), (14, (.istore 6, 16, 0, 0))],
   [(16, (.iload 6, 18, 0, 0)), (18, (.iload 5, 20, 0, 0)), (20, (.aload_n 0, 21, 0, 0)), (21, (.getfield 9, 24, 0, 576)), (24, (.invokevirtual 87, 27, 0, 88)), (27, (.iadd, 28, 0, 0)), (28, (.if_icmp .ge 47, 31, 75, 0)), (31, (.aload_n 0, 32, 0, 0))],
   [(32, (.getfield 9, 35, 0, 576)), (35, (.iload 6, 37, 0, 0)), (37, (.invokevirtual 121, 40, 0, 110)), (40, (.lstore 7, 42, 0, 0)), (42, (.lload_n 3, 43, 0, 0)), (43, (.aload_n 0, 44, 0, 0)), (44, (.getfield 21, 47, 1, 577)), (47, (.iload 6, 49, 0, 0))],
   [(49, (.lload 7, 51, 0, 0)), (51, (.invokevirtual 103, 54, 0, 72)), (54, (.aload_n 0, 55, 0, 0)), (55, (.getfield 21, 58, 1, 577)), (58, (.iload_n 2, 59, 0, 0)), (59, (.iload 6, 61, 0, 0)), (61, (.lload 7, 63, 0, 0)), (63, (.invokevirtual 131, 66, 0, 74))],
   [(66, (.lsub, 67, 0, 0)), (67, (.ladd, 68, 0, 0)), (68, (.lstore_n 3, 69, 0, 0)), (69, (.iinc 6 1, 72, 0, 3)), (72, (.goto (-56), 75, 16, 0)), (75, (.lload_n 3, 76, 0, 0)), (76, (.lreturn, 77, 0, 0))]])
noncomputable def p_V_needs : mRec := (3, 1, 3, 11, false, [],
  [[(0, (.aload_n 0, 1, 0, 0)), (1, (.getfield 41, 4, 4, 644)), (4, (.iload_n 1, 5, 0, 0)), (5, (.invokevirtual 181, 8, 0, 106)), (8, (.ifCond .eq 14, 11, 22, 0)), (11, (.iload_n 2, 12, 0, 0)), (12, (.iconst 1, 13, 0, 3)), (13, (.ldc_w 300, 16, 0, 24))],
   [(16, (.invokestatic 301, 19, 0, 167)), (19, (.ifCond .ne 6, 22, 25, 0)), (22, (.bipush (-2), 24, 0, 32)), (24, (.ireturn, 25, 0, 0)), (25, (.aload_n 0, 26, 0, 0)), (26, (.getfield 57, 29, 6, 646)), (29, (.iload_n 1, 30, 0, 0)), (30, (.iload_n 2, 31, 0, 0)), (31, (.invokevirtual 340, 34, 0, 195))],
   [(34, (.ireturn, 35, 0, 0))]])
noncomputable def p_WhatIf_leastFor : mRec := (8, 1, 3, 10, false, [18],
  [[(0, (.aload_n 0, 1, 0, 0)), (1, (.getfield 9, 4, 0, 576)), (4, (.invokevirtual 76, 7, 0, 171)), (7, (.iload_n 2, 8, 0, 0)), (8, (.i2l, 9, 0, 0)), (9, (.ladd, 10, 0, 0)), (10, (.lstore_n 3, 11, 0, 0)), (11, (.iconst 0, 12, 0, 4)), (12, (.istore 5, 14, 0, 0)), (14, (.ldc 135, 16, 0, 36))],
   [(16, (.istore 6, 18, 0, 0)), (18, (.iload 6, 20, 0, 0)), (20, (.ifCond .le 53, 23, 73, 0)), (23, (.iload 5, 25, 0, 0)), (25, (.iload 6, 27, 0, 0)), (27, (.iadd, 28, 0, 0)), (28, (.istore 7, 30, 0, 0)), (30, (.iload 7, 32, 0, 0))],
   [(32, (.ldc 136, 34, 0, 24)), (34, (.if_icmp .gt 30, 37, 64, 0)), (37, (.aload_n 0, 38, 0, 0)), (38, (.getfield 9, 41, 0, 576)), (41, (.aload_n 0, 42, 0, 0)), (42, (.getfield 9, 45, 0, 576)), (45, (.invokevirtual 27, 48, 0, 176))],
   [(48, (.iload_n 1, 49, 0, 0)), (49, (.iload 7, 51, 0, 0)), (51, (.i2l, 52, 0, 0)), (52, (.invokevirtual 72, 55, 0, 172)), (55, (.lload_n 3, 56, 0, 0)), (56, (.lcmp, 60, 64, 3)), (57, (.ifCond .ge 7, 60, 64, 0)), (60, (.iload 7, 62, 0, 0)), (62, (.istore 5, 64, 0, 0))],
   [(64, (.iload 6, 66, 0, 0)), (66, (.iconst 1, 67, 0, 3)), (67, (.ishr, 68, 0, 0)), (68, (.istore 6, 70, 0, 0)), (70, (.goto (-52), 73, 18, 0)), (73, (.iload 5, 75, 0, 0)), (75, (.ldc 136, 77, 0, 24)), (77, (.if_icmp .ge 10, 80, 87, 0))],
   [(80, (.iload 5, 82, 0, 0)), (82, (.iconst 1, 83, 0, 3)), (83, (.iadd, 84, 0, 0)), (84, (.goto 4, 87, 88, 0)), (87, (.iconst (-1), 88, 0, 1)), (88, (.ireturn, 89, 0, 0))]])
noncomputable def p_V_caused : mRec := (3, 2, 3, 11, false, [],
  [[(0, (.aload_n 0, 1, 0, 0)), (1, (.getfield 41, 4, 4, 644)), (4, (.getfield 63, 7, 1, 129)), (7, (.iload_n 1, 8, 0, 0)), (8, (.invokevirtual 146, 11, 0, 80)), (11, (.ifCond .eq 14, 14, 25, 0)), (14, (.aload_n 0, 15, 0, 0)), (15, (.getfield 41, 18, 4, 644))],
   [(18, (.iload_n 2, 19, 0, 0)), (19, (.invokevirtual 211, 22, 0, 119)), (22, (.ifCond .ne 7, 25, 29, 0)), (25, (.ldc2_w 149, 28, 0, 3)), (28, (.lreturn, 29, 0, 0)), (29, (.aload_n 0, 30, 0, 0)), (30, (.getfield 57, 33, 6, 646))],
   [(33, (.iload_n 1, 34, 0, 0)), (34, (.iload_n 2, 35, 0, 0)), (35, (.invokevirtual 343, 38, 0, 175)), (38, (.lreturn, 39, 0, 0))]])
noncomputable def p_V_blame : mRec := (2, 1, 2, 11, false, [],
  [[(0, (.aload_n 0, 1, 0, 0)), (1, (.getfield 41, 4, 4, 644)), (4, (.iload_n 1, 5, 0, 0)), (5, (.invokevirtual 211, 8, 0, 119)), (8, (.ifCond .eq 14, 11, 22, 0)), (11, (.aload_n 0, 12, 0, 0)), (12, (.getfield 57, 15, 6, 646)), (15, (.iload_n 1, 16, 0, 0))],
   [(16, (.invokevirtual 346, 19, 0, 198)), (19, (.goto 5, 22, 24, 0)), (22, (.bipush (-2), 24, 0, 32)), (24, (.ireturn, 25, 0, 0))]])
noncomputable def p_WhatIf_mostGuilty : mRec := (8, 1, 2, 10, false, [7],
  [[(0, (.iconst (-1), 1, 0, 1)), (1, (.istore_n 2, 2, 0, 0)), (2, (.lconst 0, 3, 0, 0)), (3, (.lstore_n 3, 4, 0, 0)), (4, (.iconst 0, 5, 0, 4)), (5, (.istore 5, 7, 0, 0)), (7, (.iload 5, 9, 0, 0)), (9, (.aload_n 0, 10, 0, 0)), (10, (.getfield 26, 13, 2, 578)), (13, (.invokevirtual 56, 16, 0, 93))],
   [(16, (.if_icmp .ge 34, 19, 50, 0)), (19, (.aload_n 0, 20, 0, 0)), (20, (.iload 5, 22, 0, 0)), (22, (.iload_n 1, 23, 0, 0)), (23, (.invokevirtual 52, 26, 0, 175)), (26, (.invokestatic 59, 29, 0, 9006)), (29, (.lstore 6, 31, 0, 0)), (31, (.lload 6, 33, 0, 0))],
   [(33, (.lload_n 3, 34, 0, 0)), (34, (.lcmp, 38, 44, 5)), (35, (.ifCond .le 9, 38, 44, 0)), (38, (.lload 6, 40, 0, 0)), (40, (.lstore_n 3, 41, 0, 0)), (41, (.iload 5, 43, 0, 0)), (43, (.istore_n 2, 44, 0, 0)), (44, (.iinc 5 1, 47, 0, 3)), (47, (.goto (-40), 50, 7, 0))],
   [(50, (.iload_n 2, 51, 0, 0)), (51, (.ireturn, 52, 0, 0))]])
noncomputable def p_V_tiltFor : mRec := (3, 1, 3, 11, false, [],
  [[(0, (.aload_n 0, 1, 0, 0)), (1, (.getfield 41, 4, 4, 644)), (4, (.getfield 123, 7, 0, 128)), (7, (.iload_n 1, 8, 0, 0)), (8, (.invokevirtual 178, 11, 0, 105)), (11, (.ifCond .eq 14, 14, 25, 0)), (14, (.iload_n 2, 15, 0, 0)), (15, (.iconst 1, 16, 0, 3))],
   [(16, (.ldc_w 300, 19, 0, 24)), (19, (.invokestatic 301, 22, 0, 167)), (22, (.ifCond .ne 6, 25, 28, 0)), (25, (.bipush (-2), 27, 0, 32)), (27, (.ireturn, 28, 0, 0)), (28, (.aload_n 0, 29, 0, 0)), (29, (.getfield 57, 32, 6, 646))],
   [(32, (.iload_n 1, 33, 0, 0)), (33, (.iload_n 2, 34, 0, 0)), (34, (.invokevirtual 349, 37, 0, 200)), (37, (.ireturn, 38, 0, 0))]])
noncomputable def p_WhatIf_leastTilt : mRec := (6, 1, 3, 10, false, [7],
  [[(0, (.iconst 0, 1, 0, 4)), (1, (.istore_n 3, 2, 0, 0)), (2, (.sipush 4096, 5, 0, 37)), (5, (.istore 4, 7, 0, 0)), (7, (.iload 4, 9, 0, 0)), (9, (.ifCond .le 42, 12, 51, 0)), (12, (.iload_n 3, 13, 0, 0)), (13, (.iload 4, 15, 0, 0)), (15, (.iadd, 16, 0, 0))],
   [(16, (.istore 5, 18, 0, 0)), (18, (.iload 5, 20, 0, 0)), (20, (.sipush 5000, 23, 0, 23)), (23, (.if_icmp .gt 19, 26, 42, 0)), (26, (.aload_n 0, 27, 0, 0)), (27, (.iload_n 1, 28, 0, 0)), (28, (.iload 5, 30, 0, 0)), (30, (.invokevirtual 137, 33, 0, 188))],
   [(33, (.iload_n 2, 34, 0, 0)), (34, (.i2l, 35, 0, 0)), (35, (.lcmp, 39, 42, 3)), (36, (.ifCond .ge 6, 39, 42, 0)), (39, (.iload 5, 41, 0, 0)), (41, (.istore_n 3, 42, 0, 0)), (42, (.iload 4, 44, 0, 0)), (44, (.iconst 1, 45, 0, 3)), (45, (.ishr, 46, 0, 0)), (46, (.istore 4, 48, 0, 0))],
   [(48, (.goto (-41), 51, 7, 0)), (51, (.iload_n 3, 52, 0, 0)), (52, (.sipush 5000, 55, 0, 23)), (55, (.if_icmp .ge 9, 58, 64, 0)), (58, (.iload_n 3, 59, 0, 0)), (59, (.iconst 1, 60, 0, 3)), (60, (.iadd, 61, 0, 0)), (61, (.goto 4, 64, 65, 0))],
   [(64, (.iconst (-1), 65, 0, 1)), (65, (.ireturn, 66, 0, 0))]])
noncomputable def p_V_rights : mRec := (1, 1, 1, 11, false, [],
  [[(0, (.aload_n 0, 1, 0, 0)), (1, (.getfield 41, 4, 4, 644)), (4, (.invokevirtual 352, 7, 0, 69)), (7, (.ifCond .eq 13, 10, 20, 0)), (10, (.aload_n 0, 11, 0, 0)), (11, (.getfield 57, 14, 6, 646)), (14, (.invokevirtual 355, 17, 0, 202))],
   [(17, (.goto 5, 20, 22, 0)), (20, (.bipush (-2), 22, 0, 32)), (22, (.ireturn, 23, 0, 0))]])
noncomputable def p_WhatIf_correctionsNow : mRec := (4, 1, 1, 10, false, [12],
  [[(0, (.iconst 0, 1, 0, 4)), (1, (.istore_n 1, 2, 0, 0)), (2, (.aload_n 0, 3, 0, 0)), (3, (.getfield 9, 6, 0, 576)), (6, (.invokevirtual 65, 9, 0, 179)), (9, (.astore_n 2, 10, 0, 0)), (10, (.iconst 0, 11, 0, 4)), (11, (.istore_n 3, 12, 0, 0)), (12, (.iload_n 3, 13, 0, 0)), (13, (.aload_n 0, 14, 0, 0)), (14, (.getfield 9, 17, 0, 576))],
   [(17, (.invokevirtual 111, 20, 0, 94)), (20, (.if_icmp .ge 26, 23, 46, 0)), (23, (.aload_n 0, 24, 0, 0)), (24, (.getfield 9, 27, 0, 576)), (27, (.aload_n 2, 28, 0, 0)), (28, (.iload_n 3, 29, 0, 0)), (29, (.invokevirtual 143, 32, 0, 203))],
   [(32, (.lconst 0, 33, 0, 0)), (33, (.lcmp, 37, 40, 0)), (34, (.ifCond .eq 6, 37, 40, 0)), (37, (.iinc 1 1, 40, 0, 3)), (40, (.iinc 3 1, 43, 0, 3)), (43, (.goto (-31), 46, 12, 0)), (46, (.iload_n 1, 47, 0, 0)), (47, (.ireturn, 48, 0, 0))]])
noncomputable def p_Ledger_correctOn : mRec := (5, 2, 3, 3, false, [],
  [[(0, (.aload_n 0, 1, 0, 0)), (1, (.aload_n 1, 2, 0, 0)), (2, (.iload_n 2, 3, 0, 0)), (3, (.iconst 0, 4, 0, 4)), (4, (.lconst 0, 5, 0, 0)), (5, (.invokevirtual 135, 8, 0, 124)), (8, (.aload_n 0, 9, 0, 0)), (9, (.getfield 21, 12, 1, 129)), (12, (.iload_n 2, 13, 0, 0)), (13, (.invokevirtual 121, 16, 0, 78))],
   [(16, (.lsub, 17, 0, 0)), (17, (.lstore_n 3, 18, 0, 0)), (18, (.aload_n 0, 19, 0, 0)), (19, (.aload_n 1, 20, 0, 0)), (20, (.aload_n 0, 21, 0, 0)), (21, (.iload_n 2, 22, 0, 0)), (22, (.invokevirtual 118, 25, 0, 76)), (25, (.lload_n 3, 26, 0, 0)), (26, (.invokevirtual 102, 29, 0, 66)), (29, (.lload_n 3, 30, 0, 0)), (30, (.lreturn, 31, 0, 0))]])
noncomputable def p_V_righted : mRec := (1, 2, 1, 11, false, [],
  [[(0, (.aload_n 0, 1, 0, 0)), (1, (.getfield 41, 4, 4, 644)), (4, (.invokevirtual 352, 7, 0, 69)), (7, (.ifCond .eq 13, 10, 20, 0)), (10, (.aload_n 0, 11, 0, 0)), (11, (.getfield 57, 14, 6, 646)), (14, (.invokevirtual 358, 17, 0, 205))],
   [(17, (.goto 6, 20, 23, 0)), (20, (.ldc2_w 149, 23, 0, 3)), (23, (.lreturn, 24, 0, 0))]])
noncomputable def p_WhatIf_correctedNow : mRec := (5, 2, 1, 10, false, [13],
  [[(0, (.lconst 0, 1, 0, 0)), (1, (.lstore_n 1, 2, 0, 0)), (2, (.aload_n 0, 3, 0, 0)), (3, (.getfield 9, 6, 0, 576)), (6, (.invokevirtual 65, 9, 0, 179)), (9, (.astore_n 3, 10, 0, 0)), (10, (.iconst 0, 11, 0, 4)), (11, (.istore 4, 13, 0, 0)), (13, (.iload 4, 15, 0, 0)), (15, (.aload_n 0, 16, 0, 0))],
   [(16, (.getfield 9, 19, 0, 576)), (19, (.invokevirtual 111, 22, 0, 94)), (22, (.if_icmp .ge 22, 25, 44, 0)), (25, (.lload_n 1, 26, 0, 0)), (26, (.aload_n 0, 27, 0, 0)), (27, (.getfield 9, 30, 0, 576)), (30, (.aload_n 3, 31, 0, 0)), (31, (.iload 4, 33, 0, 0))],
   [(33, (.invokevirtual 143, 36, 0, 203)), (36, (.ladd, 37, 0, 0)), (37, (.lstore_n 1, 38, 0, 0)), (38, (.iinc 4 1, 41, 0, 3)), (41, (.goto (-28), 44, 13, 0)), (44, (.lload_n 1, 45, 0, 0)), (45, (.lreturn, 46, 0, 0))]])
noncomputable def p_V_settled : mRec := (1, 2, 1, 11, false, [],
  [[(0, (.aload_n 0, 1, 0, 0)), (1, (.invokevirtual 171, 4, 0, 102)), (4, (.ifCond .eq 9, 7, 13, 0)), (7, (.ldc2_w 149, 10, 0, 3)), (10, (.goto 10, 13, 20, 0)), (13, (.aload_n 0, 14, 0, 0)), (14, (.getfield 57, 17, 6, 646))],
   [(17, (.invokevirtual 361, 20, 0, 207)), (20, (.lreturn, 21, 0, 0))]])
noncomputable def p_WhatIf_settlement : mRec := (1, 2, 1, 10, false, [],
  [[(0, (.aload_n 0, 1, 0, 0)), (1, (.getfield 9, 4, 0, 576)), (4, (.invokevirtual 147, 7, 0, 69)), (7, (.ifCond .eq 13, 10, 20, 0)), (10, (.aload_n 0, 11, 0, 0)), (11, (.iconst 0, 12, 0, 4)), (12, (.iconst 0, 13, 0, 4)), (13, (.iconst 0, 14, 0, 4)), (14, (.invokevirtual 140, 17, 0, 208))],
   [(17, (.goto 10, 20, 27, 0)), (20, (.aload_n 0, 21, 0, 0)), (21, (.getfield 26, 24, 2, 578)), (24, (.invokevirtual 151, 27, 0, 212)), (27, (.lreturn, 28, 0, 0))]])
noncomputable def p_WhatIf_settlementWith : mRec := (8, 2, 4, 10, false, [12, 65],
  [[(0, (.aload_n 0, 1, 0, 0)), (1, (.getfield 9, 4, 0, 576)), (4, (.invokevirtual 154, 7, 0, 209)), (7, (.astore 4, 9, 0, 0)), (9, (.iconst 0, 10, 0, 4)), (10, (.istore 5, 12, 0, 0)), (12, (.iload 5, 14, 0, 0)), (14, (.iload_n 2, 15, 0, 0)), (15, (.if_icmp .ge 32, 18, 47, 0))],
   [(18, (.aload_n 0, 19, 0, 0)), (19, (.getfield 9, 22, 0, 576)), (22, (.aload 4, 24, 0, 0)), (24, (.iload_n 1, 25, 0, 0)), (25, (.iload 5, 27, 0, 0)), (27, (.aload_n 0, 28, 0, 0)), (28, (.getfield 9, 31, 0, 576)), (31, (.invokevirtual 87, 34, 0, 88))],
   [(34, (.imul, 35, 0, 0)), (35, (.iadd, 36, 0, 0)), (36, (.iload_n 3, 37, 0, 0)), (37, (.i2l, 38, 0, 0)), (38, (.invokevirtual 68, 41, 0, 66)), (41, (.iinc 5 1, 44, 0, 3)), (44, (.goto (-32), 47, 12, 0)), (47, (.aload_n 0, 48, 0, 0))],
   [(48, (.getfield 26, 51, 2, 578)), (51, (.invokevirtual 157, 54, 0, 210)), (54, (.iload_n 2, 55, 0, 0)), (55, (.i2l, 56, 0, 0)), (56, (.iload_n 3, 57, 0, 0)), (57, (.i2l, 58, 0, 0)), (58, (.lmul, 59, 0, 0)), (59, (.ladd, 60, 0, 0)), (60, (.lstore 5, 62, 0, 0)), (62, (.iconst 0, 63, 0, 4)), (63, (.istore 7, 65, 0, 0))],
   [(65, (.iload 7, 67, 0, 0)), (67, (.aload_n 0, 68, 0, 0)), (68, (.getfield 9, 71, 0, 576)), (71, (.invokevirtual 48, 74, 0, 89)), (74, (.if_icmp .ge 25, 77, 99, 0)), (77, (.lload 5, 79, 0, 0)), (79, (.aload_n 0, 80, 0, 0))],
   [(80, (.getfield 9, 83, 0, 576)), (83, (.aload 4, 85, 0, 0)), (85, (.iload 7, 87, 0, 0)), (87, (.invokevirtual 160, 90, 0, 211)), (90, (.ladd, 91, 0, 0)), (91, (.lstore 5, 93, 0, 0)), (93, (.iinc 7 1, 96, 0, 3))],
   [(96, (.goto (-31), 99, 65, 0)), (99, (.lload 5, 101, 0, 0)), (101, (.lreturn, 102, 0, 0))]])
noncomputable def p_Ledger_trialPrincipal : mRec := (3, 6, 1, 3, false, [10, 81],
  [[(0, (.aload_n 0, 1, 0, 0)), (1, (.getfield 29, 4, 3, 131)), (4, (.lconst 0, 5, 0, 0)), (5, (.invokestatic 49, 8, 0, 58)), (8, (.iconst 0, 9, 0, 4)), (9, (.istore_n 1, 10, 0, 0)), (10, (.iload_n 1, 11, 0, 0)), (11, (.aload_n 0, 12, 0, 0)), (12, (.getfield 21, 15, 1, 129)), (15, (.invokevirtual 176, 18, 0, 93))],
   [(18, (.if_icmp .ge 61, 21, 79, 0)), (21, (.aload_n 0, 22, 0, 0)), (22, (.getfield 21, 25, 1, 129)), (25, (.iload_n 1, 26, 0, 0)), (26, (.invokevirtual 132, 29, 0, 84)), (29, (.istore_n 2, 30, 0, 0)), (30, (.aload_n 0, 31, 0, 0)), (31, (.getfield 21, 34, 1, 129))],
   [(34, (.iload_n 1, 35, 0, 0)), (35, (.invokevirtual 177, 38, 0, 79)), (38, (.ifCond .ne 35, 41, 73, 0)), (41, (.aload_n 0, 42, 0, 0)), (42, (.iload_n 2, 43, 0, 0)), (43, (.invokevirtual 180, 46, 0, 106)), (46, (.ifCond .eq 27, 49, 73, 0))],
   [(49, (.iload_n 2, 50, 0, 0)), (50, (.sipush 320, 53, 0, 30)), (53, (.if_icmp .ge 20, 56, 73, 0)), (56, (.aload_n 0, 57, 0, 0)), (57, (.getfield 29, 60, 3, 131)), (60, (.iload_n 2, 61, 0, 0)), (61, (.dup2, 62, 0, 0)), (62, (.laload, 63, 0, 0)), (63, (.aload_n 0, 64, 0, 0))],
   [(64, (.getfield 21, 67, 1, 129)), (67, (.iload_n 1, 68, 0, 0)), (68, (.invokevirtual 129, 71, 0, 83)), (71, (.ladd, 72, 0, 0)), (72, (.lastore, 73, 0, 0)), (73, (.iinc 1 1, 76, 0, 3)), (76, (.goto (-66), 79, 10, 0)), (79, (.iconst 1, 80, 0, 3))],
   [(80, (.istore_n 1, 81, 0, 0)), (81, (.iload_n 1, 82, 0, 0)), (82, (.sipush 320, 85, 0, 30)), (85, (.if_icmp .ge 26, 88, 111, 0)), (88, (.aload_n 0, 89, 0, 0)), (89, (.getfield 29, 92, 3, 131)), (92, (.iload_n 1, 93, 0, 0)), (93, (.dup2, 94, 0, 0)), (94, (.laload, 95, 0, 0)), (95, (.aload_n 0, 96, 0, 0))],
   [(96, (.getfield 29, 99, 3, 131)), (99, (.iload_n 1, 100, 0, 0)), (100, (.iconst 1, 101, 0, 3)), (101, (.isub, 102, 0, 0)), (102, (.laload, 103, 0, 0)), (103, (.ladd, 104, 0, 0)), (104, (.lastore, 105, 0, 0)), (105, (.iinc 1 1, 108, 0, 3)), (108, (.goto (-27), 111, 81, 0)), (111, (.aload_n 0, 112, 0, 0))],
   [(112, (.getfield 29, 115, 3, 131)), (115, (.areturn, 116, 0, 0))]])
noncomputable def p_Entries_sumOfPrincipal : mRec := (4, 2, 1, 2, false, [4],
  [[(0, (.lconst 0, 1, 0, 0)), (1, (.lstore_n 1, 2, 0, 0)), (2, (.iconst 0, 3, 0, 4)), (3, (.istore_n 3, 4, 0, 0)), (4, (.iload_n 3, 5, 0, 0)), (5, (.aload_n 0, 6, 0, 0)), (6, (.getfield 31, 9, 6, 70)), (9, (.if_icmp .ge 26, 12, 35, 0)), (12, (.aload_n 0, 13, 0, 0)), (13, (.iload_n 3, 14, 0, 0)), (14, (.invokevirtual 39, 17, 0, 79))],
   [(17, (.ifCond .ne 12, 20, 29, 0)), (20, (.lload_n 1, 21, 0, 0)), (21, (.aload_n 0, 22, 0, 0)), (22, (.getfield 15, 25, 1, 65)), (25, (.iload_n 3, 26, 0, 0)), (26, (.laload, 27, 0, 0)), (27, (.ladd, 28, 0, 0)), (28, (.lstore_n 1, 29, 0, 0)), (29, (.iinc 3 1, 32, 0, 3))],
   [(32, (.goto (-28), 35, 4, 0)), (35, (.lload_n 1, 36, 0, 0)), (36, (.lreturn, 37, 0, 0))]])
noncomputable def p_Ledger_compoundOn : mRec := (5, 2, 3, 3, false, [],
  [[(0, (.aload_n 0, 1, 0, 0)), (1, (.aload_n 1, 2, 0, 0)), (2, (.iload_n 2, 3, 0, 0)), (3, (.iconst 0, 4, 0, 4)), (4, (.lconst 0, 5, 0, 0)), (5, (.invokevirtual 135, 8, 0, 124)), (8, (.lstore_n 3, 9, 0, 0)), (9, (.aload_n 0, 10, 0, 0)), (10, (.aload_n 1, 11, 0, 0)), (11, (.aload_n 0, 12, 0, 0)), (12, (.iload_n 2, 13, 0, 0)), (13, (.invokevirtual 118, 16, 0, 76))],
   [(16, (.lload_n 3, 17, 0, 0)), (17, (.invokevirtual 102, 20, 0, 66)), (20, (.lload_n 3, 21, 0, 0)), (21, (.lreturn, 22, 0, 0))]])
noncomputable def p_Entries_sum : mRec := (4, 2, 1, 2, false, [4],
  [[(0, (.lconst 0, 1, 0, 0)), (1, (.lstore_n 1, 2, 0, 0)), (2, (.iconst 0, 3, 0, 4)), (3, (.istore_n 3, 4, 0, 0)), (4, (.iload_n 3, 5, 0, 0)), (5, (.aload_n 0, 6, 0, 0)), (6, (.getfield 31, 9, 6, 70)), (9, (.if_icmp .ge 18, 12, 27, 0)), (12, (.lload_n 1, 13, 0, 0)), (13, (.aload_n 0, 14, 0, 0)), (14, (.getfield 15, 17, 1, 65))],
   [(17, (.iload_n 3, 18, 0, 0)), (18, (.laload, 19, 0, 0)), (19, (.ladd, 20, 0, 0)), (20, (.lstore_n 1, 21, 0, 0)), (21, (.iinc 3 1, 24, 0, 3)), (24, (.goto (-20), 27, 4, 0)), (27, (.lload_n 1, 28, 0, 0)), (28, (.lreturn, 29, 0, 0))]])
noncomputable def p_V_compounded : mRec := (6, 2, 2, 11, false, [],
  [[(0, (.aload_n 0, 1, 0, 0)), (1, (.invokevirtual 171, 4, 0, 102)), (4, (.ifCond .ne 12, 7, 16, 0)), (7, (.iload_n 1, 8, 0, 0)), (8, (.iconst 1, 9, 0, 3)), (9, (.iconst 4, 10, 0, 14)), (10, (.invokestatic 301, 13, 0, 167)), (13, (.ifCond .ne 7, 16, 20, 0))],
   [(16, (.ldc2_w 149, 19, 0, 3)), (19, (.lreturn, 20, 0, 0)), (20, (.aload_n 0, 21, 0, 0)), (21, (.getfield 57, 24, 6, 646)), (24, (.invokevirtual 361, 27, 0, 207)), (27, (.lstore_n 2, 28, 0, 0)), (28, (.aload_n 0, 29, 0, 0)), (29, (.getfield 41, 32, 4, 644))],
   [(32, (.aload_n 0, 33, 0, 0)), (33, (.getfield 30, 36, 2, 642)), (36, (.iload_n 1, 37, 0, 0)), (37, (.invokevirtual 106, 40, 0, 54)), (40, (.aload_n 0, 41, 0, 0)), (41, (.getfield 57, 44, 6, 646)), (44, (.invokevirtual 361, 47, 0, 207)), (47, (.lstore 4, 49, 0, 0))],
   [(49, (.aload_n 0, 50, 0, 0)), (50, (.getfield 41, 53, 4, 644)), (53, (.aload_n 0, 54, 0, 0)), (54, (.getfield 30, 57, 2, 642)), (57, (.aload_n 0, 58, 0, 0)), (58, (.getfield 30, 61, 2, 642)), (61, (.invokevirtual 103, 64, 0, 51))],
   [(64, (.invokevirtual 106, 67, 0, 54)), (67, (.lload 4, 69, 0, 0)), (69, (.lload_n 2, 70, 0, 0)), (70, (.lsub, 71, 0, 0)), (71, (.lreturn, 72, 0, 0))]])
noncomputable def p_V_ideal : mRec := (2, 2, 2, 11, false, [],
  [[(0, (.aload_n 0, 1, 0, 0)), (1, (.getfield 41, 4, 4, 644)), (4, (.iload_n 1, 5, 0, 0)), (5, (.invokevirtual 211, 8, 0, 119)), (8, (.ifCond .eq 14, 11, 22, 0)), (11, (.aload_n 0, 12, 0, 0)), (12, (.getfield 57, 15, 6, 646)), (15, (.iload_n 1, 16, 0, 0))],
   [(16, (.invokevirtual 364, 19, 0, 215)), (19, (.goto 6, 22, 25, 0)), (22, (.ldc2_w 149, 25, 0, 3)), (25, (.lreturn, 26, 0, 0))]])
noncomputable def p_WhatIf_idealInterest : mRec := (4, 2, 2, 10, false, [10],
  [[(0, (.aload_n 0, 1, 0, 0)), (1, (.getfield 9, 4, 0, 576)), (4, (.invokevirtual 154, 7, 0, 209)), (7, (.astore_n 2, 8, 0, 0)), (8, (.iconst 0, 9, 0, 4)), (9, (.istore_n 3, 10, 0, 0)), (10, (.iload_n 3, 11, 0, 0)), (11, (.iload_n 1, 12, 0, 0)), (12, (.if_icmp .ge 19, 15, 31, 0)), (15, (.aload_n 0, 16, 0, 0))],
   [(16, (.getfield 9, 19, 0, 576)), (19, (.aload_n 2, 20, 0, 0)), (20, (.iload_n 3, 21, 0, 0)), (21, (.invokevirtual 160, 24, 0, 211)), (24, (.pop2, 25, 0, 0)), (25, (.iinc 3 1, 28, 0, 3)), (28, (.goto (-18), 31, 10, 0)), (31, (.aload_n 0, 32, 0, 0))],
   [(32, (.getfield 9, 35, 0, 576)), (35, (.aload_n 2, 36, 0, 0)), (36, (.iload_n 1, 37, 0, 0)), (37, (.iconst 0, 38, 0, 4)), (38, (.lconst 0, 39, 0, 0)), (39, (.invokevirtual 41, 42, 0, 124)), (42, (.lreturn, 43, 0, 0))]])
noncomputable def p_V_planned : mRec := (4, 2, 4, 11, false, [],
  [[(0, (.aload_n 0, 1, 0, 0)), (1, (.iload_n 1, 2, 0, 0)), (2, (.iload_n 2, 3, 0, 0)), (3, (.invokevirtual 367, 6, 0, 217)), (6, (.ifCond .eq 14, 9, 20, 0)), (9, (.iload_n 3, 10, 0, 0)), (10, (.iconst 0, 11, 0, 4)), (11, (.ldc_w 300, 14, 0, 24)), (14, (.invokestatic 301, 17, 0, 167))],
   [(17, (.ifCond .ne 7, 20, 24, 0)), (20, (.ldc2_w 149, 23, 0, 3)), (23, (.lreturn, 24, 0, 0)), (24, (.aload_n 0, 25, 0, 0)), (25, (.getfield 57, 28, 6, 646)), (28, (.iload_n 1, 29, 0, 0)), (29, (.iload_n 2, 30, 0, 0)), (30, (.iload_n 3, 31, 0, 0)), (31, (.invokevirtual 371, 34, 0, 208))],
   [(34, (.lreturn, 35, 0, 0))]])
noncomputable def p_V_canPlan : mRec := (3, 3, 3, 11, false, [],
  [[(0, (.aload_n 0, 1, 0, 0)), (1, (.getfield 41, 4, 4, 644)), (4, (.invokevirtual 352, 7, 0, 69)), (7, (.ifCond .eq 24, 10, 31, 0)), (10, (.aload_n 0, 11, 0, 0)), (11, (.getfield 41, 14, 4, 644)), (14, (.iload_n 1, 15, 0, 0)), (15, (.invokevirtual 181, 18, 0, 106))],
   [(18, (.ifCond .eq 13, 21, 31, 0)), (21, (.iload_n 2, 22, 0, 0)), (22, (.iconst 1, 23, 0, 3)), (23, (.bipush 8, 25, 0, 21)), (25, (.invokestatic 301, 28, 0, 167)), (28, (.ifCond .ne 5, 31, 33, 0)), (31, (.iconst 0, 32, 0, 4))],
   [(32, (.ireturn, 33, 0, 0)), (33, (.aload_n 0, 34, 0, 0)), (34, (.getfield 41, 37, 4, 644)), (37, (.iload_n 1, 38, 0, 0)), (38, (.iload_n 2, 39, 0, 0)), (39, (.iconst 1, 40, 0, 3)), (40, (.isub, 41, 0, 0)), (41, (.aload_n 0, 42, 0, 0)), (42, (.getfield 41, 45, 4, 644)), (45, (.invokevirtual 116, 48, 0, 88))],
   [(48, (.imul, 49, 0, 0)), (49, (.iadd, 50, 0, 0)), (50, (.invokevirtual 181, 53, 0, 106)), (53, (.ireturn, 54, 0, 0))]])
noncomputable def p_V_plan : mRec := (3, 1, 3, 11, false, [],
  [[(0, (.aload_n 0, 1, 0, 0)), (1, (.iload_n 1, 2, 0, 0)), (2, (.iload_n 2, 3, 0, 0)), (3, (.invokevirtual 367, 6, 0, 217)), (6, (.ifCond .eq 15, 9, 21, 0)), (9, (.aload_n 0, 10, 0, 0)), (10, (.getfield 57, 13, 6, 646)), (13, (.iload_n 1, 14, 0, 0)), (14, (.iload_n 2, 15, 0, 0)), (15, (.invokevirtual 374, 18, 0, 219))],
   [(18, (.goto 5, 21, 23, 0)), (21, (.bipush (-2), 23, 0, 32)), (23, (.ireturn, 24, 0, 0))]])
noncomputable def p_WhatIf_leastPlan : mRec := (6, 1, 3, 10, false, [20],
  [[(0, (.aload_n 0, 1, 0, 0)), (1, (.iload_n 1, 2, 0, 0)), (2, (.iload_n 2, 3, 0, 0)), (3, (.iconst 0, 4, 0, 4)), (4, (.invokevirtual 140, 7, 0, 208)), (7, (.lconst 0, 8, 0, 0)), (8, (.lcmp, 12, 14, 2)), (9, (.ifCond .lt 5, 12, 14, 0)), (12, (.iconst 0, 13, 0, 4)), (13, (.ireturn, 14, 0, 0)), (14, (.iconst 0, 15, 0, 4)), (15, (.istore_n 3, 16, 0, 0))],
   [(16, (.ldc 135, 18, 0, 36)), (18, (.istore 4, 20, 0, 0)), (20, (.iload 4, 22, 0, 0)), (22, (.ifCond .le 41, 25, 63, 0)), (25, (.iload_n 3, 26, 0, 0)), (26, (.iload 4, 28, 0, 0)), (28, (.iadd, 29, 0, 0)), (29, (.istore 5, 31, 0, 0)), (31, (.iload 5, 33, 0, 0))],
   [(33, (.ldc 136, 35, 0, 24)), (35, (.if_icmp .gt 19, 38, 54, 0)), (38, (.aload_n 0, 39, 0, 0)), (39, (.iload_n 1, 40, 0, 0)), (40, (.iload_n 2, 41, 0, 0)), (41, (.iload 5, 43, 0, 0)), (43, (.invokevirtual 140, 46, 0, 208)), (46, (.lconst 0, 47, 0, 0)), (47, (.lcmp, 51, 54, 3))],
   [(48, (.ifCond .ge 6, 51, 54, 0)), (51, (.iload 5, 53, 0, 0)), (53, (.istore_n 3, 54, 0, 0)), (54, (.iload 4, 56, 0, 0)), (56, (.iconst 1, 57, 0, 3)), (57, (.ishr, 58, 0, 0)), (58, (.istore 4, 60, 0, 0)), (60, (.goto (-40), 63, 20, 0)), (63, (.iload_n 3, 64, 0, 0))],
   [(64, (.ldc 136, 66, 0, 24)), (66, (.if_icmp .ge 9, 69, 75, 0)), (69, (.iload_n 3, 70, 0, 0)), (70, (.iconst 1, 71, 0, 3)), (71, (.iadd, 72, 0, 0)), (72, (.goto 4, 75, 76, 0)), (75, (.iconst (-1), 76, 0, 1)), (76, (.ireturn, 77, 0, 0))]])
noncomputable def p_V_left : mRec := (2, 2, 2, 11, false, [],
  [[(0, (.aload_n 0, 1, 0, 0)), (1, (.getfield 41, 4, 4, 644)), (4, (.getfield 63, 7, 1, 129)), (7, (.iload_n 1, 8, 0, 0)), (8, (.invokevirtual 146, 11, 0, 80)), (11, (.ifCond .ne 7, 14, 18, 0)), (14, (.ldc2_w 149, 17, 0, 3))],
   [(17, (.lreturn, 18, 0, 0)), (18, (.aload_n 0, 19, 0, 0)), (19, (.getfield 70, 22, 7, 647)), (22, (.invokevirtual 377, 25, 0, 221)), (25, (.aload_n 0, 26, 0, 0)), (26, (.getfield 70, 29, 7, 647)), (29, (.iload_n 1, 30, 0, 0)), (30, (.invokevirtual 380, 33, 0, 223))],
   [(33, (.lreturn, 34, 0, 0))]])
noncomputable def p_PaidOff_reckon : mRec := (9, 0, 1, 4, false, [2, 66],
  [[(0, (.iconst 0, 1, 0, 4)), (1, (.istore_n 1, 2, 0, 0)), (2, (.iload_n 1, 3, 0, 0)), (3, (.aload_n 0, 4, 0, 0)), (4, (.getfield 21, 7, 0, 192)), (7, (.invokevirtual 29, 10, 0, 93)), (10, (.if_icmp .ge 40, 13, 50, 0)), (13, (.iload_n 1, 14, 0, 0)), (14, (.sipush 220, 17, 0, 31))],
   [(17, (.if_icmp .ge 33, 20, 50, 0)), (20, (.aload_n 0, 21, 0, 0)), (21, (.getfield 11, 24, 1, 193)), (24, (.iload_n 1, 25, 0, 0)), (25, (.aload_n 0, 26, 0, 0)), (26, (.getfield 21, 29, 0, 192)), (29, (.iload_n 1, 30, 0, 0)), (30, (.invokevirtual 37, 33, 0, 83))],
   [(33, (.invokestatic 44, 36, 0, 9006)), (36, (.lastore, 37, 0, 0)), (37, (.aload_n 0, 38, 0, 0)), (38, (.getfield 17, 41, 2, 194)), (41, (.iload_n 1, 42, 0, 0)), (42, (.iconst (-1), 43, 0, 1)), (43, (.iastore, 44, 0, 0)), (44, (.iinc 1 1, 47, 0, 3)), (47, (.goto (-45), 50, 2, 0))],
   [(50, (.aload_n 0, 51, 0, 0)), (51, (.iconst 1, 52, 0, 3)), (52, (.iconst 0, 53, 0, 4)), (53, (.invokevirtual 50, 56, 0, 222)), (56, (.istore_n 1, 57, 0, 0)), (57, (.aload_n 0, 58, 0, 0)), (58, (.iconst (-1), 59, 0, 1)), (59, (.iconst 0, 60, 0, 4)), (60, (.invokevirtual 50, 63, 0, 222)), (63, (.istore_n 2, 64, 0, 0))],
   [(64, (.iconst 0, 65, 0, 4)), (65, (.istore_n 3, 66, 0, 0)), (66, (.iload_n 3, 67, 0, 0)), (67, (.aload_n 0, 68, 0, 0)), (68, (.getfield 21, 71, 0, 192)), (71, (.invokevirtual 29, 74, 0, 93)), (74, (.if_icmp .ge 159, 77, 233, 0)), (77, (.aload_n 0, 78, 0, 0)), (78, (.getfield 21, 81, 0, 192))],
   [(81, (.iload_n 1, 82, 0, 0)), (82, (.invokevirtual 54, 85, 0, 80)), (85, (.ifCond .eq 148, 88, 233, 0)), (88, (.aload_n 0, 89, 0, 0)), (89, (.getfield 21, 92, 0, 192)), (92, (.iload_n 2, 93, 0, 0)), (93, (.invokevirtual 54, 96, 0, 80))],
   [(96, (.ifCond .eq 137, 99, 233, 0)), (99, (.aload_n 0, 100, 0, 0)), (100, (.getfield 21, 103, 0, 192)), (103, (.iload_n 1, 104, 0, 0)), (104, (.invokevirtual 33, 107, 0, 103)), (107, (.istore 4, 109, 0, 0)), (109, (.aload_n 0, 110, 0, 0)), (110, (.getfield 21, 113, 0, 192))],
   [(113, (.iload_n 2, 114, 0, 0)), (114, (.invokevirtual 33, 117, 0, 103)), (117, (.istore 5, 119, 0, 0)), (119, (.aload_n 0, 120, 0, 0)), (120, (.iload 4, 122, 0, 0)), (122, (.invokevirtual 41, 125, 0, 223)), (125, (.aload_n 0, 126, 0, 0)), (126, (.iload 5, 128, 0, 0))],
   [(128, (.invokevirtual 41, 131, 0, 223)), (131, (.invokestatic 57, 134, 0, 9005)), (134, (.lstore 6, 136, 0, 0)), (136, (.aload_n 0, 137, 0, 0)), (137, (.getfield 21, 140, 0, 192)), (140, (.iload 4, 142, 0, 0)), (142, (.invokevirtual 61, 145, 0, 84))],
   [(145, (.aload_n 0, 146, 0, 0)), (146, (.getfield 21, 149, 0, 192)), (149, (.iload 5, 151, 0, 0)), (151, (.invokevirtual 61, 154, 0, 84)), (154, (.invokestatic 64, 157, 0, 9002)), (157, (.istore 8, 159, 0, 0)), (159, (.aload_n 0, 160, 0, 0))],
   [(160, (.iload 4, 162, 0, 0)), (162, (.lload 6, 164, 0, 0)), (164, (.iload 8, 166, 0, 0)), (166, (.invokevirtual 67, 169, 0, 225)), (169, (.aload_n 0, 170, 0, 0)), (170, (.iload 5, 172, 0, 0)), (172, (.lload 6, 174, 0, 0)), (174, (.iload 8, 176, 0, 0))],
   [(176, (.invokevirtual 67, 179, 0, 225)), (179, (.aload_n 0, 180, 0, 0)), (180, (.iload 4, 182, 0, 0)), (182, (.invokevirtual 41, 185, 0, 223)), (185, (.lconst 0, 186, 0, 0)), (186, (.lcmp, 190, 201, 1)), (187, (.ifCond .ne 14, 190, 201, 0)), (190, (.aload_n 0, 191, 0, 0)), (191, (.iconst 1, 192, 0, 3))],
   [(192, (.iload_n 1, 193, 0, 0)), (193, (.iconst 1, 194, 0, 3)), (194, (.iadd, 195, 0, 0)), (195, (.invokevirtual 50, 198, 0, 222)), (198, (.goto 4, 201, 202, 0)), (201, (.iload_n 1, 202, 0, 0)), (202, (.istore_n 1, 203, 0, 0)), (203, (.aload_n 0, 204, 0, 0)), (204, (.iload 5, 206, 0, 0)), (206, (.invokevirtual 41, 209, 0, 223))],
   [(209, (.lconst 0, 210, 0, 0)), (210, (.lcmp, 214, 225, 1)), (211, (.ifCond .ne 14, 214, 225, 0)), (214, (.aload_n 0, 215, 0, 0)), (215, (.iconst (-1), 216, 0, 1)), (216, (.iload_n 2, 217, 0, 0)), (217, (.iconst 1, 218, 0, 3)), (218, (.iadd, 219, 0, 0)), (219, (.invokevirtual 50, 222, 0, 222)), (222, (.goto 4, 225, 226, 0))],
   [(225, (.iload_n 2, 226, 0, 0)), (226, (.istore_n 2, 227, 0, 0)), (227, (.iinc 3 1, 230, 0, 3)), (230, (.goto (-164), 233, 66, 0)), (233, (.return_, 234, 0, 0))]])
noncomputable def p_PaidOff_nextOf : mRec := (4, 1, 3, 4, false, [6],
  [[(0, (.iconst 0, 1, 0, 4)), (1, (.iload_n 2, 2, 0, 0)), (2, (.invokestatic 64, 5, 0, 9002)), (5, (.istore_n 3, 6, 0, 0)), (6, (.iload_n 3, 7, 0, 0)), (7, (.aload_n 0, 8, 0, 0)), (8, (.getfield 21, 11, 0, 192)), (11, (.invokevirtual 29, 14, 0, 93)), (14, (.if_icmp .ge 34, 17, 48, 0))],
   [(17, (.aload_n 0, 18, 0, 0)), (18, (.getfield 21, 21, 0, 192)), (21, (.aload_n 0, 22, 0, 0)), (22, (.getfield 21, 25, 0, 192)), (25, (.iload_n 3, 26, 0, 0)), (26, (.invokevirtual 33, 29, 0, 103)), (29, (.invokevirtual 37, 32, 0, 83))],
   [(32, (.iload_n 1, 33, 0, 0)), (33, (.i2l, 34, 0, 0)), (34, (.lmul, 35, 0, 0)), (35, (.lconst 0, 36, 0, 0)), (36, (.lcmp, 40, 42, 5)), (37, (.ifCond .le 5, 40, 42, 0)), (40, (.iload_n 3, 41, 0, 0)), (41, (.ireturn, 42, 0, 0)), (42, (.iinc 3 1, 45, 0, 3)), (45, (.goto (-39), 48, 6, 0))],
   [(48, (.iconst (-1), 49, 0, 1)), (49, (.ireturn, 50, 0, 0))]])
noncomputable def p_PaidOff_restOf : mRec := (2, 2, 2, 4, false, [],
  [[(0, (.aload_n 0, 1, 0, 0)), (1, (.iload_n 1, 2, 0, 0)), (2, (.invokevirtual 25, 5, 0, 224)), (5, (.ifCond .eq 12, 8, 17, 0)), (8, (.aload_n 0, 9, 0, 0)), (9, (.getfield 11, 12, 1, 193)), (12, (.iload_n 1, 13, 0, 0)), (13, (.laload, 14, 0, 0)), (14, (.goto 4, 17, 18, 0))],
   [(17, (.lconst 0, 18, 0, 0)), (18, (.lreturn, 19, 0, 0))]])
noncomputable def p_PaidOff_isEntry : mRec := (2, 3, 2, 4, false, [],
  [[(0, (.iload_n 1, 1, 0, 0)), (1, (.ifCond .lt 25, 4, 26, 0)), (4, (.iload_n 1, 5, 0, 0)), (5, (.sipush 220, 8, 0, 31)), (8, (.if_icmp .ge 18, 11, 26, 0)), (11, (.aload_n 0, 12, 0, 0)), (12, (.getfield 21, 15, 0, 192)), (15, (.iload_n 1, 16, 0, 0))],
   [(16, (.invokevirtual 54, 19, 0, 80)), (19, (.ifCond .eq 7, 22, 26, 0)), (22, (.iconst 1, 23, 0, 3)), (23, (.goto 4, 26, 27, 0)), (26, (.iconst 0, 27, 0, 4)), (27, (.ireturn, 28, 0, 0))]])
noncomputable def p_PaidOff_takeOff : mRec := (5, 0, 4, 4, false, [],
  [[(0, (.aload_n 0, 1, 0, 0)), (1, (.iload_n 1, 2, 0, 0)), (2, (.invokevirtual 25, 5, 0, 224)), (5, (.ifCond .eq 32, 8, 37, 0)), (8, (.aload_n 0, 9, 0, 0)), (9, (.getfield 11, 12, 1, 193)), (12, (.iload_n 1, 13, 0, 0)), (13, (.dup2, 14, 0, 0)), (14, (.laload, 15, 0, 0)), (15, (.lload_n 2, 16, 0, 0))],
   [(16, (.lsub, 17, 0, 0)), (17, (.lastore, 18, 0, 0)), (18, (.aload_n 0, 19, 0, 0)), (19, (.getfield 11, 22, 1, 193)), (22, (.iload_n 1, 23, 0, 0)), (23, (.laload, 24, 0, 0)), (24, (.lconst 0, 25, 0, 0)), (25, (.lcmp, 29, 37, 1)), (26, (.ifCond .ne 11, 29, 37, 0)), (29, (.aload_n 0, 30, 0, 0)), (30, (.getfield 17, 33, 2, 194))],
   [(33, (.iload_n 1, 34, 0, 0)), (34, (.iload 4, 36, 0, 0)), (36, (.iastore, 37, 0, 0)), (37, (.return_, 38, 0, 0))]])
noncomputable def p_V_gone : mRec := (2, 1, 2, 11, false, [],
  [[(0, (.aload_n 0, 1, 0, 0)), (1, (.getfield 41, 4, 4, 644)), (4, (.getfield 63, 7, 1, 129)), (7, (.iload_n 1, 8, 0, 0)), (8, (.invokevirtual 146, 11, 0, 80)), (11, (.ifCond .ne 6, 14, 17, 0)), (14, (.bipush (-2), 16, 0, 32))],
   [(16, (.ireturn, 17, 0, 0)), (17, (.aload_n 0, 18, 0, 0)), (18, (.getfield 70, 21, 7, 647)), (21, (.invokevirtual 377, 24, 0, 221)), (24, (.aload_n 0, 25, 0, 0)), (25, (.getfield 70, 28, 7, 647)), (28, (.iload_n 1, 29, 0, 0)), (29, (.invokevirtual 383, 32, 0, 227))],
   [(32, (.ireturn, 33, 0, 0))]])
noncomputable def p_PaidOff_lastDayOf : mRec := (2, 1, 2, 4, false, [],
  [[(0, (.aload_n 0, 1, 0, 0)), (1, (.iload_n 1, 2, 0, 0)), (2, (.invokevirtual 25, 5, 0, 224)), (5, (.ifCond .eq 12, 8, 17, 0)), (8, (.aload_n 0, 9, 0, 0)), (9, (.getfield 17, 12, 2, 194)), (12, (.iload_n 1, 13, 0, 0)), (13, (.iaload, 14, 0, 0)), (14, (.goto 4, 17, 18, 0))],
   [(17, (.iconst (-1), 18, 0, 1)), (18, (.ireturn, 19, 0, 0))]])
noncomputable def p_V_oldest : mRec := (1, 1, 1, 11, false, [],
  [[(0, (.aload_n 0, 1, 0, 0)), (1, (.invokevirtual 171, 4, 0, 102)), (4, (.ifCond .eq 6, 7, 10, 0)), (7, (.bipush (-2), 9, 0, 32)), (9, (.ireturn, 10, 0, 0)), (10, (.aload_n 0, 11, 0, 0)), (11, (.getfield 70, 14, 7, 647)), (14, (.invokevirtual 377, 17, 0, 221))],
   [(17, (.aload_n 0, 18, 0, 0)), (18, (.getfield 70, 21, 7, 647)), (21, (.invokevirtual 386, 24, 0, 229)), (24, (.ireturn, 25, 0, 0))]])
noncomputable def p_PaidOff_firstOwed : mRec := (3, 1, 1, 4, false, [2],
  [[(0, (.iconst 0, 1, 0, 4)), (1, (.istore_n 1, 2, 0, 0)), (2, (.iload_n 1, 3, 0, 0)), (3, (.aload_n 0, 4, 0, 0)), (4, (.getfield 21, 7, 0, 192)), (7, (.invokevirtual 29, 10, 0, 93)), (10, (.if_icmp .ge 43, 13, 53, 0)), (13, (.aload_n 0, 14, 0, 0)), (14, (.getfield 21, 17, 0, 192))],
   [(17, (.iload_n 1, 18, 0, 0)), (18, (.invokevirtual 33, 21, 0, 103)), (21, (.istore_n 2, 22, 0, 0)), (22, (.aload_n 0, 23, 0, 0)), (23, (.getfield 21, 26, 0, 192)), (26, (.iload_n 2, 27, 0, 0)), (27, (.invokevirtual 37, 30, 0, 83)), (30, (.lconst 0, 31, 0, 0)), (31, (.lcmp, 35, 47, 3))],
   [(32, (.ifCond .ge 15, 35, 47, 0)), (35, (.aload_n 0, 36, 0, 0)), (36, (.iload_n 2, 37, 0, 0)), (37, (.invokevirtual 41, 40, 0, 223)), (40, (.lconst 0, 41, 0, 0)), (41, (.lcmp, 45, 47, 5)), (42, (.ifCond .le 5, 45, 47, 0)), (45, (.iload_n 2, 46, 0, 0)), (46, (.ireturn, 47, 0, 0)), (47, (.iinc 1 1, 50, 0, 3))],
   [(50, (.goto (-48), 53, 2, 0)), (53, (.iconst (-1), 54, 0, 1)), (54, (.ireturn, 55, 0, 0))]])
noncomputable def p_V_pay : mRec := (3, 1, 3, 11, false, [],
  [[(0, (.aload_n 0, 1, 0, 0)), (1, (.iload_n 1, 2, 0, 0)), (2, (.iload_n 2, 3, 0, 0)), (3, (.iconst 1, 4, 0, 3)), (4, (.invokevirtual 389, 7, 0, 231)), (7, (.ireturn, 8, 0, 0))]])
noncomputable def p_V_bookMoney : mRec := (4, 1, 4, 11, false, [],
  [[(0, (.aload_n 0, 1, 0, 0)), (1, (.getfield 41, 4, 4, 644)), (4, (.iload_n 1, 5, 0, 0)), (5, (.invokevirtual 181, 8, 0, 106)), (8, (.ifCond .eq 14, 11, 22, 0)), (11, (.iload_n 2, 12, 0, 0)), (12, (.iconst 1, 13, 0, 3)), (13, (.ldc_w 300, 16, 0, 24))],
   [(16, (.invokestatic 301, 19, 0, 167)), (19, (.ifCond .ne 6, 22, 25, 0)), (22, (.bipush (-2), 24, 0, 32)), (24, (.ireturn, 25, 0, 0)), (25, (.aload_n 0, 26, 0, 0)), (26, (.getfield 41, 29, 4, 644)), (29, (.invokevirtual 352, 32, 0, 69))],
   [(32, (.ifCond .eq 13, 35, 45, 0)), (35, (.aload_n 0, 36, 0, 0)), (36, (.getfield 30, 39, 2, 642)), (39, (.invokevirtual 395, 42, 0, 232)), (42, (.ifCond .eq 6, 45, 48, 0)), (45, (.bipush (-5), 47, 0, 38)), (47, (.ireturn, 48, 0, 0))],
   [(48, (.aload_n 0, 49, 0, 0)), (49, (.iconst 4, 50, 0, 14)), (50, (.iload_n 1, 51, 0, 0)), (51, (.iload_n 3, 52, 0, 0)), (52, (.iload_n 2, 53, 0, 0)), (53, (.imul, 54, 0, 0)), (54, (.iconst 0, 55, 0, 4)), (55, (.invokevirtual 401, 58, 0, 233)), (58, (.aload_n 0, 59, 0, 0)), (59, (.getfield 41, 62, 4, 644)), (62, (.getfield 63, 65, 1, 129))],
   [(65, (.invokevirtual 135, 68, 0, 93)), (68, (.iconst 1, 69, 0, 3)), (69, (.isub, 70, 0, 0)), (70, (.ireturn, 71, 0, 0))]])
noncomputable def p_Script_isFull : mRec := (1, 3, 1, 6, false, [],
  [[(0, (.aload_n 0, 1, 0, 0)), (1, (.getfield 17, 4, 2, 322)), (4, (.bipush 20, 6, 0, 0)), (6, (.if_icmp .lt 7, 9, 13, 0)), (9, (.iconst 1, 10, 0, 3)), (10, (.goto 4, 13, 14, 0)), (13, (.iconst 0, 14, 0, 4)), (14, (.ireturn, 15, 0, 0))]])
noncomputable def p_V_act : mRec := (5, 0, 5, 11, false, [],
  [[(0, (.aload_n 0, 1, 0, 0)), (1, (.getfield 30, 4, 2, 642)), (4, (.iload_n 1, 5, 0, 0)), (5, (.iload_n 2, 6, 0, 0)), (6, (.iload_n 3, 7, 0, 0)), (7, (.iload 4, 9, 0, 0)), (9, (.invokevirtual 412, 12, 0, 234)), (12, (.aload_n 0, 13, 0, 0)), (13, (.getfield 41, 16, 4, 644))],
   [(16, (.aload_n 0, 17, 0, 0)), (17, (.getfield 30, 20, 2, 642)), (20, (.aload_n 0, 21, 0, 0)), (21, (.getfield 30, 24, 2, 642)), (24, (.invokevirtual 415, 27, 0, 53)), (27, (.iconst 1, 28, 0, 3)), (28, (.isub, 29, 0, 0)), (29, (.invokevirtual 416, 32, 0, 59))],
   [(32, (.return_, 33, 0, 0))]])
noncomputable def p_Script_addAct : mRec := (5, 0, 5, 6, false, [],
  [[(0, (.aload_n 0, 1, 0, 0)), (1, (.getfield 17, 4, 2, 322)), (4, (.bipush 20, 6, 0, 0)), (6, (.if_icmp .ge 31, 9, 37, 0)), (9, (.aload_n 0, 10, 0, 0)), (10, (.aload_n 0, 11, 0, 0)), (11, (.getfield 13, 14, 1, 321)), (14, (.aload_n 0, 15, 0, 0)), (15, (.getfield 17, 18, 2, 322))],
   [(18, (.iadd, 19, 0, 0)), (19, (.iload_n 1, 20, 0, 0)), (20, (.iload_n 2, 21, 0, 0)), (21, (.iload_n 3, 22, 0, 0)), (22, (.iload 4, 24, 0, 0)), (24, (.invokevirtual 28, 27, 0, 40)), (27, (.aload_n 0, 28, 0, 0)), (28, (.dup, 29, 0, 0)), (29, (.getfield 17, 32, 2, 322))],
   [(32, (.iconst 1, 33, 0, 3)), (33, (.iadd, 34, 0, 0)), (34, (.putfield 17, 37, 2, 322)), (37, (.return_, 38, 0, 0))]])
noncomputable def p_V_draw : mRec := (3, 1, 3, 11, false, [],
  [[(0, (.aload_n 0, 1, 0, 0)), (1, (.iload_n 1, 2, 0, 0)), (2, (.iload_n 2, 3, 0, 0)), (3, (.iconst (-1), 4, 0, 1)), (4, (.invokevirtual 389, 7, 0, 231)), (7, (.ireturn, 8, 0, 0))]])
noncomputable def p_V_reverse : mRec := (3, 1, 2, 11, false, [],
  [[(0, (.aload_n 0, 1, 0, 0)), (1, (.getfield 41, 4, 4, 644)), (4, (.getfield 63, 7, 1, 129)), (7, (.astore_n 2, 8, 0, 0)), (8, (.aload_n 2, 9, 0, 0)), (9, (.iload_n 1, 10, 0, 0)), (10, (.invokevirtual 146, 13, 0, 80)), (13, (.ifCond .ne 6, 16, 19, 0))],
   [(16, (.bipush (-2), 18, 0, 32)), (18, (.ireturn, 19, 0, 0)), (19, (.aload_n 2, 20, 0, 0)), (20, (.iload_n 1, 21, 0, 0)), (21, (.invokevirtual 151, 24, 0, 97)), (24, (.ifCond .ne 11, 27, 35, 0)), (27, (.aload_n 2, 28, 0, 0)), (28, (.iload_n 1, 29, 0, 0)), (29, (.invokevirtual 392, 32, 0, 237))],
   [(32, (.ifCond .eq 6, 35, 38, 0)), (35, (.bipush (-5), 37, 0, 38)), (37, (.ireturn, 38, 0, 0)), (38, (.aload_n 0, 39, 0, 0)), (39, (.getfield 41, 42, 4, 644)), (42, (.invokevirtual 352, 45, 0, 69)), (45, (.ifCond .eq 13, 48, 58, 0))],
   [(48, (.aload_n 0, 49, 0, 0)), (49, (.getfield 30, 52, 2, 642)), (52, (.invokevirtual 395, 55, 0, 232)), (55, (.ifCond .eq 6, 58, 61, 0)), (58, (.bipush (-5), 60, 0, 38)), (60, (.ireturn, 61, 0, 0)), (61, (.aload_n 0, 62, 0, 0)), (62, (.bipush 7, 64, 0, 29))],
   [(64, (.aload_n 2, 65, 0, 0)), (65, (.iload_n 1, 66, 0, 0)), (66, (.invokevirtual 398, 69, 0, 238)), (69, (.iconst 0, 70, 0, 4)), (70, (.iconst 0, 71, 0, 4)), (71, (.invokevirtual 401, 74, 0, 233)), (74, (.aload_n 2, 75, 0, 0)), (75, (.invokevirtual 135, 78, 0, 93)), (78, (.iconst 1, 79, 0, 3)), (79, (.isub, 80, 0, 0))],
   [(80, (.ireturn, 81, 0, 0))]])
noncomputable def p_Entries_isTurnedBack : mRec := (3, 3, 2, 2, false, [2],
  [[(0, (.iconst 0, 1, 0, 4)), (1, (.istore_n 2, 2, 0, 0)), (2, (.iload_n 2, 3, 0, 0)), (3, (.aload_n 0, 4, 0, 0)), (4, (.getfield 31, 7, 6, 70)), (7, (.if_icmp .ge 31, 10, 38, 0)), (10, (.aload_n 0, 11, 0, 0)), (11, (.getfield 11, 14, 0, 64)), (14, (.iload_n 2, 15, 0, 0)), (15, (.iaload, 16, 0, 0))],
   [(16, (.iconst 3, 17, 0, 13)), (17, (.if_icmp .ne 15, 20, 32, 0)), (20, (.aload_n 0, 21, 0, 0)), (21, (.getfield 25, 24, 4, 68)), (24, (.iload_n 2, 25, 0, 0)), (25, (.iaload, 26, 0, 0)), (26, (.iload_n 1, 27, 0, 0)), (27, (.if_icmp .ne 5, 30, 32, 0)), (30, (.iconst 1, 31, 0, 3)), (31, (.ireturn, 32, 0, 0))],
   [(32, (.iinc 2 1, 35, 0, 3)), (35, (.goto (-33), 38, 2, 0)), (38, (.iconst 0, 39, 0, 4)), (39, (.ireturn, 40, 0, 0))]])
noncomputable def p_Entries_moneyAhead : mRec := (4, 1, 2, 2, false, [4],
  [[(0, (.iconst 0, 1, 0, 4)), (1, (.istore_n 2, 2, 0, 0)), (2, (.iconst 0, 3, 0, 4)), (3, (.istore_n 3, 4, 0, 0)), (4, (.iload_n 3, 5, 0, 0)), (5, (.aload_n 0, 6, 0, 0)), (6, (.getfield 31, 9, 6, 70)), (9, (.if_icmp .ge 26, 12, 35, 0)), (12, (.iload_n 3, 13, 0, 0)), (13, (.iload_n 1, 14, 0, 0)), (14, (.if_icmp .ge 21, 17, 35, 0))],
   [(17, (.aload_n 0, 18, 0, 0)), (18, (.getfield 11, 21, 0, 64)), (21, (.iload_n 3, 22, 0, 0)), (22, (.iaload, 23, 0, 0)), (23, (.ifCond .ne 6, 26, 29, 0)), (26, (.iinc 2 1, 29, 0, 3)), (29, (.iinc 3 1, 32, 0, 3))],
   [(32, (.goto (-28), 35, 4, 0)), (35, (.iload_n 2, 36, 0, 0)), (36, (.ireturn, 37, 0, 0))]])
noncomputable def p_V_change : mRec := (6, 1, 4, 11, false, [],
  [[(0, (.iload_n 2, 1, 0, 0)), (1, (.bipush 6, 3, 0, 26)), (3, (.if_icmp .ne 9, 6, 12, 0)), (6, (.ldc_w 300, 9, 0, 24)), (9, (.goto 6, 12, 15, 0)), (12, (.sipush 5000, 15, 0, 23)), (15, (.istore 4, 17, 0, 0))],
   [(17, (.aload_n 0, 18, 0, 0)), (18, (.getfield 41, 21, 4, 644)), (21, (.getfield 123, 24, 0, 128)), (24, (.iload_n 2, 25, 0, 0)), (25, (.invokevirtual 178, 28, 0, 105)), (28, (.ifCond .ne 13, 31, 41, 0)), (31, (.iload_n 2, 32, 0, 0))],
   [(32, (.iconst 4, 33, 0, 14)), (33, (.bipush 6, 35, 0, 26)), (35, (.invokestatic 301, 38, 0, 167)), (38, (.ifCond .eq 7, 41, 45, 0)), (41, (.iconst 1, 42, 0, 3)), (42, (.goto 4, 45, 46, 0)), (45, (.iconst 0, 46, 0, 4)), (46, (.istore 5, 48, 0, 0))],
   [(48, (.aload_n 0, 49, 0, 0)), (49, (.getfield 41, 52, 4, 644)), (52, (.iload_n 1, 53, 0, 0)), (53, (.invokevirtual 181, 56, 0, 106)), (56, (.ifCond .eq 18, 59, 74, 0)), (59, (.iload 5, 61, 0, 0)), (61, (.ifCond .eq 13, 64, 74, 0))],
   [(64, (.iload_n 3, 65, 0, 0)), (65, (.iconst 0, 66, 0, 4)), (66, (.iload 4, 68, 0, 0)), (68, (.invokestatic 301, 71, 0, 167)), (71, (.ifCond .ne 6, 74, 77, 0)), (74, (.bipush (-2), 76, 0, 32)), (76, (.ireturn, 77, 0, 0)), (77, (.aload_n 0, 78, 0, 0)), (78, (.getfield 30, 81, 2, 642))],
   [(81, (.invokevirtual 395, 84, 0, 232)), (84, (.ifCond .eq 6, 87, 90, 0)), (87, (.bipush (-5), 89, 0, 38)), (89, (.ireturn, 90, 0, 0)), (90, (.aload_n 0, 91, 0, 0)), (91, (.iconst 3, 92, 0, 13)), (92, (.iload_n 1, 93, 0, 0)), (93, (.iload_n 2, 94, 0, 0)), (94, (.iload_n 3, 95, 0, 0)), (95, (.invokevirtual 401, 98, 0, 233))],
   [(98, (.aload_n 0, 99, 0, 0)), (99, (.getfield 41, 102, 4, 644)), (102, (.getfield 123, 105, 0, 128)), (105, (.invokevirtual 132, 108, 0, 92)), (108, (.ireturn, 109, 0, 0))]])
noncomputable def p_V_close : mRec := (1, 1, 1, 11, false, [],
  [[(0, (.aload_n 0, 1, 0, 0)), (1, (.invokevirtual 171, 4, 0, 102)), (4, (.ifCond .eq 6, 7, 10, 0)), (7, (.bipush (-2), 9, 0, 32)), (9, (.ireturn, 10, 0, 0)), (10, (.aload_n 0, 11, 0, 0)), (11, (.getfield 41, 14, 4, 644)), (14, (.invokevirtual 352, 17, 0, 69))],
   [(17, (.ifCond .eq 13, 20, 30, 0)), (20, (.aload_n 0, 21, 0, 0)), (21, (.getfield 30, 24, 2, 642)), (24, (.invokevirtual 395, 27, 0, 232)), (27, (.ifCond .eq 6, 30, 33, 0)), (30, (.bipush (-5), 32, 0, 38))],
   [(32, (.ireturn, 33, 0, 0)), (33, (.aload_n 0, 34, 0, 0)), (34, (.iconst 5, 35, 0, 27)), (35, (.iconst 0, 36, 0, 4)), (36, (.iconst 0, 37, 0, 4)), (37, (.iconst 0, 38, 0, 4)), (38, (.invokevirtual 401, 41, 0, 233)), (41, (.aload_n 0, 42, 0, 0)), (42, (.getfield 41, 45, 4, 644)), (45, (.invokevirtual 140, 48, 0, 94))],
   [(48, (.iconst 1, 49, 0, 3)), (49, (.isub, 50, 0, 0)), (50, (.ireturn, 51, 0, 0))]])
noncomputable def p_V_rerun : mRec := (2, 1, 1, 11, false, [],
  [[(0, (.aload_n 0, 1, 0, 0)), (1, (.invokevirtual 171, 4, 0, 102)), (4, (.ifCond .eq 6, 7, 10, 0)), (7, (.bipush (-2), 9, 0, 32)), (9, (.ireturn, 10, 0, 0)), (10, (.aload_n 0, 11, 0, 0)), (11, (.getfield 41, 14, 4, 644)), (14, (.invokevirtual 352, 17, 0, 69))],
   [(17, (.ifCond .eq 13, 20, 30, 0)), (20, (.aload_n 0, 21, 0, 0)), (21, (.getfield 30, 24, 2, 642)), (24, (.invokevirtual 395, 27, 0, 232)), (27, (.ifCond .eq 6, 30, 33, 0)), (30, (.bipush (-5), 32, 0, 38))],
   [(32, (.ireturn, 33, 0, 0)), (33, (.aload_n 0, 34, 0, 0)), (34, (.getfield 41, 37, 4, 644)), (37, (.getfield 63, 40, 1, 129)), (40, (.invokevirtual 135, 43, 0, 93)), (43, (.istore_n 1, 44, 0, 0)), (44, (.aload_n 0, 45, 0, 0)), (45, (.bipush 6, 47, 0, 26)), (47, (.iconst 0, 48, 0, 4))],
   [(48, (.iconst 0, 49, 0, 4)), (49, (.iconst 0, 50, 0, 4)), (50, (.invokevirtual 401, 53, 0, 233)), (53, (.aload_n 0, 54, 0, 0)), (54, (.getfield 41, 57, 4, 644)), (57, (.getfield 63, 60, 1, 129)), (60, (.invokevirtual 135, 63, 0, 93)), (63, (.iload_n 1, 64, 0, 0))],
   [(64, (.isub, 65, 0, 0)), (65, (.ireturn, 66, 0, 0))]])
noncomputable def p_V_image : mRec := (3, 1, 2, 11, false, [],
  [[(0, (.aload_n 0, 1, 0, 0)), (1, (.iload_n 1, 2, 0, 0)), (2, (.invokevirtual 405, 5, 0, 243)), (5, (.astore_n 2, 6, 0, 0)), (6, (.aload_n 2, 7, 0, 0)), (7, (.ifnull 10, 10, 17, 0)), (10, (.aload_n 0, 11, 0, 0)), (11, (.invokevirtual 171, 14, 0, 102)), (14, (.ifCond .eq 6, 17, 20, 0))],
   [(17, (.bipush (-2), 19, 0, 32)), (19, (.ireturn, 20, 0, 0)), (20, (.aload_n 2, 21, 0, 0)), (21, (.aload_n 0, 22, 0, 0)), (22, (.getfield 30, 25, 2, 642)), (25, (.invokevirtual 99, 28, 0, 50)), (28, (.iconst 0, 29, 0, 4)), (29, (.ireturn, 30, 0, 0))]])
noncomputable def p_V_keptAs : mRec := (2, 6, 2, 11, false, [],
  [[(0, (.iload_n 1, 1, 0, 0)), (1, (.ifCond .lt 21, 4, 22, 0)), (4, (.iload_n 1, 5, 0, 0)), (5, (.aload_n 0, 6, 0, 0)), (6, (.getfield 34, 9, 3, 643)), (9, (.arraylength, 10, 0, 0)), (10, (.if_icmp .ge 12, 13, 22, 0)), (13, (.aload_n 0, 14, 0, 0)), (14, (.getfield 34, 17, 3, 643))],
   [(17, (.iload_n 1, 18, 0, 0)), (18, (.aaload, 19, 0, 0)), (19, (.goto 4, 22, 23, 0)), (22, (.aconst_null, 23, 0, 0)), (23, (.areturn, 24, 0, 0))]])
noncomputable def p_V_back : mRec := (3, 1, 2, 11, false, [],
  [[(0, (.aload_n 0, 1, 0, 0)), (1, (.iload_n 1, 2, 0, 0)), (2, (.invokevirtual 405, 5, 0, 243)), (5, (.astore_n 2, 6, 0, 0)), (6, (.aload_n 2, 7, 0, 0)), (7, (.ifnonnull 6, 10, 13, 0)), (10, (.bipush (-2), 12, 0, 32)), (12, (.ireturn, 13, 0, 0)), (13, (.aload_n 2, 14, 0, 0)), (14, (.invokevirtual 110, 17, 0, 19))],
   [(17, (.ifCond .ne 6, 20, 23, 0)), (20, (.bipush (-6), 22, 0, 39)), (22, (.ireturn, 23, 0, 0)), (23, (.aload_n 0, 24, 0, 0)), (24, (.getfield 30, 27, 2, 642)), (27, (.aload_n 2, 28, 0, 0)), (28, (.invokevirtual 99, 31, 0, 50)), (31, (.aload_n 0, 32, 0, 0))],
   [(32, (.getfield 41, 35, 4, 644)), (35, (.aload_n 0, 36, 0, 0)), (36, (.getfield 30, 39, 2, 642)), (39, (.aload_n 0, 40, 0, 0)), (40, (.getfield 30, 43, 2, 642)), (43, (.invokevirtual 103, 46, 0, 51)), (46, (.invokevirtual 106, 49, 0, 54))],
   [(49, (.iconst 0, 50, 0, 4)), (50, (.ireturn, 51, 0, 0))]])
noncomputable def p_V_undo : mRec := (1, 1, 1, 11, false, [],
  [[(0, (.aload_n 0, 1, 0, 0)), (1, (.invokevirtual 171, 4, 0, 102)), (4, (.ifCond .eq 6, 7, 10, 0)), (7, (.bipush (-2), 9, 0, 32)), (9, (.ireturn, 10, 0, 0)), (10, (.aload_n 0, 11, 0, 0)), (11, (.getfield 30, 14, 2, 642)), (14, (.invokevirtual 143, 17, 0, 95))],
   [(17, (.ifCond .ne 6, 20, 23, 0)), (20, (.bipush (-5), 22, 0, 38)), (22, (.ireturn, 23, 0, 0)), (23, (.aload_n 0, 24, 0, 0)), (24, (.getfield 30, 27, 2, 642)), (27, (.aload_n 0, 28, 0, 0)), (28, (.getfield 30, 31, 2, 642)), (31, (.invokevirtual 143, 34, 0, 95))],
   [(34, (.iconst 1, 35, 0, 3)), (35, (.isub, 36, 0, 0)), (36, (.invokevirtual 409, 39, 0, 246)), (39, (.aload_n 0, 40, 0, 0)), (40, (.getfield 41, 43, 4, 644)), (43, (.aload_n 0, 44, 0, 0)), (44, (.getfield 30, 47, 2, 642)), (47, (.aload_n 0, 48, 0, 0))],
   [(48, (.getfield 30, 51, 2, 642)), (51, (.invokevirtual 103, 54, 0, 51)), (54, (.invokevirtual 106, 57, 0, 54)), (57, (.aload_n 0, 58, 0, 0)), (58, (.getfield 30, 61, 2, 642)), (61, (.invokevirtual 143, 64, 0, 95))],
   [(64, (.ireturn, 65, 0, 0))]])
noncomputable def p_Script_keepActs : mRec := (2, 0, 2, 6, false, [],
  [[(0, (.iload_n 1, 1, 0, 0)), (1, (.ifCond .lt 16, 4, 17, 0)), (4, (.iload_n 1, 5, 0, 0)), (5, (.aload_n 0, 6, 0, 0)), (6, (.getfield 17, 9, 2, 322)), (9, (.if_icmp .ge 8, 12, 17, 0)), (12, (.aload_n 0, 13, 0, 0)), (13, (.iload_n 1, 14, 0, 0)), (14, (.putfield 17, 17, 2, 322))],
   [(17, (.return_, 18, 0, 0))]])
noncomputable def p_V_anew : mRec := (2, 1, 1, 11, false, [],
  [[(0, (.aload_n 0, 1, 0, 0)), (1, (.invokevirtual 171, 4, 0, 102)), (4, (.ifCond .eq 6, 7, 10, 0)), (7, (.bipush (-2), 9, 0, 32)), (9, (.ireturn, 10, 0, 0)), (10, (.aload_n 0, 11, 0, 0)), (11, (.getfield 30, 14, 2, 642)), (14, (.invokevirtual 143, 17, 0, 95))],
   [(17, (.istore_n 1, 18, 0, 0)), (18, (.aload_n 0, 19, 0, 0)), (19, (.getfield 30, 22, 2, 642)), (22, (.iconst 0, 23, 0, 4)), (23, (.invokevirtual 409, 26, 0, 246)), (26, (.aload_n 0, 27, 0, 0)), (27, (.getfield 41, 30, 4, 644)), (30, (.aload_n 0, 31, 0, 0)), (31, (.getfield 30, 34, 2, 642))],
   [(34, (.aload_n 0, 35, 0, 0)), (35, (.getfield 30, 38, 2, 642)), (38, (.invokevirtual 103, 41, 0, 51)), (41, (.invokevirtual 106, 44, 0, 54)), (44, (.iload_n 1, 45, 0, 0)), (45, (.ireturn, 46, 0, 0))]])
noncomputable def p_M_feed : mRec := (7, 1, 6, 12, false, [55],
  [[(0, (.aload_n 0, 1, 0, 0)), (1, (.getfield 197, 4, 26, 730)), (4, (.bipush 20, 6, 0, 0)), (6, (.iadd, 7, 0, 0)), (7, (.sipush 900, 10, 0, 2)), (10, (.if_icmp .le 5, 13, 15, 0)), (13, (.iconst (-1), 14, 0, 1)), (14, (.ireturn, 15, 0, 0)), (15, (.aload_n 0, 16, 0, 0))],
   [(16, (.getfield 73, 19, 27, 731)), (19, (.iconst 0, 20, 0, 4)), (20, (.iload_n 1, 21, 0, 0)), (21, (.iastore, 22, 0, 0)), (22, (.aload_n 0, 23, 0, 0)), (23, (.getfield 73, 26, 27, 731)), (26, (.iconst 1, 27, 0, 3)), (27, (.iload_n 2, 28, 0, 0)), (28, (.iastore, 29, 0, 0)), (29, (.aload_n 0, 30, 0, 0)), (30, (.getfield 73, 33, 27, 731))],
   [(33, (.iconst 2, 34, 0, 8)), (34, (.iload_n 3, 35, 0, 0)), (35, (.iastore, 36, 0, 0)), (36, (.aload_n 0, 37, 0, 0)), (37, (.getfield 73, 40, 27, 731)), (40, (.iconst 3, 41, 0, 13)), (41, (.iload 4, 43, 0, 0)), (43, (.iastore, 44, 0, 0)), (44, (.aload_n 0, 45, 0, 0)), (45, (.getfield 73, 48, 27, 731))],
   [(48, (.iconst 4, 49, 0, 14)), (49, (.iload 5, 51, 0, 0)), (51, (.iastore, 52, 0, 0)), (52, (.iconst 0, 53, 0, 4)), (53, (.istore 6, 55, 0, 0)), (55, (.iload 6, 57, 0, 0)), (57, (.bipush 20, 59, 0, 0)), (59, (.if_icmp .ge 42, 62, 101, 0)), (62, (.aload_n 0, 63, 0, 0)), (63, (.getfield 69, 66, 25, 729))],
   [(66, (.aload_n 0, 67, 0, 0)), (67, (.getfield 197, 70, 26, 730)), (70, (.iload 6, 72, 0, 0)), (72, (.iadd, 73, 0, 0)), (73, (.aload_n 0, 74, 0, 0)), (74, (.getfield 73, 77, 27, 731)), (77, (.iload 6, 79, 0, 0)), (79, (.iconst 4, 80, 0, 14))],
   [(80, (.idiv, 81, 0, 0)), (81, (.iaload, 82, 0, 0)), (82, (.bipush 24, 84, 0, 5)), (84, (.bipush 8, 86, 0, 21)), (86, (.iload 6, 88, 0, 0)), (88, (.iconst 4, 89, 0, 14)), (89, (.irem, 90, 0, 0)), (90, (.imul, 91, 0, 0)), (91, (.isub, 92, 0, 0)), (92, (.ishr, 93, 0, 0)), (93, (.i2b, 94, 0, 0)), (94, (.bastore, 95, 0, 0)), (95, (.iinc 6 1, 98, 0, 3))],
   [(98, (.goto (-43), 101, 55, 0)), (101, (.aload_n 0, 102, 0, 0)), (102, (.dup, 103, 0, 0)), (103, (.getfield 197, 106, 26, 730)), (106, (.bipush 20, 108, 0, 0)), (108, (.iadd, 109, 0, 0)), (109, (.putfield 197, 112, 26, 730))],
   [(112, (.aload_n 0, 113, 0, 0)), (113, (.getfield 197, 116, 26, 730)), (116, (.ireturn, 117, 0, 0))]])
noncomputable def p_M_end : mRec := (2, 1, 2, 12, false, [],
  [[(0, (.iload_n 1, 1, 0, 0)), (1, (.i2l, 2, 0, 0)), (2, (.lconst 0, 3, 0, 0)), (3, (.aload_n 0, 4, 0, 0)), (4, (.getfield 197, 7, 26, 730)), (7, (.i2l, 8, 0, 0)), (8, (.invokestatic 101, 11, 0, 250)), (11, (.ifCond .ne 5, 14, 16, 0)), (14, (.iconst (-1), 15, 0, 1)), (15, (.ireturn, 16, 0, 0))],
   [(16, (.aload_n 0, 17, 0, 0)), (17, (.iload_n 1, 18, 0, 0)), (18, (.putfield 197, 21, 26, 730)), (21, (.iload_n 1, 22, 0, 0)), (22, (.ireturn, 23, 0, 0))]])
noncomputable def p_M_in : mRec := (6, 3, 3, 0, false, [],
  [[(0, (.lload_n 0, 1, 0, 0)), (1, (.lload_n 2, 2, 0, 0)), (2, (.lcmp, 6, 17, 2)), (3, (.ifCond .lt 14, 6, 17, 0)), (6, (.lload_n 0, 7, 0, 0)), (7, (.lload 4, 9, 0, 0)), (9, (.lcmp, 13, 17, 4)), (10, (.ifCond .gt 7, 13, 17, 0)), (13, (.iconst 1, 14, 0, 3)), (14, (.goto 4, 17, 18, 0))],
   [(17, (.iconst 0, 18, 0, 4)), (18, (.ireturn, 19, 0, 0))]])
noncomputable def p_M_fault : mRec := (2, 1, 2, 12, false, [],
  [[(0, (.iload_n 1, 1, 0, 0)), (1, (.ifCond .ne 10, 4, 11, 0)), (4, (.aload_n 0, 5, 0, 0)), (5, (.getfield 227, 8, 33, 737)), (8, (.goto 16, 11, 24, 0)), (11, (.iload_n 1, 12, 0, 0)), (12, (.iconst 1, 13, 0, 3)), (13, (.if_icmp .ne 10, 16, 23, 0))],
   [(16, (.aload_n 0, 17, 0, 0)), (17, (.getfield 76, 20, 34, 738)), (20, (.goto 4, 23, 24, 0)), (23, (.iconst (-1), 24, 0, 1)), (24, (.ireturn, 25, 0, 0))]])
noncomputable def p_M_book : mRec := (2, 1, 1, 12, false, [44, 72],
  [[(0, (.aload_n 0, 1, 0, 0)), (1, (.aload_n 0, 2, 0, 0)), (2, (.getfield 197, 5, 26, 730)), (5, (.putfield 200, 8, 28, 732)), (8, (.aload_n 0, 9, 0, 0)), (9, (.iconst 0, 10, 0, 4)), (10, (.putfield 197, 13, 26, 730)), (13, (.aload_n 0, 14, 0, 0)), (14, (.iconst 0, 15, 0, 4)), (15, (.putfield 203, 18, 29, 733))],
   [(18, (.aload_n 0, 19, 0, 0)), (19, (.iconst 0, 20, 0, 4)), (20, (.putfield 227, 23, 33, 737)), (23, (.aload_n 0, 24, 0, 0)), (24, (.iconst (-1), 25, 0, 1)), (25, (.putfield 76, 28, 34, 738)), (28, (.aload_n 0, 29, 0, 0)), (29, (.iconst 0, 30, 0, 4)), (30, (.putfield 285, 33, 35, 739))],
   [(33, (.aload_n 0, 34, 0, 0)), (34, (.iconst 0, 35, 0, 4)), (35, (.putfield 291, 38, 36, 740)), (38, (.aload_n 0, 39, 0, 0)), (39, (.invokevirtual 327, 42, 0, 253)), (42, (.iconst 0, 43, 0, 4)), (43, (.istore_n 1, 44, 0, 0)), (44, (.iload_n 1, 45, 0, 0)), (45, (.sipush 606, 48, 0, 40))],
   [(48, (.if_icmp .ge 16, 51, 64, 0)), (51, (.aload_n 0, 52, 0, 0)), (52, (.getfield 11, 55, 1, 705)), (55, (.iload_n 1, 56, 0, 0)), (56, (.iconst 0, 57, 0, 4)), (57, (.iastore, 58, 0, 0)), (58, (.iinc 1 1, 61, 0, 3)), (61, (.goto (-17), 64, 44, 0))],
   [(64, (.aload_n 0, 65, 0, 0)), (65, (.invokevirtual 191, 68, 0, 254)), (68, (.aload_n 0, 69, 0, 0)), (69, (.invokevirtual 247, 72, 0, 255)), (72, (.aload_n 0, 73, 0, 0)), (73, (.invokevirtual 230, 76, 0, 257)), (76, (.ifCond .eq 17, 79, 93, 0)), (79, (.aload_n 0, 80, 0, 0))],
   [(80, (.getfield 212, 83, 31, 735)), (83, (.ifCond .eq 10, 86, 93, 0)), (86, (.aload_n 0, 87, 0, 0)), (87, (.invokevirtual 330, 90, 0, 258)), (90, (.goto (-18), 93, 72, 0)), (93, (.aload_n 0, 94, 0, 0)), (94, (.invokevirtual 230, 97, 0, 257))],
   [(97, (.ifCond .ne 14, 100, 111, 0)), (100, (.aload_n 0, 101, 0, 0)), (101, (.invokevirtual 327, 104, 0, 253)), (104, (.aload_n 0, 105, 0, 0)), (105, (.invokevirtual 333, 108, 0, 291)), (108, (.bipush (-4), 110, 0, 7)), (110, (.ireturn, 111, 0, 0)), (111, (.aload_n 0, 112, 0, 0))],
   [(112, (.getfield 11, 115, 1, 705)), (115, (.iconst 4, 116, 0, 14)), (116, (.aload_n 0, 117, 0, 0)), (117, (.getfield 11, 120, 1, 705)), (120, (.iconst 5, 121, 0, 27)), (121, (.iaload, 122, 0, 0)), (122, (.iastore, 123, 0, 0)), (123, (.aload_n 0, 124, 0, 0)), (124, (.getfield 11, 127, 1, 705)), (127, (.iconst 3, 128, 0, 13))],
   [(128, (.iaload, 129, 0, 0)), (129, (.ireturn, 130, 0, 0))]])
noncomputable def p_M_swaps : mRec := (2, 0, 1, 12, false, [],
  [[(0, (.aload_n 0, 1, 0, 0)), (1, (.getfield 11, 4, 1, 705)), (4, (.astore_n 1, 5, 0, 0)), (5, (.aload_n 0, 6, 0, 0)), (6, (.aload_n 0, 7, 0, 0)), (7, (.getfield 15, 10, 2, 706)), (10, (.putfield 11, 13, 1, 705)), (13, (.aload_n 0, 14, 0, 0)), (14, (.aload_n 1, 15, 0, 0)), (15, (.putfield 15, 18, 2, 706))],
   [(18, (.return_, 19, 0, 0))]])
noncomputable def p_M_begins : mRec := (2, 0, 1, 12, false, [12],
  [[(0, (.aload_n 0, 1, 0, 0)), (1, (.iconst 0, 2, 0, 4)), (2, (.putfield 105, 5, 7, 711)), (5, (.aload_n 0, 6, 0, 0)), (6, (.iconst 0, 7, 0, 4)), (7, (.putfield 175, 10, 9, 713)), (10, (.iconst 0, 11, 0, 4)), (11, (.istore_n 1, 12, 0, 0)), (12, (.iload_n 1, 13, 0, 0)), (13, (.iconst 3, 14, 0, 13)), (14, (.if_icmp .ge 16, 17, 30, 0))],
   [(17, (.aload_n 0, 18, 0, 0)), (18, (.getfield 31, 21, 8, 712)), (21, (.iload_n 1, 22, 0, 0)), (22, (.iconst 0, 23, 0, 4)), (23, (.iastore, 24, 0, 0)), (24, (.iinc 1 1, 27, 0, 3)), (27, (.goto (-15), 30, 12, 0)), (30, (.aload_n 0, 31, 0, 0)), (31, (.iconst 0, 32, 0, 4))],
   [(32, (.putfield 114, 35, 13, 717)), (35, (.aload_n 0, 36, 0, 0)), (36, (.iconst 0, 37, 0, 4)), (37, (.putfield 108, 40, 19, 723)), (40, (.aload_n 0, 41, 0, 0)), (41, (.iconst 0, 42, 0, 4)), (42, (.putfield 111, 45, 20, 724)), (45, (.return_, 46, 0, 0))]])
noncomputable def p_M_advance : mRec := (2, 0, 1, 12, false, [0, 83, 144],
  [[(0, (.aload_n 0, 1, 0, 0)), (1, (.aload_n 0, 2, 0, 0)), (2, (.getfield 203, 5, 29, 733)), (5, (.invokevirtual 206, 8, 0, 256)), (8, (.bipush 32, 10, 0, 16)), (10, (.if_icmp .eq 16, 13, 26, 0)), (13, (.aload_n 0, 14, 0, 0)), (14, (.aload_n 0, 15, 0, 0)), (15, (.getfield 203, 18, 29, 733))],
   [(18, (.invokevirtual 206, 21, 0, 256)), (21, (.bipush 10, 23, 0, 11)), (23, (.if_icmp .ne 16, 26, 39, 0)), (26, (.aload_n 0, 27, 0, 0)), (27, (.dup, 28, 0, 0)), (28, (.getfield 203, 31, 29, 733)), (31, (.iconst 1, 32, 0, 3))],
   [(32, (.iadd, 33, 0, 0)), (33, (.putfield 203, 36, 29, 733)), (36, (.goto (-36), 39, 0, 0)), (39, (.aload_n 0, 40, 0, 0)), (40, (.aload_n 0, 41, 0, 0)), (41, (.getfield 203, 44, 29, 733)), (44, (.putfield 209, 47, 30, 734)), (47, (.aload_n 0, 48, 0, 0))],
   [(48, (.aload_n 0, 49, 0, 0)), (49, (.getfield 203, 52, 29, 733)), (52, (.invokevirtual 206, 55, 0, 256)), (55, (.istore_n 1, 56, 0, 0)), (56, (.iload_n 1, 57, 0, 0)), (57, (.iconst (-1), 58, 0, 1)), (58, (.if_icmp .ne 11, 61, 69, 0)), (61, (.aload_n 0, 62, 0, 0)), (62, (.iconst 0, 63, 0, 4)), (63, (.putfield 212, 66, 31, 735))],
   [(66, (.goto 173, 69, 239, 0)), (69, (.iload_n 1, 70, 0, 0)), (70, (.i2l, 71, 0, 0)), (71, (.ldc2_w 215, 74, 0, 6)), (74, (.ldc2_w 217, 77, 0, 7)), (77, (.invokestatic 101, 80, 0, 250))],
   [(80, (.ifCond .eq 45, 83, 125, 0)), (83, (.aload_n 0, 84, 0, 0)), (84, (.aload_n 0, 85, 0, 0)), (85, (.getfield 203, 88, 29, 733)), (88, (.invokevirtual 206, 91, 0, 256)), (91, (.i2l, 92, 0, 0)), (92, (.ldc2_w 215, 95, 0, 6)), (95, (.ldc2_w 217, 98, 0, 7))],
   [(98, (.invokestatic 101, 101, 0, 250)), (101, (.ifCond .eq 16, 104, 117, 0)), (104, (.aload_n 0, 105, 0, 0)), (105, (.dup, 106, 0, 0)), (106, (.getfield 203, 109, 29, 733)), (109, (.iconst 1, 110, 0, 3)), (110, (.iadd, 111, 0, 0)), (111, (.putfield 203, 114, 29, 733))],
   [(114, (.goto (-31), 117, 83, 0)), (117, (.aload_n 0, 118, 0, 0)), (118, (.iconst 1, 119, 0, 3)), (119, (.putfield 212, 122, 31, 735)), (122, (.goto 117, 125, 239, 0)), (125, (.iload_n 1, 126, 0, 0)), (126, (.i2l, 127, 0, 0)), (127, (.ldc2_w 219, 130, 0, 8))],
   [(130, (.ldc2_w 221, 133, 0, 9)), (133, (.invokestatic 101, 136, 0, 250)), (136, (.ifCond .eq 78, 139, 214, 0)), (139, (.aload_n 0, 140, 0, 0)), (140, (.iconst 0, 141, 0, 4)), (141, (.putfield 223, 144, 32, 736))],
   [(144, (.aload_n 0, 145, 0, 0)), (145, (.aload_n 0, 146, 0, 0)), (146, (.getfield 203, 149, 29, 733)), (149, (.invokevirtual 206, 152, 0, 256)), (152, (.i2l, 153, 0, 0)), (153, (.ldc2_w 219, 156, 0, 8)), (156, (.ldc2_w 221, 159, 0, 9)), (159, (.invokestatic 101, 162, 0, 250))],
   [(162, (.ifCond .eq 44, 165, 206, 0)), (165, (.aload_n 0, 166, 0, 0)), (166, (.ldc 226, 168, 0, 41)), (168, (.bipush 10, 170, 0, 11)), (170, (.aload_n 0, 171, 0, 0)), (171, (.getfield 223, 174, 32, 736)), (174, (.imul, 175, 0, 0)), (175, (.aload_n 0, 176, 0, 0))],
   [(176, (.aload_n 0, 177, 0, 0)), (177, (.getfield 203, 180, 29, 733)), (180, (.invokevirtual 206, 183, 0, 256)), (183, (.iadd, 184, 0, 0)), (184, (.bipush 48, 186, 0, 9)), (186, (.isub, 187, 0, 0)), (187, (.invokestatic 124, 190, 0, 9003)), (190, (.putfield 223, 193, 32, 736))],
   [(193, (.aload_n 0, 194, 0, 0)), (194, (.dup, 195, 0, 0)), (195, (.getfield 203, 198, 29, 733)), (198, (.iconst 1, 199, 0, 3)), (199, (.iadd, 200, 0, 0)), (200, (.putfield 203, 203, 29, 733)), (203, (.goto (-59), 206, 144, 0)), (206, (.aload_n 0, 207, 0, 0)), (207, (.iconst 2, 208, 0, 8))],
   [(208, (.putfield 212, 211, 31, 735)), (211, (.goto 28, 214, 239, 0)), (214, (.aload_n 0, 215, 0, 0)), (215, (.iload_n 1, 216, 0, 0)), (216, (.bipush 59, 218, 0, 12)), (218, (.if_icmp .ne 7, 221, 225, 0)), (221, (.iconst 3, 222, 0, 13)), (222, (.goto 4, 225, 226, 0))],
   [(225, (.iconst 4, 226, 0, 14)), (226, (.putfield 212, 229, 31, 735)), (229, (.aload_n 0, 230, 0, 0)), (230, (.dup, 231, 0, 0)), (231, (.getfield 203, 234, 29, 733)), (234, (.iconst 1, 235, 0, 3)), (235, (.iadd, 236, 0, 0)), (236, (.putfield 203, 239, 29, 733)), (239, (.return_, 240, 0, 0))]])
noncomputable def p_M_see : mRec := (2, 1, 2, 12, false, [],
  [[(0, (.iload_n 1, 1, 0, 0)), (1, (.aload_n 0, 2, 0, 0)), (2, (.getfield 200, 5, 28, 732)), (5, (.if_icmp .ge 16, 8, 21, 0)), (8, (.aload_n 0, 9, 0, 0)), (9, (.getfield 69, 12, 25, 729)), (12, (.iload_n 1, 13, 0, 0)), (13, (.baload, 14, 0, 0)), (14, (.sipush 255, 17, 0, 15))],
   [(17, (.iand, 18, 0, 0)), (18, (.goto 4, 21, 22, 0)), (21, (.iconst (-1), 22, 0, 1)), (22, (.ireturn, 23, 0, 0))]])
noncomputable def p_M_good : mRec := (1, 3, 1, 12, false, [],
  [[(0, (.aload_n 0, 1, 0, 0)), (1, (.getfield 227, 4, 33, 737)), (4, (.ifCond .ne 7, 7, 11, 0)), (7, (.iconst 1, 8, 0, 3)), (8, (.goto 4, 11, 12, 0)), (11, (.iconst 0, 12, 0, 4)), (12, (.ireturn, 13, 0, 0))]])
noncomputable def p_M_readText : mRec := (2, 0, 1, 12, false, [],
  [[(0, (.aload_n 0, 1, 0, 0)), (1, (.getfield 11, 4, 1, 705)), (4, (.iconst 5, 5, 0, 27)), (5, (.iaload, 6, 0, 0)), (6, (.istore_n 1, 7, 0, 0)), (7, (.aload_n 0, 8, 0, 0)), (8, (.getfield 11, 11, 1, 705)), (11, (.iconst 3, 12, 0, 13)), (12, (.iaload, 13, 0, 0)), (13, (.ifCond .ne 10, 16, 23, 0))],
   [(16, (.aload_n 0, 17, 0, 0)), (17, (.invokevirtual 321, 20, 0, 259)), (20, (.goto 7, 23, 27, 0)), (23, (.aload_n 0, 24, 0, 0)), (24, (.invokevirtual 324, 27, 0, 265)), (27, (.aload_n 0, 28, 0, 0)), (28, (.invokevirtual 230, 31, 0, 257)), (31, (.ifCond .eq 16, 34, 47, 0))],
   [(34, (.aload_n 0, 35, 0, 0)), (35, (.getfield 212, 38, 31, 735)), (38, (.iconst 3, 39, 0, 13)), (39, (.if_icmp .eq 8, 42, 47, 0)), (42, (.aload_n 0, 43, 0, 0)), (43, (.iconst 1, 44, 0, 3)), (44, (.invokevirtual 250, 47, 0, 262)), (47, (.aload_n 0, 48, 0, 0))],
   [(48, (.invokevirtual 230, 51, 0, 257)), (51, (.ifCond .ne 4, 54, 55, 0)), (54, (.return_, 55, 0, 0)), (55, (.aload_n 0, 56, 0, 0)), (56, (.invokevirtual 247, 59, 0, 255)), (59, (.aload_n 0, 60, 0, 0)), (60, (.getfield 11, 63, 1, 705)), (63, (.iconst 5, 64, 0, 27))],
   [(64, (.iaload, 65, 0, 0)), (65, (.iload_n 1, 66, 0, 0)), (66, (.if_icmp .le 9, 69, 75, 0)), (69, (.aload_n 0, 70, 0, 0)), (70, (.iload_n 1, 71, 0, 0)), (71, (.invokevirtual 194, 74, 0, 275)), (74, (.pop, 75, 0, 0)), (75, (.aload_n 0, 76, 0, 0)), (76, (.getfield 11, 79, 1, 705)), (79, (.iconst 3, 80, 0, 13))],
   [(80, (.dup2, 81, 0, 0)), (81, (.iaload, 82, 0, 0)), (82, (.iconst 1, 83, 0, 3)), (83, (.iadd, 84, 0, 0)), (84, (.iastore, 85, 0, 0)), (85, (.return_, 86, 0, 0))]])
noncomputable def p_M_readFirst : mRec := (1, 0, 1, 12, false, [],
  [[(0, (.aload_n 0, 1, 0, 0)), (1, (.ldc_w 260, 4, 0, 1000)), (4, (.invokevirtual 254, 7, 0, 260)), (7, (.ifCond .ne 8, 10, 15, 0)), (10, (.aload_n 0, 11, 0, 0)), (11, (.iconst 1, 12, 0, 3)), (12, (.invokevirtual 250, 15, 0, 262)), (15, (.aload_n 0, 16, 0, 0))],
   [(16, (.getfield 11, 19, 1, 705)), (19, (.iconst 0, 20, 0, 4)), (20, (.aload_n 0, 21, 0, 0)), (21, (.ldc_w 262, 24, 0, 1001)), (24, (.iconst 2, 25, 0, 8)), (25, (.bipush 40, 27, 0, 20)), (27, (.invokevirtual 263, 30, 0, 263)), (30, (.iastore, 31, 0, 0)), (31, (.aload_n 0, 32, 0, 0))],
   [(32, (.getfield 11, 35, 1, 705)), (35, (.iconst 1, 36, 0, 3)), (36, (.aload_n 0, 37, 0, 0)), (37, (.ldc_w 267, 40, 0, 1002)), (40, (.iconst 1, 41, 0, 3)), (41, (.bipush 8, 43, 0, 21)), (43, (.invokevirtual 263, 46, 0, 263)), (46, (.iastore, 47, 0, 0)), (47, (.aload_n 0, 48, 0, 0))],
   [(48, (.getfield 11, 51, 1, 705)), (51, (.iconst 2, 52, 0, 8)), (52, (.aload_n 0, 53, 0, 0)), (53, (.ldc_w 269, 56, 0, 1003)), (56, (.iconst 1, 57, 0, 3)), (57, (.iconst 4, 58, 0, 14)), (58, (.invokevirtual 263, 61, 0, 263)), (61, (.iastore, 62, 0, 0)), (62, (.return_, 63, 0, 0))]])
noncomputable def p_M_passes : mRec := (3, 3, 2, 12, false, [],
  [[(0, (.aload_n 0, 1, 0, 0)), (1, (.aload_n 1, 2, 0, 0)), (2, (.invokevirtual 243, 5, 0, 261)), (5, (.istore_n 2, 6, 0, 0)), (6, (.iload_n 2, 7, 0, 0)), (7, (.ifCond .eq 7, 10, 14, 0)), (10, (.aload_n 0, 11, 0, 0)), (11, (.invokevirtual 247, 14, 0, 255)), (14, (.iload_n 2, 15, 0, 0)), (15, (.ireturn, 16, 0, 0))]])
noncomputable def p_M_is : mRec := (4, 3, 2, 12, false, [39],
  [[(0, (.aload_n 0, 1, 0, 0)), (1, (.invokevirtual 230, 4, 0, 257)), (4, (.ifCond .eq 31, 7, 35, 0)), (7, (.aload_n 0, 8, 0, 0)), (8, (.getfield 212, 11, 31, 735)), (11, (.iconst 1, 12, 0, 3)), (12, (.if_icmp .ne 23, 15, 35, 0)), (15, (.aload_n 0, 16, 0, 0))],
   [(16, (.getfield 203, 19, 29, 733)), (19, (.aload_n 0, 20, 0, 0)), (20, (.getfield 209, 23, 30, 734)), (23, (.isub, 24, 0, 0)), (24, (.aload_n 1, 25, 0, 0)), (25, (.invokevirtual 234, 28, 0, 23)), (28, (.if_icmp .ne 7, 31, 35, 0)), (31, (.iconst 1, 32, 0, 3))],
   [(32, (.goto 4, 35, 36, 0)), (35, (.iconst 0, 36, 0, 4)), (36, (.istore_n 2, 37, 0, 0)), (37, (.iconst 0, 38, 0, 4)), (38, (.istore_n 3, 39, 0, 0)), (39, (.iload_n 3, 40, 0, 0)), (40, (.aload_n 1, 41, 0, 0)), (41, (.invokevirtual 234, 44, 0, 23)), (44, (.if_icmp .ge 38, 47, 82, 0)), (47, (.iload_n 2, 48, 0, 0))],
   [(48, (.ifCond .eq 34, 51, 82, 0)), (51, (.aload_n 0, 52, 0, 0)), (52, (.getfield 69, 55, 25, 729)), (55, (.aload_n 0, 56, 0, 0)), (56, (.getfield 209, 59, 30, 734)), (59, (.iload_n 3, 60, 0, 0)), (60, (.iadd, 61, 0, 0)), (61, (.baload, 62, 0, 0)), (62, (.aload_n 1, 63, 0, 0)), (63, (.iload_n 3, 64, 0, 0))],
   [(64, (.invokevirtual 239, 67, 0, 25)), (67, (.if_icmp .ne 7, 70, 74, 0)), (70, (.iconst 1, 71, 0, 3)), (71, (.goto 4, 74, 75, 0)), (74, (.iconst 0, 75, 0, 4)), (75, (.istore_n 2, 76, 0, 0)), (76, (.iinc 3 1, 79, 0, 3)), (79, (.goto (-40), 82, 39, 0))],
   [(82, (.iload_n 2, 83, 0, 0)), (83, (.ireturn, 84, 0, 0))]])
noncomputable def p_M_errs : mRec := (2, 0, 2, 12, false, [],
  [[(0, (.aload_n 0, 1, 0, 0)), (1, (.invokevirtual 230, 4, 0, 257)), (4, (.ifCond .ne 4, 7, 8, 0)), (7, (.return_, 8, 0, 0)), (8, (.aload_n 0, 9, 0, 0)), (9, (.iload_n 1, 10, 0, 0)), (10, (.putfield 227, 13, 33, 737)), (13, (.aload_n 0, 14, 0, 0)), (14, (.aload_n 0, 15, 0, 0)), (15, (.getfield 209, 18, 30, 734))],
   [(18, (.putfield 76, 21, 34, 738)), (21, (.return_, 22, 0, 0))]])
noncomputable def p_M_told : mRec := (4, 1, 4, 12, false, [],
  [[(0, (.aload_n 0, 1, 0, 0)), (1, (.aload_n 1, 2, 0, 0)), (2, (.invokevirtual 254, 5, 0, 260)), (5, (.ifCond .ne 8, 8, 13, 0)), (8, (.aload_n 0, 9, 0, 0)), (9, (.iconst 1, 10, 0, 3)), (10, (.invokevirtual 250, 13, 0, 262)), (13, (.aload_n 0, 14, 0, 0)), (14, (.iload_n 2, 15, 0, 0)), (15, (.iload_n 3, 16, 0, 0))],
   [(16, (.invokevirtual 257, 19, 0, 264)), (19, (.ireturn, 20, 0, 0))]])
noncomputable def p_M_takes : mRec := (4, 1, 3, 12, false, [],
  [[(0, (.aload_n 0, 1, 0, 0)), (1, (.invokevirtual 230, 4, 0, 257)), (4, (.ifCond .eq 16, 7, 20, 0)), (7, (.aload_n 0, 8, 0, 0)), (8, (.getfield 212, 11, 31, 735)), (11, (.iconst 2, 12, 0, 8)), (12, (.if_icmp .eq 8, 15, 20, 0)), (15, (.aload_n 0, 16, 0, 0))],
   [(16, (.iconst 1, 17, 0, 3)), (17, (.invokevirtual 250, 20, 0, 262)), (20, (.aload_n 0, 21, 0, 0)), (21, (.invokevirtual 230, 24, 0, 257)), (24, (.ifCond .eq 23, 27, 47, 0)), (27, (.aload_n 0, 28, 0, 0)), (28, (.getfield 223, 31, 32, 736)), (31, (.i2l, 32, 0, 0))],
   [(32, (.iload_n 1, 33, 0, 0)), (33, (.i2l, 34, 0, 0)), (34, (.iload_n 2, 35, 0, 0)), (35, (.i2l, 36, 0, 0)), (36, (.invokestatic 101, 39, 0, 250)), (39, (.ifCond .ne 8, 42, 47, 0)), (42, (.aload_n 0, 43, 0, 0)), (43, (.iconst 2, 44, 0, 8)), (44, (.invokevirtual 250, 47, 0, 262)), (47, (.aload_n 0, 48, 0, 0))],
   [(48, (.invokevirtual 230, 51, 0, 257)), (51, (.ifCond .ne 5, 54, 56, 0)), (54, (.iconst 0, 55, 0, 4)), (55, (.ireturn, 56, 0, 0)), (56, (.aload_n 0, 57, 0, 0)), (57, (.getfield 223, 60, 32, 736)), (60, (.istore_n 3, 61, 0, 0)), (61, (.aload_n 0, 62, 0, 0)), (62, (.invokevirtual 247, 65, 0, 255))],
   [(65, (.iload_n 3, 66, 0, 0)), (66, (.ireturn, 67, 0, 0))]])
noncomputable def p_M_readLine : mRec := (1, 0, 1, 12, false, [],
  [[(0, (.aload_n 0, 1, 0, 0)), (1, (.ldc_w 282, 4, 0, 1004)), (4, (.invokevirtual 243, 7, 0, 261)), (7, (.ifCond .eq 10, 10, 17, 0)), (10, (.aload_n 0, 11, 0, 0)), (11, (.invokevirtual 294, 14, 0, 266)), (14, (.goto 112, 17, 126, 0))],
   [(17, (.aload_n 0, 18, 0, 0)), (18, (.ldc_w 284, 21, 0, 1006)), (21, (.invokevirtual 243, 24, 0, 261)), (24, (.ifCond .eq 10, 27, 34, 0)), (27, (.aload_n 0, 28, 0, 0)), (28, (.invokevirtual 297, 31, 0, 268)), (31, (.goto 95, 34, 126, 0))],
   [(34, (.aload_n 0, 35, 0, 0)), (35, (.ldc_w 300, 38, 0, 1009)), (38, (.invokevirtual 243, 41, 0, 261)), (41, (.ifCond .eq 10, 44, 51, 0)), (44, (.aload_n 0, 45, 0, 0)), (45, (.invokevirtual 301, 48, 0, 269))],
   [(48, (.goto 78, 51, 126, 0)), (51, (.aload_n 0, 52, 0, 0)), (52, (.ldc_w 304, 55, 0, 1010)), (55, (.invokevirtual 243, 58, 0, 261)), (58, (.ifCond .eq 11, 61, 69, 0)), (61, (.aload_n 0, 62, 0, 0)), (62, (.iconst 1, 63, 0, 3)), (63, (.invokevirtual 306, 66, 0, 271))],
   [(66, (.goto 60, 69, 126, 0)), (69, (.aload_n 0, 70, 0, 0)), (70, (.ldc_w 309, 73, 0, 1011)), (73, (.invokevirtual 243, 76, 0, 261)), (76, (.ifCond .eq 11, 79, 87, 0)), (79, (.aload_n 0, 80, 0, 0))],
   [(80, (.iconst (-1), 81, 0, 1)), (81, (.invokevirtual 306, 84, 0, 271)), (84, (.goto 42, 87, 126, 0)), (87, (.aload_n 0, 88, 0, 0)), (88, (.ldc_w 311, 91, 0, 1012)), (91, (.invokevirtual 243, 94, 0, 261)), (94, (.ifCond .eq 10, 97, 104, 0))],
   [(97, (.aload_n 0, 98, 0, 0)), (98, (.invokevirtual 313, 101, 0, 273)), (101, (.goto 25, 104, 126, 0)), (104, (.aload_n 0, 105, 0, 0)), (105, (.ldc_w 316, 108, 0, 1013)), (108, (.invokevirtual 243, 111, 0, 261)), (111, (.ifCond .eq 10, 114, 121, 0))],
   [(114, (.aload_n 0, 115, 0, 0)), (115, (.invokevirtual 318, 118, 0, 274)), (118, (.goto 8, 121, 126, 0)), (121, (.aload_n 0, 122, 0, 0)), (122, (.iconst 1, 123, 0, 3)), (123, (.invokevirtual 250, 126, 0, 262)), (126, (.return_, 127, 0, 0))]])
noncomputable def p_M_readTier : mRec := (3, 0, 1, 12, false, [],
  [[(0, (.aload_n 0, 1, 0, 0)), (1, (.getfield 105, 4, 7, 711)), (4, (.iconst 4, 5, 0, 14)), (5, (.if_icmp .eq 24, 8, 29, 0)), (8, (.aload_n 0, 9, 0, 0)), (9, (.getfield 105, 12, 7, 711)), (12, (.ifCond .le 22, 15, 34, 0)), (15, (.aload_n 0, 16, 0, 0))],
   [(16, (.getfield 28, 19, 6, 710)), (19, (.aload_n 0, 20, 0, 0)), (20, (.getfield 105, 23, 7, 711)), (23, (.iconst 1, 24, 0, 3)), (24, (.isub, 25, 0, 0)), (25, (.iaload, 26, 0, 0)), (26, (.ifCond .ne 8, 29, 34, 0)), (29, (.aload_n 0, 30, 0, 0)), (30, (.iconst 3, 31, 0, 13)), (31, (.invokevirtual 250, 34, 0, 262))],
   [(34, (.aload_n 0, 35, 0, 0)), (35, (.invokevirtual 230, 38, 0, 257)), (38, (.ifCond .eq 7, 41, 45, 0)), (41, (.aload_n 0, 42, 0, 0)), (42, (.invokevirtual 247, 45, 0, 255)), (45, (.aload_n 0, 46, 0, 0)), (46, (.iconst 0, 47, 0, 4)), (47, (.sipush 5000, 50, 0, 23))],
   [(50, (.invokevirtual 257, 53, 0, 264)), (53, (.istore_n 1, 54, 0, 0)), (54, (.iconst 0, 55, 0, 4)), (55, (.istore_n 2, 56, 0, 0)), (56, (.aload_n 0, 57, 0, 0)), (57, (.ldc_w 271, 60, 0, 1005)), (60, (.invokevirtual 254, 63, 0, 260)), (63, (.ifCond .eq 35, 66, 98, 0))],
   [(66, (.aload_n 0, 67, 0, 0)), (67, (.aload_n 0, 68, 0, 0)), (68, (.getfield 105, 71, 7, 711)), (71, (.ifCond .ne 7, 74, 78, 0)), (74, (.iconst 1, 75, 0, 3)), (75, (.goto 16, 78, 91, 0)), (78, (.aload_n 0, 79, 0, 0)), (79, (.getfield 28, 82, 6, 710))],
   [(82, (.aload_n 0, 83, 0, 0)), (83, (.getfield 105, 86, 7, 711)), (86, (.iconst 1, 87, 0, 3)), (87, (.isub, 88, 0, 0)), (88, (.iaload, 89, 0, 0)), (89, (.iconst 1, 90, 0, 3)), (90, (.iadd, 91, 0, 0)), (91, (.ldc_w 273, 94, 0, 24)), (94, (.invokevirtual 257, 97, 0, 264))],
   [(97, (.istore_n 2, 98, 0, 0)), (98, (.aload_n 0, 99, 0, 0)), (99, (.invokevirtual 230, 102, 0, 257)), (102, (.ifCond .eq 12, 105, 114, 0)), (105, (.aload_n 0, 106, 0, 0)), (106, (.iconst 0, 107, 0, 4)), (107, (.iload_n 1, 108, 0, 0)), (108, (.iload_n 2, 109, 0, 0)), (109, (.iconst 0, 110, 0, 4)), (110, (.iconst 0, 111, 0, 4)), (111, (.invokevirtual 274, 114, 0, 267))],
   [(114, (.return_, 115, 0, 0))]])
noncomputable def p_M_adds : mRec := (7, 0, 6, 12, false, [],
  [[(0, (.bipush 6, 2, 0, 26)), (2, (.iconst 5, 3, 0, 27)), (3, (.aload_n 0, 4, 0, 0)), (4, (.getfield 11, 7, 1, 705)), (7, (.iconst 5, 8, 0, 27)), (8, (.iaload, 9, 0, 0)), (9, (.imul, 10, 0, 0)), (10, (.iadd, 11, 0, 0)), (11, (.istore 6, 13, 0, 0)), (13, (.aload_n 0, 14, 0, 0)), (14, (.getfield 11, 17, 1, 705))],
   [(17, (.iload 6, 19, 0, 0)), (19, (.iload_n 1, 20, 0, 0)), (20, (.iastore, 21, 0, 0)), (21, (.aload_n 0, 22, 0, 0)), (22, (.getfield 11, 25, 1, 705)), (25, (.iload 6, 27, 0, 0)), (27, (.iconst 1, 28, 0, 3)), (28, (.iadd, 29, 0, 0)), (29, (.iload_n 2, 30, 0, 0)), (30, (.iastore, 31, 0, 0)), (31, (.aload_n 0, 32, 0, 0))],
   [(32, (.getfield 11, 35, 1, 705)), (35, (.iload 6, 37, 0, 0)), (37, (.iconst 2, 38, 0, 8)), (38, (.iadd, 39, 0, 0)), (39, (.iload_n 3, 40, 0, 0)), (40, (.iastore, 41, 0, 0)), (41, (.aload_n 0, 42, 0, 0)), (42, (.getfield 11, 45, 1, 705)), (45, (.iload 6, 47, 0, 0)), (47, (.iconst 3, 48, 0, 13))],
   [(48, (.iadd, 49, 0, 0)), (49, (.iload 4, 51, 0, 0)), (51, (.iastore, 52, 0, 0)), (52, (.aload_n 0, 53, 0, 0)), (53, (.getfield 11, 56, 1, 705)), (56, (.iload 6, 58, 0, 0)), (58, (.iconst 4, 59, 0, 14)), (59, (.iadd, 60, 0, 0)), (60, (.iload 5, 62, 0, 0)), (62, (.iastore, 63, 0, 0)), (63, (.aload_n 0, 64, 0, 0))],
   [(64, (.getfield 11, 67, 1, 705)), (67, (.iconst 5, 68, 0, 27)), (68, (.dup2, 69, 0, 0)), (69, (.iaload, 70, 0, 0)), (70, (.iconst 1, 71, 0, 3)), (71, (.iadd, 72, 0, 0)), (72, (.iastore, 73, 0, 0)), (73, (.return_, 74, 0, 0))]])
noncomputable def p_M_readDebit : mRec := (4, 0, 1, 12, false, [],
  [[(0, (.aload_n 0, 1, 0, 0)), (1, (.getfield 175, 4, 9, 713)), (4, (.ifCond .eq 8, 7, 12, 0)), (7, (.aload_n 0, 8, 0, 0)), (8, (.iconst 3, 9, 0, 13)), (9, (.invokevirtual 250, 12, 0, 262)), (12, (.aload_n 0, 13, 0, 0)), (13, (.invokevirtual 230, 16, 0, 257))],
   [(16, (.ifCond .eq 7, 19, 23, 0)), (19, (.aload_n 0, 20, 0, 0)), (20, (.invokevirtual 247, 23, 0, 255)), (23, (.aload_n 0, 24, 0, 0)), (24, (.iconst 0, 25, 0, 4)), (25, (.sipush 5000, 28, 0, 23)), (28, (.invokevirtual 257, 31, 0, 264)), (31, (.istore_n 1, 32, 0, 0))],
   [(32, (.aload_n 0, 33, 0, 0)), (33, (.ldc_w 278, 36, 0, 1007)), (36, (.iconst 0, 37, 0, 4)), (37, (.sipush 5000, 40, 0, 23)), (40, (.invokevirtual 263, 43, 0, 263)), (43, (.istore_n 2, 44, 0, 0)), (44, (.aload_n 0, 45, 0, 0)), (45, (.ldc_w 280, 48, 0, 1008))],
   [(48, (.iconst 0, 49, 0, 4)), (49, (.ldc_w 273, 52, 0, 24)), (52, (.invokevirtual 263, 55, 0, 263)), (55, (.istore_n 3, 56, 0, 0)), (56, (.aload_n 0, 57, 0, 0)), (57, (.invokevirtual 230, 60, 0, 257)), (60, (.ifCond .eq 12, 63, 72, 0)), (63, (.aload_n 0, 64, 0, 0))],
   [(64, (.iconst 1, 65, 0, 3)), (65, (.iload_n 1, 66, 0, 0)), (66, (.iload_n 2, 67, 0, 0)), (67, (.iload_n 3, 68, 0, 0)), (68, (.iconst 0, 69, 0, 4)), (69, (.invokevirtual 274, 72, 0, 267)), (72, (.return_, 73, 0, 0))]])
noncomputable def p_M_readFrom : mRec := (4, 0, 1, 12, false, [],
  [[(0, (.aload_n 0, 1, 0, 0)), (1, (.getfield 114, 4, 13, 717)), (4, (.bipush 12, 6, 0, 25)), (6, (.if_icmp .ne 8, 9, 14, 0)), (9, (.aload_n 0, 10, 0, 0)), (10, (.iconst 3, 11, 0, 13)), (11, (.invokevirtual 250, 14, 0, 262)), (14, (.aload_n 0, 15, 0, 0)), (15, (.invokevirtual 230, 18, 0, 257))],
   [(18, (.ifCond .eq 7, 21, 25, 0)), (21, (.aload_n 0, 22, 0, 0)), (22, (.invokevirtual 247, 25, 0, 255)), (25, (.aload_n 0, 26, 0, 0)), (26, (.iconst 0, 27, 0, 4)), (27, (.aload_n 0, 28, 0, 0)), (28, (.invokevirtual 97, 31, 0, 270)), (31, (.iconst 1, 32, 0, 3))],
   [(32, (.isub, 33, 0, 0)), (33, (.invokevirtual 257, 36, 0, 264)), (36, (.istore_n 1, 37, 0, 0)), (37, (.iconst (-1), 38, 0, 1)), (38, (.istore_n 2, 39, 0, 0)), (39, (.aload_n 0, 40, 0, 0)), (40, (.ldc_w 282, 43, 0, 1004)), (43, (.invokevirtual 254, 46, 0, 260)), (46, (.ifCond .eq 18, 49, 64, 0))],
   [(49, (.aload_n 0, 50, 0, 0)), (50, (.iconst 0, 51, 0, 4)), (51, (.aload_n 0, 52, 0, 0)), (52, (.getfield 105, 55, 7, 711)), (55, (.iconst 1, 56, 0, 3)), (56, (.isub, 57, 0, 0)), (57, (.invokevirtual 257, 60, 0, 264)), (60, (.istore_n 2, 61, 0, 0)), (61, (.goto 54, 64, 115, 0))],
   [(64, (.aload_n 0, 65, 0, 0)), (65, (.ldc_w 284, 68, 0, 1006)), (68, (.invokevirtual 254, 71, 0, 260)), (71, (.ifCond .eq 8, 74, 79, 0)), (74, (.iconst 4, 75, 0, 14)), (75, (.istore_n 2, 76, 0, 0)), (76, (.goto 39, 79, 115, 0)), (79, (.aload_n 0, 80, 0, 0))],
   [(80, (.ldc_w 278, 83, 0, 1007)), (83, (.invokevirtual 254, 86, 0, 260)), (86, (.ifCond .eq 8, 89, 94, 0)), (89, (.iconst 5, 90, 0, 27)), (90, (.istore_n 2, 91, 0, 0)), (91, (.goto 24, 94, 115, 0)), (94, (.aload_n 0, 95, 0, 0)), (95, (.ldc_w 280, 98, 0, 1008))],
   [(98, (.invokevirtual 254, 101, 0, 260)), (101, (.ifCond .eq 9, 104, 110, 0)), (104, (.bipush 6, 106, 0, 26)), (106, (.istore_n 2, 107, 0, 0)), (107, (.goto 8, 110, 115, 0)), (110, (.aload_n 0, 111, 0, 0)), (111, (.iconst 1, 112, 0, 3))],
   [(112, (.invokevirtual 250, 115, 0, 262)), (115, (.aload_n 0, 116, 0, 0)), (116, (.iconst 0, 117, 0, 4)), (117, (.iload_n 2, 118, 0, 0)), (118, (.bipush 6, 120, 0, 26)), (120, (.if_icmp .ne 9, 123, 129, 0)), (123, (.ldc_w 273, 126, 0, 24)), (126, (.goto 6, 129, 132, 0))],
   [(129, (.sipush 5000, 132, 0, 23)), (132, (.invokevirtual 257, 135, 0, 264)), (135, (.istore_n 3, 136, 0, 0)), (136, (.aload_n 0, 137, 0, 0)), (137, (.invokevirtual 230, 140, 0, 257)), (140, (.ifCond .eq 12, 143, 152, 0)), (143, (.aload_n 0, 144, 0, 0))],
   [(144, (.iconst 2, 145, 0, 8)), (145, (.iload_n 1, 146, 0, 0)), (146, (.iload_n 2, 147, 0, 0)), (147, (.iload_n 3, 148, 0, 0)), (148, (.iconst 0, 149, 0, 4)), (149, (.invokevirtual 274, 152, 0, 267)), (152, (.return_, 153, 0, 0))]])
noncomputable def p_M_days : mRec := (1, 1, 1, 12, false, [],
  [[(0, (.aload_n 0, 1, 0, 0)), (1, (.getfield 11, 4, 1, 705)), (4, (.iconst 0, 5, 0, 4)), (5, (.iaload, 6, 0, 0)), (6, (.aload_n 0, 7, 0, 0)), (7, (.getfield 11, 10, 1, 705)), (10, (.iconst 1, 11, 0, 3)), (11, (.iaload, 12, 0, 0)), (12, (.imul, 13, 0, 0)), (13, (.ireturn, 14, 0, 0))]])
noncomputable def p_M_readEntry : mRec := (4, 0, 2, 12, false, [],
  [[(0, (.aload_n 0, 1, 0, 0)), (1, (.getfield 285, 4, 35, 739)), (4, (.bipush 30, 6, 0, 28)), (6, (.if_icmp .eq 10, 9, 16, 0)), (9, (.aload_n 0, 10, 0, 0)), (10, (.invokevirtual 288, 13, 0, 272)), (13, (.ifCond .ne 8, 16, 21, 0))],
   [(16, (.aload_n 0, 17, 0, 0)), (17, (.iconst 3, 18, 0, 13)), (18, (.invokevirtual 250, 21, 0, 262)), (21, (.aload_n 0, 22, 0, 0)), (22, (.invokevirtual 230, 25, 0, 257)), (25, (.ifCond .eq 7, 28, 32, 0)), (28, (.aload_n 0, 29, 0, 0)), (29, (.invokevirtual 247, 32, 0, 255))],
   [(32, (.aload_n 0, 33, 0, 0)), (33, (.iconst 0, 34, 0, 4)), (34, (.aload_n 0, 35, 0, 0)), (35, (.invokevirtual 97, 38, 0, 270)), (38, (.iconst 1, 39, 0, 3)), (39, (.isub, 40, 0, 0)), (40, (.invokevirtual 257, 43, 0, 264)), (43, (.istore_n 2, 44, 0, 0)), (44, (.aload_n 0, 45, 0, 0)), (45, (.iconst 1, 46, 0, 3)), (46, (.ldc_w 273, 49, 0, 24))],
   [(49, (.invokevirtual 257, 52, 0, 264)), (52, (.istore_n 3, 53, 0, 0)), (53, (.aload_n 0, 54, 0, 0)), (54, (.invokevirtual 230, 57, 0, 257)), (57, (.ifCond .ne 4, 60, 61, 0)), (60, (.return_, 61, 0, 0)), (61, (.aload_n 0, 62, 0, 0)), (62, (.iconst 3, 63, 0, 13)), (63, (.iload_n 2, 64, 0, 0))],
   [(64, (.iload_n 1, 65, 0, 0)), (65, (.iload_n 3, 66, 0, 0)), (66, (.imul, 67, 0, 0)), (67, (.iconst 0, 68, 0, 4)), (68, (.iconst 0, 69, 0, 4)), (69, (.invokevirtual 274, 72, 0, 267)), (72, (.aload_n 0, 73, 0, 0)), (73, (.dup, 74, 0, 0)), (74, (.getfield 285, 77, 35, 739)), (77, (.iconst 1, 78, 0, 3)), (78, (.iadd, 79, 0, 0)), (79, (.putfield 285, 82, 35, 739))],
   [(82, (.return_, 83, 0, 0))]])
noncomputable def p_M_isOpen : mRec := (1, 3, 1, 12, false, [],
  [[(0, (.aload_n 0, 1, 0, 0)), (1, (.getfield 111, 4, 20, 724)), (4, (.aload_n 0, 5, 0, 0)), (5, (.getfield 11, 8, 1, 705)), (8, (.iconst 1, 9, 0, 3)), (9, (.iaload, 10, 0, 0)), (10, (.if_icmp .ge 7, 13, 17, 0)), (13, (.iconst 1, 14, 0, 3)), (14, (.goto 4, 17, 18, 0))],
   [(17, (.iconst 0, 18, 0, 4)), (18, (.ireturn, 19, 0, 0))]])
noncomputable def p_M_readClose : mRec := (1, 0, 1, 12, false, [],
  [[(0, (.aload_n 0, 1, 0, 0)), (1, (.invokevirtual 288, 4, 0, 272)), (4, (.ifCond .ne 8, 7, 12, 0)), (7, (.aload_n 0, 8, 0, 0)), (8, (.iconst 3, 9, 0, 13)), (9, (.invokevirtual 250, 12, 0, 262)), (12, (.aload_n 0, 13, 0, 0)), (13, (.invokevirtual 230, 16, 0, 257))],
   [(16, (.ifCond .ne 4, 19, 20, 0)), (19, (.return_, 20, 0, 0)), (20, (.aload_n 0, 21, 0, 0)), (21, (.invokevirtual 247, 24, 0, 255)), (24, (.aload_n 0, 25, 0, 0)), (25, (.iconst 4, 26, 0, 14)), (26, (.iconst 0, 27, 0, 4)), (27, (.iconst 0, 28, 0, 4)), (28, (.iconst 0, 29, 0, 4)), (29, (.iconst 0, 30, 0, 4)), (30, (.invokevirtual 274, 33, 0, 267))],
   [(33, (.return_, 34, 0, 0))]])
noncomputable def p_M_readRerun : mRec := (1, 0, 1, 12, false, [],
  [[(0, (.aload_n 0, 1, 0, 0)), (1, (.getfield 291, 4, 36, 740)), (4, (.bipush 6, 6, 0, 26)), (6, (.if_icmp .eq 10, 9, 16, 0)), (9, (.aload_n 0, 10, 0, 0)), (10, (.invokevirtual 288, 13, 0, 272)), (13, (.ifCond .ne 8, 16, 21, 0))],
   [(16, (.aload_n 0, 17, 0, 0)), (17, (.iconst 3, 18, 0, 13)), (18, (.invokevirtual 250, 21, 0, 262)), (21, (.aload_n 0, 22, 0, 0)), (22, (.invokevirtual 230, 25, 0, 257)), (25, (.ifCond .ne 4, 28, 29, 0)), (28, (.return_, 29, 0, 0)), (29, (.aload_n 0, 30, 0, 0)), (30, (.invokevirtual 247, 33, 0, 255))],
   [(33, (.aload_n 0, 34, 0, 0)), (34, (.iconst 5, 35, 0, 27)), (35, (.iconst 0, 36, 0, 4)), (36, (.iconst 0, 37, 0, 4)), (37, (.iconst 0, 38, 0, 4)), (38, (.iconst 0, 39, 0, 4)), (39, (.invokevirtual 274, 42, 0, 267)), (42, (.aload_n 0, 43, 0, 0)), (43, (.dup, 44, 0, 0)), (44, (.getfield 291, 47, 36, 740)), (47, (.iconst 1, 48, 0, 3))],
   [(48, (.iadd, 49, 0, 0)), (49, (.putfield 291, 52, 36, 740)), (52, (.return_, 53, 0, 0))]])
noncomputable def p_M_does : mRec := (7, 1, 2, 12, false, [],
  [[(0, (.bipush 6, 2, 0, 26)), (2, (.iconst 5, 3, 0, 27)), (3, (.iload_n 1, 4, 0, 0)), (4, (.imul, 5, 0, 0)), (5, (.iadd, 6, 0, 0)), (6, (.istore_n 2, 7, 0, 0)), (7, (.aload_n 0, 8, 0, 0)), (8, (.getfield 11, 11, 1, 705)), (11, (.iload_n 2, 12, 0, 0)), (12, (.iconst 1, 13, 0, 3)), (13, (.iadd, 14, 0, 0)), (14, (.iaload, 15, 0, 0)), (15, (.istore_n 3, 16, 0, 0))],
   [(16, (.aload_n 0, 17, 0, 0)), (17, (.getfield 11, 20, 1, 705)), (20, (.iload_n 2, 21, 0, 0)), (21, (.iconst 2, 22, 0, 8)), (22, (.iadd, 23, 0, 0)), (23, (.iaload, 24, 0, 0)), (24, (.istore 4, 26, 0, 0)), (26, (.aload_n 0, 27, 0, 0)), (27, (.getfield 11, 30, 1, 705)), (30, (.iload_n 2, 31, 0, 0)), (31, (.iconst 3, 32, 0, 13))],
   [(32, (.iadd, 33, 0, 0)), (33, (.iaload, 34, 0, 0)), (34, (.istore 5, 36, 0, 0)), (36, (.aload_n 0, 37, 0, 0)), (37, (.getfield 11, 40, 1, 705)), (40, (.iload_n 2, 41, 0, 0)), (41, (.iaload, 42, 0, 0)), (42, (.tableswitch 148 0 5 #[38, 71, 101, 115, 132, 143], 80, 0, 10))],
   [],
   [],
   [(80, (.aload_n 0, 81, 0, 0)), (81, (.getfield 25, 84, 5, 709)), (84, (.aload_n 0, 85, 0, 0)), (85, (.getfield 105, 88, 7, 711)), (88, (.iload_n 3, 89, 0, 0)), (89, (.iastore, 90, 0, 0)), (90, (.aload_n 0, 91, 0, 0)), (91, (.getfield 28, 94, 6, 710)), (94, (.aload_n 0, 95, 0, 0)), (95, (.getfield 105, 98, 7, 711))],
   [(98, (.iload 4, 100, 0, 0)), (100, (.iastore, 101, 0, 0)), (101, (.aload_n 0, 102, 0, 0)), (102, (.dup, 103, 0, 0)), (103, (.getfield 105, 106, 7, 711)), (106, (.iconst 1, 107, 0, 3)), (107, (.iadd, 108, 0, 0)), (108, (.putfield 105, 111, 7, 711)), (111, (.iconst 0, 112, 0, 4))],
   [(112, (.ireturn, 113, 0, 0)), (113, (.aload_n 0, 114, 0, 0)), (114, (.getfield 31, 117, 8, 712)), (117, (.iconst 0, 118, 0, 4)), (118, (.iload_n 3, 119, 0, 0)), (119, (.iastore, 120, 0, 0)), (120, (.aload_n 0, 121, 0, 0)), (121, (.getfield 31, 124, 8, 712)), (124, (.iconst 1, 125, 0, 3)), (125, (.iload 4, 127, 0, 0)), (127, (.iastore, 128, 0, 0))],
   [(128, (.aload_n 0, 129, 0, 0)), (129, (.getfield 31, 132, 8, 712)), (132, (.iconst 2, 133, 0, 8)), (133, (.iload 5, 135, 0, 0)), (135, (.iastore, 136, 0, 0)), (136, (.aload_n 0, 137, 0, 0)), (137, (.iconst 1, 138, 0, 3)), (138, (.putfield 175, 141, 9, 713)), (141, (.iconst 0, 142, 0, 4)), (142, (.ireturn, 143, 0, 0)), (143, (.aload_n 0, 144, 0, 0))],
   [(144, (.iload_n 3, 145, 0, 0)), (145, (.iload 4, 147, 0, 0)), (147, (.iload 5, 149, 0, 0)), (149, (.invokevirtual 179, 152, 0, 276)), (152, (.aload_n 0, 153, 0, 0)), (153, (.getfield 114, 156, 13, 717)), (156, (.ireturn, 157, 0, 0)), (157, (.aload_n 0, 158, 0, 0)), (158, (.iconst 0, 159, 0, 4)), (159, (.iload 4, 161, 0, 0))],
   [(161, (.i2l, 162, 0, 0)), (162, (.iload_n 3, 163, 0, 0)), (163, (.iconst (-1), 164, 0, 1)), (164, (.invokevirtual 168, 167, 0, 277)), (167, (.aload_n 0, 168, 0, 0)), (168, (.getfield 108, 171, 19, 723)), (171, (.iconst 1, 172, 0, 3)), (172, (.isub, 173, 0, 0)), (173, (.ireturn, 174, 0, 0)), (174, (.aload_n 0, 175, 0, 0)), (175, (.invokevirtual 182, 178, 0, 278))],
   [(178, (.aload_n 0, 179, 0, 0)), (179, (.getfield 111, 182, 20, 724)), (182, (.iconst 1, 183, 0, 3)), (183, (.isub, 184, 0, 0)), (184, (.ireturn, 185, 0, 0)), (185, (.aload_n 0, 186, 0, 0)), (186, (.invokevirtual 185, 189, 0, 288)), (189, (.ireturn, 190, 0, 0)), (190, (.aload_n 0, 191, 0, 0)), (191, (.iload_n 3, 192, 0, 0))],
   [(192, (.invokevirtual 188, 195, 0, 290)), (195, (.istore 6, 197, 0, 0)), (197, (.aload_n 0, 198, 0, 0)), (198, (.iconst 3, 199, 0, 13)), (199, (.aload_n 0, 200, 0, 0)), (200, (.getfield 46, 203, 15, 719)), (203, (.iload 6, 205, 0, 0)), (205, (.laload, 206, 0, 0)), (206, (.lneg, 207, 0, 0)), (207, (.aload_n 0, 208, 0, 0))],
   [(208, (.getfield 50, 211, 16, 720)), (211, (.iload 6, 213, 0, 0)), (213, (.iaload, 214, 0, 0)), (214, (.iload 6, 216, 0, 0)), (216, (.invokevirtual 168, 219, 0, 277)), (219, (.aload_n 0, 220, 0, 0)), (220, (.getfield 108, 223, 19, 723)), (223, (.iconst 1, 224, 0, 3))],
   [(224, (.isub, 225, 0, 0)), (225, (.ireturn, 226, 0, 0))]])
noncomputable def p_M_changes : mRec := (4, 0, 4, 12, false, [],
  [[(0, (.aload_n 0, 1, 0, 0)), (1, (.getfield 34, 4, 10, 714)), (4, (.aload_n 0, 5, 0, 0)), (5, (.getfield 114, 8, 13, 717)), (8, (.iload_n 1, 9, 0, 0)), (9, (.iastore, 10, 0, 0)), (10, (.aload_n 0, 11, 0, 0)), (11, (.getfield 37, 14, 11, 715)), (14, (.aload_n 0, 15, 0, 0)), (15, (.getfield 114, 18, 13, 717))],
   [(18, (.iload_n 2, 19, 0, 0)), (19, (.iastore, 20, 0, 0)), (20, (.aload_n 0, 21, 0, 0)), (21, (.getfield 40, 24, 12, 716)), (24, (.aload_n 0, 25, 0, 0)), (25, (.getfield 114, 28, 13, 717)), (28, (.iload_n 3, 29, 0, 0)), (29, (.iastore, 30, 0, 0)), (30, (.aload_n 0, 31, 0, 0)), (31, (.dup, 32, 0, 0))],
   [(32, (.getfield 114, 35, 13, 717)), (35, (.iconst 1, 36, 0, 3)), (36, (.iadd, 37, 0, 0)), (37, (.putfield 114, 40, 13, 717)), (40, (.return_, 41, 0, 0))]])
noncomputable def p_M_enters : mRec := (6, 0, 5, 12, false, [],
  [[(0, (.aload_n 0, 1, 0, 0)), (1, (.getfield 43, 4, 14, 718)), (4, (.aload_n 0, 5, 0, 0)), (5, (.getfield 108, 8, 19, 723)), (8, (.iload_n 1, 9, 0, 0)), (9, (.iastore, 10, 0, 0)), (10, (.aload_n 0, 11, 0, 0)), (11, (.getfield 46, 14, 15, 719)), (14, (.aload_n 0, 15, 0, 0)), (15, (.getfield 108, 18, 19, 723))],
   [(18, (.lload_n 2, 19, 0, 0)), (19, (.lastore, 20, 0, 0)), (20, (.aload_n 0, 21, 0, 0)), (21, (.getfield 50, 24, 16, 720)), (24, (.aload_n 0, 25, 0, 0)), (25, (.getfield 108, 28, 19, 723)), (28, (.iload 4, 30, 0, 0)), (30, (.iastore, 31, 0, 0)), (31, (.aload_n 0, 32, 0, 0))],
   [(32, (.getfield 53, 35, 17, 721)), (35, (.aload_n 0, 36, 0, 0)), (36, (.getfield 108, 39, 19, 723)), (39, (.aload_n 0, 40, 0, 0)), (40, (.getfield 111, 43, 20, 724)), (43, (.iastore, 44, 0, 0)), (44, (.aload_n 0, 45, 0, 0)), (45, (.getfield 56, 48, 18, 722))],
   [(48, (.aload_n 0, 49, 0, 0)), (49, (.getfield 108, 52, 19, 723)), (52, (.iload 5, 54, 0, 0)), (54, (.iastore, 55, 0, 0)), (55, (.aload_n 0, 56, 0, 0)), (56, (.dup, 57, 0, 0)), (57, (.getfield 108, 60, 19, 723)), (60, (.iconst 1, 61, 0, 3)), (61, (.iadd, 62, 0, 0)), (62, (.putfield 108, 65, 19, 723))],
   [(65, (.return_, 66, 0, 0))]])
noncomputable def p_M_closes : mRec := (3, 0, 1, 12, false, [],
  [[(0, (.aload_n 0, 1, 0, 0)), (1, (.aload_n 0, 2, 0, 0)), (2, (.getfield 111, 5, 20, 724)), (5, (.invokevirtual 161, 8, 0, 279)), (8, (.lstore_n 1, 9, 0, 0)), (9, (.aload_n 0, 10, 0, 0)), (10, (.iconst 1, 11, 0, 3)), (11, (.lload_n 1, 12, 0, 0)), (12, (.aload_n 0, 13, 0, 0)), (13, (.aload_n 0, 14, 0, 0)), (14, (.getfield 111, 17, 20, 724))],
   [(17, (.invokevirtual 164, 20, 0, 287)), (20, (.aload_n 0, 21, 0, 0)), (21, (.getfield 111, 24, 20, 724)), (24, (.invokevirtual 168, 27, 0, 277)), (27, (.aload_n 0, 28, 0, 0)), (28, (.dup, 29, 0, 0)), (29, (.getfield 111, 32, 20, 724))],
   [(32, (.iconst 1, 33, 0, 3)), (33, (.iadd, 34, 0, 0)), (34, (.putfield 111, 37, 20, 724)), (37, (.return_, 38, 0, 0))]])
noncomputable def p_M_interestOf : mRec := (2, 2, 2, 12, false, [],
  [[(0, (.aload_n 0, 1, 0, 0)), (1, (.invokevirtual 155, 4, 0, 280)), (4, (.aload_n 0, 5, 0, 0)), (5, (.iload_n 1, 6, 0, 0)), (6, (.invokevirtual 158, 9, 0, 281)), (9, (.lreturn, 10, 0, 0))]])
noncomputable def p_M_laysBalances : mRec := (2, 0, 1, 12, false, [2, 24, 66],
  [[(0, (.iconst 0, 1, 0, 4)), (1, (.istore_n 1, 2, 0, 0)), (2, (.iload_n 1, 3, 0, 0)), (3, (.sipush 320, 6, 0, 30)), (6, (.if_icmp .gt 16, 9, 22, 0)), (9, (.aload_n 0, 10, 0, 0)), (10, (.getfield 66, 13, 24, 728)), (13, (.iload_n 1, 14, 0, 0)), (14, (.lconst 0, 15, 0, 0)), (15, (.lastore, 16, 0, 0))],
   [(16, (.iinc 1 1, 19, 0, 3)), (19, (.goto (-17), 22, 2, 0)), (22, (.iconst 0, 23, 0, 4)), (23, (.istore_n 1, 24, 0, 0)), (24, (.iload_n 1, 25, 0, 0)), (25, (.aload_n 0, 26, 0, 0)), (26, (.getfield 108, 29, 19, 723)), (29, (.if_icmp .ge 35, 32, 64, 0))],
   [(32, (.aload_n 0, 33, 0, 0)), (33, (.getfield 66, 36, 24, 728)), (36, (.aload_n 0, 37, 0, 0)), (37, (.getfield 50, 40, 16, 720)), (40, (.iload_n 1, 41, 0, 0)), (41, (.iaload, 42, 0, 0)), (42, (.sipush 320, 45, 0, 30)), (45, (.invokestatic 124, 48, 0, 9003))],
   [(48, (.dup2, 49, 0, 0)), (49, (.laload, 50, 0, 0)), (50, (.aload_n 0, 51, 0, 0)), (51, (.getfield 46, 54, 15, 719)), (54, (.iload_n 1, 55, 0, 0)), (55, (.laload, 56, 0, 0)), (56, (.ladd, 57, 0, 0)), (57, (.lastore, 58, 0, 0)), (58, (.iinc 1 1, 61, 0, 3)), (61, (.goto (-37), 64, 24, 0))],
   [(64, (.iconst 1, 65, 0, 3)), (65, (.istore_n 1, 66, 0, 0)), (66, (.iload_n 1, 67, 0, 0)), (67, (.sipush 320, 70, 0, 30)), (70, (.if_icmp .gt 26, 73, 96, 0)), (73, (.aload_n 0, 74, 0, 0)), (74, (.getfield 66, 77, 24, 728)), (77, (.iload_n 1, 78, 0, 0)), (78, (.dup2, 79, 0, 0)), (79, (.laload, 80, 0, 0))],
   [(80, (.aload_n 0, 81, 0, 0)), (81, (.getfield 66, 84, 24, 728)), (84, (.iload_n 1, 85, 0, 0)), (85, (.iconst 1, 86, 0, 3)), (86, (.isub, 87, 0, 0)), (87, (.laload, 88, 0, 0)), (88, (.ladd, 89, 0, 0)), (89, (.lastore, 90, 0, 0)), (90, (.iinc 1 1, 93, 0, 3)), (93, (.goto (-27), 96, 66, 0))],
   [(96, (.return_, 97, 0, 0))]])
noncomputable def p_M_interestLaid : mRec := (5, 2, 2, 12, false, [12],
  [[(0, (.lconst 0, 1, 0, 0)), (1, (.lstore_n 2, 2, 0, 0)), (2, (.aload_n 0, 3, 0, 0)), (3, (.getfield 11, 6, 1, 705)), (6, (.iconst 0, 7, 0, 4)), (7, (.iaload, 8, 0, 0)), (8, (.iload_n 1, 9, 0, 0)), (9, (.imul, 10, 0, 0)), (10, (.istore 4, 12, 0, 0)), (12, (.iload 4, 14, 0, 0)), (14, (.aload_n 0, 15, 0, 0)), (15, (.getfield 11, 18, 1, 705))],
   [(18, (.iconst 0, 19, 0, 4)), (19, (.iaload, 20, 0, 0)), (20, (.iload_n 1, 21, 0, 0)), (21, (.iconst 1, 22, 0, 3)), (22, (.iadd, 23, 0, 0)), (23, (.imul, 24, 0, 0)), (24, (.if_icmp .ge 25, 27, 49, 0)), (27, (.lload_n 2, 28, 0, 0)), (28, (.aload_n 0, 29, 0, 0)), (29, (.iload 4, 31, 0, 0)), (31, (.invokevirtual 145, 34, 0, 282))],
   [(34, (.aload_n 0, 35, 0, 0)), (35, (.iload 4, 37, 0, 0)), (37, (.invokevirtual 149, 40, 0, 285)), (40, (.lsub, 41, 0, 0)), (41, (.ladd, 42, 0, 0)), (42, (.lstore_n 2, 43, 0, 0)), (43, (.iinc 4 1, 46, 0, 3)), (46, (.goto (-34), 49, 12, 0))],
   [(49, (.lload_n 2, 50, 0, 0)), (50, (.invokestatic 152, 53, 0, 286)), (53, (.lreturn, 54, 0, 0))]])
noncomputable def p_M_earnedOn : mRec := (5, 2, 2, 12, false, [5],
  [[(0, (.lconst 0, 1, 0, 0)), (1, (.lstore_n 2, 2, 0, 0)), (2, (.iconst 0, 3, 0, 4)), (3, (.istore 4, 5, 0, 0)), (5, (.iload 4, 7, 0, 0)), (7, (.aload_n 0, 8, 0, 0)), (8, (.getfield 105, 11, 7, 711)), (11, (.if_icmp .ge 39, 14, 50, 0)), (14, (.aload_n 0, 15, 0, 0)), (15, (.getfield 66, 18, 24, 728))],
   [(18, (.iload_n 1, 19, 0, 0)), (19, (.laload, 20, 0, 0)), (20, (.lconst 0, 21, 0, 0)), (21, (.lcmp, 25, 50, 5)), (22, (.ifCond .le 28, 25, 50, 0)), (25, (.lload_n 2, 26, 0, 0)), (26, (.aload_n 0, 27, 0, 0)), (27, (.iload_n 1, 28, 0, 0)), (28, (.iload 4, 30, 0, 0)), (30, (.invokevirtual 135, 33, 0, 283))],
   [(33, (.aload_n 0, 34, 0, 0)), (34, (.iload 4, 36, 0, 0)), (36, (.iload_n 1, 37, 0, 0)), (37, (.invokevirtual 127, 40, 0, 284)), (40, (.i2l, 41, 0, 0)), (41, (.lmul, 42, 0, 0)), (42, (.ladd, 43, 0, 0)), (43, (.lstore_n 2, 44, 0, 0)), (44, (.iinc 4 1, 47, 0, 3)), (47, (.goto (-42), 50, 5, 0))],
   [(50, (.lload_n 2, 51, 0, 0)), (51, (.lreturn, 52, 0, 0))]])
noncomputable def p_M_partOf : mRec := (9, 2, 3, 12, false, [],
  [[(0, (.aload_n 0, 1, 0, 0)), (1, (.getfield 66, 4, 24, 728)), (4, (.iload_n 1, 5, 0, 0)), (5, (.laload, 6, 0, 0)), (6, (.lstore_n 3, 7, 0, 0)), (7, (.iload_n 2, 8, 0, 0)), (8, (.aload_n 0, 9, 0, 0)), (9, (.getfield 105, 12, 7, 711)), (12, (.if_icmp .le 64, 15, 76, 0)), (15, (.lload_n 3, 16, 0, 0))],
   [(16, (.lconst 0, 17, 0, 0)), (17, (.lcmp, 21, 26, 3)), (18, (.ifCond .ge 8, 21, 26, 0)), (21, (.lload_n 3, 22, 0, 0)), (22, (.lneg, 23, 0, 0)), (23, (.goto 4, 26, 27, 0)), (26, (.lconst 0, 27, 0, 0)), (27, (.lstore 5, 29, 0, 0)), (29, (.lload 5, 31, 0, 0)), (31, (.lconst 0, 32, 0, 0))],
   [(32, (.lcmp, 36, 40, 1)), (33, (.ifCond .ne 7, 36, 40, 0)), (36, (.lconst 0, 37, 0, 0)), (37, (.goto 16, 40, 53, 0)), (40, (.lload 5, 42, 0, 0)), (42, (.aload_n 0, 43, 0, 0)), (43, (.bipush 6, 45, 0, 26)), (45, (.iload_n 1, 46, 0, 0)), (46, (.invokevirtual 127, 49, 0, 284))],
   [(49, (.i2l, 50, 0, 0)), (50, (.invokestatic 130, 53, 0, 9005)), (53, (.lstore 7, 55, 0, 0)), (55, (.iload_n 2, 56, 0, 0)), (56, (.aload_n 0, 57, 0, 0)), (57, (.getfield 105, 60, 7, 711)), (60, (.iconst 1, 61, 0, 3)), (61, (.iadd, 62, 0, 0)), (62, (.if_icmp .ne 8, 65, 70, 0))],
   [(65, (.lload 7, 67, 0, 0)), (67, (.goto 8, 70, 75, 0)), (70, (.lload 5, 72, 0, 0)), (72, (.lload 7, 74, 0, 0)), (74, (.lsub, 75, 0, 0)), (75, (.lreturn, 76, 0, 0)), (76, (.lload_n 3, 77, 0, 0)), (77, (.lconst 0, 78, 0, 0)), (78, (.lcmp, 82, 84, 4)), (79, (.ifCond .gt 5, 82, 84, 0))],
   [(82, (.lconst 0, 83, 0, 0)), (83, (.lreturn, 84, 0, 0)), (84, (.iload_n 2, 85, 0, 0)), (85, (.ifCond .ne 7, 88, 92, 0)), (88, (.lconst 0, 89, 0, 0)), (89, (.goto 12, 92, 101, 0)), (92, (.aload_n 0, 93, 0, 0)), (93, (.getfield 28, 96, 6, 710))],
   [(96, (.iload_n 2, 97, 0, 0)), (97, (.iconst 1, 98, 0, 3)), (98, (.isub, 99, 0, 0)), (99, (.iaload, 100, 0, 0)), (100, (.i2l, 101, 0, 0)), (101, (.lstore 5, 103, 0, 0)), (103, (.iload_n 2, 104, 0, 0)), (104, (.ifCond .le 16, 107, 120, 0)), (107, (.aload_n 0, 108, 0, 0)), (108, (.getfield 28, 111, 6, 710)), (111, (.iload_n 2, 112, 0, 0))],
   [(112, (.iconst 1, 113, 0, 3)), (113, (.isub, 114, 0, 0)), (114, (.iaload, 115, 0, 0)), (115, (.ifCond .ne 5, 118, 120, 0)), (118, (.lconst 0, 119, 0, 0)), (119, (.lreturn, 120, 0, 0)), (120, (.lconst 0, 121, 0, 0)), (121, (.lload_n 3, 122, 0, 0)), (122, (.lload 5, 124, 0, 0)), (124, (.lsub, 125, 0, 0)), (125, (.invokestatic 133, 128, 0, 9004))],
   [(128, (.lstore 7, 130, 0, 0)), (130, (.iload_n 2, 131, 0, 0)), (131, (.aload_n 0, 132, 0, 0)), (132, (.getfield 105, 135, 7, 711)), (135, (.if_icmp .ge 30, 138, 165, 0)), (138, (.aload_n 0, 139, 0, 0)), (139, (.getfield 28, 142, 6, 710)), (142, (.iload_n 2, 143, 0, 0)), (143, (.iaload, 144, 0, 0))],
   [(144, (.ifCond .le 21, 147, 165, 0)), (147, (.lload 7, 149, 0, 0)), (149, (.aload_n 0, 150, 0, 0)), (150, (.getfield 28, 153, 6, 710)), (153, (.iload_n 2, 154, 0, 0)), (154, (.iaload, 155, 0, 0)), (155, (.i2l, 156, 0, 0)), (156, (.lload 5, 158, 0, 0)), (158, (.lsub, 159, 0, 0)), (159, (.invokestatic 130, 162, 0, 9005))],
   [(162, (.goto 5, 165, 167, 0)), (165, (.lload 7, 167, 0, 0)), (167, (.lreturn, 168, 0, 0))]])
noncomputable def p_M_holds : mRec := (6, 1, 3, 12, false, [48],
  [[(0, (.iload_n 1, 1, 0, 0)), (1, (.bipush 6, 3, 0, 26)), (3, (.if_icmp .ne 16, 6, 19, 0)), (6, (.aload_n 0, 7, 0, 0)), (7, (.getfield 63, 10, 23, 727)), (10, (.iconst (-1), 11, 0, 1)), (11, (.if_icmp .eq 8, 14, 19, 0)), (14, (.aload_n 0, 15, 0, 0)), (15, (.getfield 63, 18, 23, 727))],
   [(18, (.ireturn, 19, 0, 0)), (19, (.iload_n 1, 20, 0, 0)), (20, (.iconst 4, 21, 0, 14)), (21, (.if_icmp .ge 12, 24, 33, 0)), (24, (.aload_n 0, 25, 0, 0)), (25, (.getfield 25, 28, 5, 709)), (28, (.iload_n 1, 29, 0, 0)), (29, (.iaload, 30, 0, 0)), (30, (.goto 11, 33, 41, 0))],
   [(33, (.aload_n 0, 34, 0, 0)), (34, (.getfield 31, 37, 8, 712)), (37, (.iload_n 1, 38, 0, 0)), (38, (.iconst 4, 39, 0, 14)), (39, (.isub, 40, 0, 0)), (40, (.iaload, 41, 0, 0)), (41, (.istore_n 3, 42, 0, 0)), (42, (.iconst (-1), 43, 0, 1)), (43, (.istore 4, 45, 0, 0)), (45, (.iconst 0, 46, 0, 4)), (46, (.istore 5, 48, 0, 0))],
   [(48, (.iload 5, 50, 0, 0)), (50, (.aload_n 0, 51, 0, 0)), (51, (.getfield 114, 54, 13, 717)), (54, (.if_icmp .ge 63, 57, 117, 0)), (57, (.aload_n 0, 58, 0, 0)), (58, (.getfield 37, 61, 11, 715)), (61, (.iload 5, 63, 0, 0)), (63, (.iaload, 64, 0, 0))],
   [(64, (.iload_n 1, 65, 0, 0)), (65, (.if_icmp .ne 46, 68, 111, 0)), (68, (.aload_n 0, 69, 0, 0)), (69, (.getfield 34, 72, 10, 714)), (72, (.iload 5, 74, 0, 0)), (74, (.iaload, 75, 0, 0)), (75, (.iload_n 2, 76, 0, 0)), (76, (.if_icmp .gt 35, 79, 111, 0)), (79, (.aload_n 0, 80, 0, 0))],
   [(80, (.getfield 34, 83, 10, 714)), (83, (.iload 5, 85, 0, 0)), (85, (.iaload, 86, 0, 0)), (86, (.iload 4, 88, 0, 0)), (88, (.if_icmp .ge 6, 91, 94, 0)), (91, (.goto 20, 94, 111, 0)), (94, (.aload_n 0, 95, 0, 0)), (95, (.getfield 34, 98, 10, 714))],
   [(98, (.iload 5, 100, 0, 0)), (100, (.iaload, 101, 0, 0)), (101, (.istore 4, 103, 0, 0)), (103, (.aload_n 0, 104, 0, 0)), (104, (.getfield 40, 107, 12, 716)), (107, (.iload 5, 109, 0, 0)), (109, (.iaload, 110, 0, 0)), (110, (.istore_n 3, 111, 0, 0)), (111, (.iinc 5 1, 114, 0, 3))],
   [(114, (.goto (-66), 117, 48, 0)), (117, (.iload_n 1, 118, 0, 0)), (118, (.aload_n 0, 119, 0, 0)), (119, (.getfield 59, 122, 21, 725)), (122, (.if_icmp .ne 16, 125, 138, 0)), (125, (.iconst 0, 126, 0, 4)), (126, (.iload_n 3, 127, 0, 0)), (127, (.aload_n 0, 128, 0, 0))],
   [(128, (.getfield 117, 131, 22, 726)), (131, (.iadd, 132, 0, 0)), (132, (.invokestatic 120, 135, 0, 9002)), (135, (.goto 4, 138, 139, 0)), (138, (.iload_n 3, 139, 0, 0)), (139, (.ireturn, 140, 0, 0))]])
noncomputable def p_M_owedOn : mRec := (2, 2, 2, 12, false, [],
  [[(0, (.aload_n 0, 1, 0, 0)), (1, (.getfield 66, 4, 24, 728)), (4, (.iload_n 1, 5, 0, 0)), (5, (.laload, 6, 0, 0)), (6, (.lconst 0, 7, 0, 0)), (7, (.lcmp, 11, 53, 3)), (8, (.ifCond .ge 45, 11, 53, 0)), (11, (.aload_n 0, 12, 0, 0)), (12, (.iload_n 1, 13, 0, 0)), (13, (.aload_n 0, 14, 0, 0)), (14, (.getfield 105, 17, 7, 711))],
   [(17, (.iconst 1, 18, 0, 3)), (18, (.iadd, 19, 0, 0)), (19, (.invokevirtual 135, 22, 0, 283)), (22, (.aload_n 0, 23, 0, 0)), (23, (.iconst 4, 24, 0, 14)), (24, (.iload_n 1, 25, 0, 0)), (25, (.invokevirtual 127, 28, 0, 284)), (28, (.i2l, 29, 0, 0)), (29, (.lmul, 30, 0, 0)), (30, (.aload_n 0, 31, 0, 0)), (31, (.iload_n 1, 32, 0, 0))],
   [(32, (.aload_n 0, 33, 0, 0)), (33, (.getfield 105, 36, 7, 711)), (36, (.iconst 2, 37, 0, 8)), (37, (.iadd, 38, 0, 0)), (38, (.invokevirtual 135, 41, 0, 283)), (41, (.aload_n 0, 42, 0, 0)), (42, (.iconst 5, 43, 0, 27)), (43, (.iload_n 1, 44, 0, 0)), (44, (.invokevirtual 127, 47, 0, 284)), (47, (.i2l, 48, 0, 0))],
   [(48, (.lmul, 49, 0, 0)), (49, (.ladd, 50, 0, 0)), (50, (.goto 4, 53, 54, 0)), (53, (.lconst 0, 54, 0, 0)), (54, (.lreturn, 55, 0, 0))]])
noncomputable def p_M_nearest : mRec := (4, 2, 1, 0, false, [],
  [[(0, (.ldc2_w 139, 3, 0, 10)), (3, (.lload_n 0, 4, 0, 0)), (4, (.invokestatic 91, 7, 0, 9006)), (7, (.lmul, 8, 0, 0)), (8, (.ldc2_w 141, 11, 0, 2)), (11, (.ladd, 12, 0, 0)), (12, (.ldc2_w 143, 15, 0, 11)), (15, (.ldiv, 16, 0, 0))],
   [(16, (.lstore_n 2, 17, 0, 0)), (17, (.lload_n 0, 18, 0, 0)), (18, (.lconst 0, 19, 0, 0)), (19, (.lcmp, 23, 28, 3)), (20, (.ifCond .ge 8, 23, 28, 0)), (23, (.lload_n 2, 24, 0, 0)), (24, (.lneg, 25, 0, 0)), (25, (.goto 4, 28, 29, 0)), (28, (.lload_n 2, 29, 0, 0)), (29, (.lreturn, 30, 0, 0))]])
noncomputable def p_M_compoundingOf : mRec := (2, 1, 2, 12, false, [],
  [[(0, (.aload_n 0, 1, 0, 0)), (1, (.getfield 11, 4, 1, 705)), (4, (.iconst 0, 5, 0, 4)), (5, (.iaload, 6, 0, 0)), (6, (.aload_n 0, 7, 0, 0)), (7, (.getfield 11, 10, 1, 705)), (10, (.iconst 2, 11, 0, 8)), (11, (.iaload, 12, 0, 0)), (12, (.imul, 13, 0, 0)), (13, (.iload_n 1, 14, 0, 0)), (14, (.aload_n 0, 15, 0, 0)), (15, (.getfield 11, 18, 1, 705))],
   [(18, (.iconst 2, 19, 0, 8)), (19, (.iaload, 20, 0, 0)), (20, (.idiv, 21, 0, 0)), (21, (.iconst 1, 22, 0, 3)), (22, (.iadd, 23, 0, 0)), (23, (.imul, 24, 0, 0)), (24, (.ireturn, 25, 0, 0))]])
noncomputable def p_M_reruns : mRec := (5, 1, 1, 12, false, [4],
  [[(0, (.iconst 0, 1, 0, 4)), (1, (.istore_n 1, 2, 0, 0)), (2, (.iconst 0, 3, 0, 4)), (3, (.istore_n 2, 4, 0, 0)), (4, (.iload_n 2, 5, 0, 0)), (5, (.aload_n 0, 6, 0, 0)), (6, (.getfield 111, 9, 20, 724)), (9, (.if_icmp .ge 45, 12, 54, 0)), (12, (.aload_n 0, 13, 0, 0)), (13, (.iload_n 2, 14, 0, 0)), (14, (.invokevirtual 161, 17, 0, 279))],
   [(17, (.aload_n 0, 18, 0, 0)), (18, (.iload_n 2, 19, 0, 0)), (19, (.invokevirtual 172, 22, 0, 289)), (22, (.lsub, 23, 0, 0)), (23, (.lstore_n 3, 24, 0, 0)), (24, (.lload_n 3, 25, 0, 0)), (25, (.lconst 0, 26, 0, 0)), (26, (.lcmp, 30, 33, 1)), (27, (.ifCond .ne 6, 30, 33, 0)), (30, (.goto 18, 33, 48, 0))],
   [(33, (.aload_n 0, 34, 0, 0)), (34, (.iconst 2, 35, 0, 8)), (35, (.lload_n 3, 36, 0, 0)), (36, (.aload_n 0, 37, 0, 0)), (37, (.iload_n 2, 38, 0, 0)), (38, (.invokevirtual 164, 41, 0, 287)), (41, (.iload_n 2, 42, 0, 0)), (42, (.invokevirtual 168, 45, 0, 277)), (45, (.iinc 1 1, 48, 0, 3))],
   [(48, (.iinc 2 1, 51, 0, 3)), (51, (.goto (-47), 54, 4, 0)), (54, (.iload_n 1, 55, 0, 0)), (55, (.ireturn, 56, 0, 0))]])
noncomputable def p_M_bookedOf : mRec := (5, 2, 2, 12, false, [5],
  [[(0, (.lconst 0, 1, 0, 0)), (1, (.lstore_n 2, 2, 0, 0)), (2, (.iconst 0, 3, 0, 4)), (3, (.istore 4, 5, 0, 0)), (5, (.iload 4, 7, 0, 0)), (7, (.aload_n 0, 8, 0, 0)), (8, (.getfield 108, 11, 19, 723)), (11, (.if_icmp .ge 52, 14, 63, 0)), (14, (.aload_n 0, 15, 0, 0)), (15, (.getfield 43, 18, 14, 718))],
   [(18, (.iload 4, 20, 0, 0)), (20, (.iaload, 21, 0, 0)), (21, (.iconst 1, 22, 0, 3)), (22, (.if_icmp .eq 14, 25, 36, 0)), (25, (.aload_n 0, 26, 0, 0)), (26, (.getfield 43, 29, 14, 718)), (29, (.iload 4, 31, 0, 0)), (31, (.iaload, 32, 0, 0))],
   [(32, (.iconst 2, 33, 0, 8)), (33, (.if_icmp .ne 24, 36, 57, 0)), (36, (.aload_n 0, 37, 0, 0)), (37, (.getfield 56, 40, 18, 722)), (40, (.iload 4, 42, 0, 0)), (42, (.iaload, 43, 0, 0)), (43, (.iload_n 1, 44, 0, 0)), (44, (.if_icmp .ne 13, 47, 57, 0)), (47, (.lload_n 2, 48, 0, 0))],
   [(48, (.aload_n 0, 49, 0, 0)), (49, (.getfield 46, 52, 15, 719)), (52, (.iload 4, 54, 0, 0)), (54, (.laload, 55, 0, 0)), (55, (.ladd, 56, 0, 0)), (56, (.lstore_n 2, 57, 0, 0)), (57, (.iinc 4 1, 60, 0, 3)), (60, (.goto (-55), 63, 5, 0)), (63, (.lload_n 2, 64, 0, 0))],
   [(64, (.lreturn, 65, 0, 0))]])
noncomputable def p_M_paidEntry : mRec := (4, 1, 2, 12, false, [4],
  [[(0, (.iload_n 1, 1, 0, 0)), (1, (.istore_n 2, 2, 0, 0)), (2, (.iconst 0, 3, 0, 4)), (3, (.istore_n 3, 4, 0, 0)), (4, (.aload_n 0, 5, 0, 0)), (5, (.getfield 43, 8, 14, 718)), (8, (.iload_n 3, 9, 0, 0)), (9, (.iaload, 10, 0, 0)), (10, (.ifCond .ne 7, 13, 17, 0)), (13, (.iload_n 2, 14, 0, 0)), (14, (.ifCond .le 26, 17, 40, 0))],
   [(17, (.iload_n 2, 18, 0, 0)), (18, (.aload_n 0, 19, 0, 0)), (19, (.getfield 43, 22, 14, 718)), (22, (.iload_n 3, 23, 0, 0)), (23, (.iaload, 24, 0, 0)), (24, (.ifCond .ne 7, 27, 31, 0)), (27, (.iconst 1, 28, 0, 3)), (28, (.goto 4, 31, 32, 0)), (31, (.iconst 0, 32, 0, 4))],
   [(32, (.isub, 33, 0, 0)), (33, (.istore_n 2, 34, 0, 0)), (34, (.iinc 3 1, 37, 0, 3)), (37, (.goto (-33), 40, 4, 0)), (40, (.iload_n 3, 41, 0, 0)), (41, (.ireturn, 42, 0, 0))]])
noncomputable def p_M_doesAll : mRec := (2, 0, 1, 12, false, [6],
  [[(0, (.aload_n 0, 1, 0, 0)), (1, (.invokevirtual 191, 4, 0, 254)), (4, (.iconst 0, 5, 0, 4)), (5, (.istore_n 1, 6, 0, 0)), (6, (.iload_n 1, 7, 0, 0)), (7, (.aload_n 0, 8, 0, 0)), (8, (.getfield 11, 11, 1, 705)), (11, (.iconst 5, 12, 0, 27)), (12, (.iaload, 13, 0, 0)), (13, (.if_icmp .ge 15, 16, 28, 0))],
   [(16, (.aload_n 0, 17, 0, 0)), (17, (.iload_n 1, 18, 0, 0)), (18, (.invokevirtual 194, 21, 0, 275)), (21, (.pop, 22, 0, 0)), (22, (.iinc 1 1, 25, 0, 3)), (25, (.goto (-19), 28, 6, 0)), (28, (.return_, 29, 0, 0))]])
noncomputable def p_M_count : mRec := (2, 1, 2, 12, false, [],
  [[(0, (.iload_n 1, 1, 0, 0)), (1, (.tableswitch 113 0 9 #[55, 62, 69, 76, 81, 86, 91, 96, 101, 108], 56, 0, 11))],
   [],
   [],
   [(56, (.aload_n 0, 57, 0, 0)), (57, (.getfield 11, 60, 1, 705)), (60, (.iconst 0, 61, 0, 4)), (61, (.iaload, 62, 0, 0)), (62, (.ireturn, 63, 0, 0)), (63, (.aload_n 0, 64, 0, 0))],
   [(64, (.getfield 11, 67, 1, 705)), (67, (.iconst 1, 68, 0, 3)), (68, (.iaload, 69, 0, 0)), (69, (.ireturn, 70, 0, 0)), (70, (.aload_n 0, 71, 0, 0)), (71, (.getfield 11, 74, 1, 705)), (74, (.iconst 2, 75, 0, 8)), (75, (.iaload, 76, 0, 0)), (76, (.ireturn, 77, 0, 0)), (77, (.aload_n 0, 78, 0, 0)), (78, (.getfield 105, 81, 7, 711))],
   [(81, (.ireturn, 82, 0, 0)), (82, (.aload_n 0, 83, 0, 0)), (83, (.getfield 114, 86, 13, 717)), (86, (.ireturn, 87, 0, 0)), (87, (.aload_n 0, 88, 0, 0)), (88, (.getfield 108, 91, 19, 723)), (91, (.ireturn, 92, 0, 0)), (92, (.aload_n 0, 93, 0, 0)), (93, (.getfield 111, 96, 20, 724))],
   [(96, (.ireturn, 97, 0, 0)), (97, (.aload_n 0, 98, 0, 0)), (98, (.invokevirtual 336, 101, 0, 293)), (101, (.ireturn, 102, 0, 0)), (102, (.aload_n 0, 103, 0, 0)), (103, (.getfield 11, 106, 1, 705)), (106, (.iconst 3, 107, 0, 13)), (107, (.iaload, 108, 0, 0)), (108, (.ireturn, 109, 0, 0)), (109, (.aload_n 0, 110, 0, 0)), (110, (.getfield 197, 113, 26, 730))],
   [(113, (.ireturn, 114, 0, 0)), (114, (.iconst (-1), 115, 0, 1)), (115, (.ireturn, 116, 0, 0))]])
noncomputable def p_M_acts : mRec := (1, 1, 1, 12, false, [],
  [[(0, (.aload_n 0, 1, 0, 0)), (1, (.getfield 11, 4, 1, 705)), (4, (.iconst 5, 5, 0, 27)), (5, (.iaload, 6, 0, 0)), (6, (.aload_n 0, 7, 0, 0)), (7, (.getfield 11, 10, 1, 705)), (10, (.iconst 4, 11, 0, 14)), (11, (.iaload, 12, 0, 0)), (12, (.isub, 13, 0, 0)), (13, (.ireturn, 14, 0, 0))]])
noncomputable def p_M_entry : mRec := (4, 2, 3, 12, false, [],
  [[(0, (.aload_n 0, 1, 0, 0)), (1, (.iload_n 1, 2, 0, 0)), (2, (.invokevirtual 339, 5, 0, 295)), (5, (.ifCond .eq 15, 8, 20, 0)), (8, (.iload_n 2, 9, 0, 0)), (9, (.i2l, 10, 0, 0)), (10, (.lconst 0, 11, 0, 0)), (11, (.ldc2_w 343, 14, 0, 12)), (14, (.invokestatic 101, 17, 0, 250))],
   [(17, (.ifCond .ne 7, 20, 24, 0)), (20, (.ldc2_w 345, 23, 0, 3)), (23, (.lreturn, 24, 0, 0)), (24, (.aload_n 0, 25, 0, 0)), (25, (.getfield 43, 28, 14, 718)), (28, (.iload_n 1, 29, 0, 0)), (29, (.iaload, 30, 0, 0)), (30, (.istore_n 3, 31, 0, 0)), (31, (.iload_n 2, 32, 0, 0))],
   [(32, (.tableswitch 86 0 4 #[36, 39, 46, 54, 62], 68, 0, 12))],
   [],
   [(68, (.iload_n 3, 69, 0, 0)), (69, (.i2l, 70, 0, 0)), (70, (.lreturn, 71, 0, 0)), (71, (.aload_n 0, 72, 0, 0)), (72, (.getfield 46, 75, 15, 719)), (75, (.iload_n 1, 76, 0, 0)), (76, (.laload, 77, 0, 0)), (77, (.lreturn, 78, 0, 0)), (78, (.aload_n 0, 79, 0, 0)), (79, (.getfield 50, 82, 16, 720))],
   [(82, (.iload_n 1, 83, 0, 0)), (83, (.iaload, 84, 0, 0)), (84, (.i2l, 85, 0, 0)), (85, (.lreturn, 86, 0, 0)), (86, (.aload_n 0, 87, 0, 0)), (87, (.getfield 53, 90, 17, 721)), (90, (.iload_n 1, 91, 0, 0)), (91, (.iaload, 92, 0, 0)), (92, (.i2l, 93, 0, 0)), (93, (.lreturn, 94, 0, 0)), (94, (.iload_n 3, 95, 0, 0)), (95, (.iconst 1, 96, 0, 3))],
   [(96, (.if_icmp .eq 8, 99, 104, 0)), (99, (.iload_n 3, 100, 0, 0)), (100, (.iconst 2, 101, 0, 8)), (101, (.if_icmp .ne 13, 104, 114, 0)), (104, (.aload_n 0, 105, 0, 0)), (105, (.getfield 56, 108, 18, 722)), (108, (.iload_n 1, 109, 0, 0)), (109, (.iaload, 110, 0, 0)), (110, (.i2l, 111, 0, 0)), (111, (.goto 6, 114, 117, 0))],
   [(114, (.ldc2_w 347, 117, 0, 13)), (117, (.lreturn, 118, 0, 0)), (118, (.iload_n 3, 119, 0, 0)), (119, (.iconst 3, 120, 0, 13)), (120, (.if_icmp .ne 13, 123, 133, 0)), (123, (.aload_n 0, 124, 0, 0)), (124, (.getfield 56, 127, 18, 722)), (127, (.iload_n 1, 128, 0, 0))],
   [(128, (.iaload, 129, 0, 0)), (129, (.i2l, 130, 0, 0)), (130, (.goto 6, 133, 136, 0)), (133, (.ldc2_w 347, 136, 0, 13)), (136, (.lreturn, 137, 0, 0))]])
noncomputable def p_M_isEntry : mRec := (2, 3, 2, 12, false, [],
  [[(0, (.iload_n 1, 1, 0, 0)), (1, (.i2l, 2, 0, 0)), (2, (.lconst 0, 3, 0, 0)), (3, (.aload_n 0, 4, 0, 0)), (4, (.getfield 108, 7, 19, 723)), (7, (.iconst 1, 8, 0, 3)), (8, (.isub, 9, 0, 0)), (9, (.i2l, 10, 0, 0)), (10, (.invokestatic 101, 13, 0, 250)), (13, (.ireturn, 14, 0, 0))]])
noncomputable def p_M_sorted : mRec := (5, 1, 2, 12, false, [16, 29],
  [[(0, (.aload_n 0, 1, 0, 0)), (1, (.invokevirtual 349, 4, 0, 297)), (4, (.ifCond .eq 7, 7, 11, 0)), (7, (.iload_n 1, 8, 0, 0)), (8, (.ifCond .ge 6, 11, 14, 0)), (11, (.bipush (-2), 13, 0, 32)), (13, (.ireturn, 14, 0, 0)), (14, (.iconst 0, 15, 0, 4)), (15, (.istore_n 2, 16, 0, 0))],
   [(16, (.iload_n 2, 17, 0, 0)), (17, (.aload_n 0, 18, 0, 0)), (18, (.getfield 108, 21, 19, 723)), (21, (.if_icmp .ge 82, 24, 103, 0)), (24, (.iconst 0, 25, 0, 4)), (25, (.istore_n 3, 26, 0, 0)), (26, (.iconst 0, 27, 0, 4)), (27, (.istore 4, 29, 0, 0)), (29, (.iload 4, 31, 0, 0)), (31, (.aload_n 0, 32, 0, 0))],
   [(32, (.getfield 108, 35, 19, 723)), (35, (.if_icmp .ge 55, 38, 90, 0)), (38, (.iload_n 3, 39, 0, 0)), (39, (.aload_n 0, 40, 0, 0)), (40, (.getfield 50, 43, 16, 720)), (43, (.iload 4, 45, 0, 0)), (45, (.iaload, 46, 0, 0)), (46, (.aload_n 0, 47, 0, 0)), (47, (.getfield 50, 50, 16, 720))],
   [(50, (.iload_n 2, 51, 0, 0)), (51, (.iaload, 52, 0, 0)), (52, (.if_icmp .lt 25, 55, 77, 0)), (55, (.aload_n 0, 56, 0, 0)), (56, (.getfield 50, 59, 16, 720)), (59, (.iload 4, 61, 0, 0)), (61, (.iaload, 62, 0, 0)), (62, (.aload_n 0, 63, 0, 0)), (63, (.getfield 50, 66, 16, 720))],
   [(66, (.iload_n 2, 67, 0, 0)), (67, (.iaload, 68, 0, 0)), (68, (.if_icmp .ne 13, 71, 81, 0)), (71, (.iload 4, 73, 0, 0)), (73, (.iload_n 2, 74, 0, 0)), (74, (.if_icmp .ge 7, 77, 81, 0)), (77, (.iconst 1, 78, 0, 3)), (78, (.goto 4, 81, 82, 0))],
   [(81, (.iconst 0, 82, 0, 4)), (82, (.iadd, 83, 0, 0)), (83, (.istore_n 3, 84, 0, 0)), (84, (.iinc 4 1, 87, 0, 3)), (87, (.goto (-58), 90, 29, 0)), (90, (.iload_n 3, 91, 0, 0)), (91, (.iload_n 1, 92, 0, 0)), (92, (.if_icmp .ne 5, 95, 97, 0)), (95, (.iload_n 2, 96, 0, 0))],
   [(96, (.ireturn, 97, 0, 0)), (97, (.iinc 2 1, 100, 0, 3)), (100, (.goto (-84), 103, 16, 0)), (103, (.iconst (-1), 104, 0, 1)), (104, (.ireturn, 105, 0, 0))]])
noncomputable def p_M_isBook : mRec := (1, 3, 1, 12, false, [],
  [[(0, (.aload_n 0, 1, 0, 0)), (1, (.getfield 11, 4, 1, 705)), (4, (.iconst 3, 5, 0, 13)), (5, (.iaload, 6, 0, 0)), (6, (.ifCond .le 7, 9, 13, 0)), (9, (.iconst 1, 10, 0, 3)), (10, (.goto 4, 13, 14, 0)), (13, (.iconst 0, 14, 0, 4)), (14, (.ireturn, 15, 0, 0))]])
noncomputable def p_M_rate : mRec := (3, 1, 3, 12, false, [],
  [[(0, (.aload_n 0, 1, 0, 0)), (1, (.iload_n 1, 2, 0, 0)), (2, (.invokevirtual 352, 5, 0, 299)), (5, (.ifCond .eq 20, 8, 25, 0)), (8, (.aload_n 0, 9, 0, 0)), (9, (.iload_n 2, 10, 0, 0)), (10, (.invokevirtual 355, 13, 0, 300)), (13, (.ifCond .eq 12, 16, 25, 0))],
   [(16, (.aload_n 0, 17, 0, 0)), (17, (.iload_n 1, 18, 0, 0)), (18, (.iload_n 2, 19, 0, 0)), (19, (.invokevirtual 127, 22, 0, 284)), (22, (.goto 4, 25, 26, 0)), (25, (.iconst (-1), 26, 0, 1)), (26, (.ireturn, 27, 0, 0))]])
noncomputable def p_M_isTier : mRec := (2, 3, 2, 12, false, [],
  [[(0, (.iload_n 1, 1, 0, 0)), (1, (.i2l, 2, 0, 0)), (2, (.lconst 0, 3, 0, 0)), (3, (.aload_n 0, 4, 0, 0)), (4, (.getfield 105, 7, 7, 711)), (7, (.iconst 1, 8, 0, 3)), (8, (.isub, 9, 0, 0)), (9, (.i2l, 10, 0, 0)), (10, (.invokestatic 101, 13, 0, 250)), (13, (.ireturn, 14, 0, 0))]])
noncomputable def p_M_isDay : mRec := (2, 3, 2, 12, false, [],
  [[(0, (.iload_n 1, 1, 0, 0)), (1, (.i2l, 2, 0, 0)), (2, (.lconst 0, 3, 0, 0)), (3, (.aload_n 0, 4, 0, 0)), (4, (.invokevirtual 97, 7, 0, 270)), (7, (.iconst 1, 8, 0, 3)), (8, (.isub, 9, 0, 0)), (9, (.i2l, 10, 0, 0)), (10, (.invokestatic 101, 13, 0, 250)), (13, (.ireturn, 14, 0, 0))]])
noncomputable def p_M_owing : mRec := (3, 1, 3, 12, false, [],
  [[(0, (.aload_n 0, 1, 0, 0)), (1, (.iload_n 1, 2, 0, 0)), (2, (.invokevirtual 355, 5, 0, 300)), (5, (.ifCond .eq 26, 8, 31, 0)), (8, (.iload_n 2, 9, 0, 0)), (9, (.i2l, 10, 0, 0)), (10, (.lconst 0, 11, 0, 0)), (11, (.ldc2_w 139, 14, 0, 10)), (14, (.invokestatic 101, 17, 0, 250))],
   [(17, (.ifCond .eq 14, 20, 31, 0)), (20, (.aload_n 0, 21, 0, 0)), (21, (.iconst 4, 22, 0, 14)), (22, (.iload_n 2, 23, 0, 0)), (23, (.iadd, 24, 0, 0)), (24, (.iload_n 1, 25, 0, 0)), (25, (.invokevirtual 127, 28, 0, 284)), (28, (.goto 4, 31, 32, 0)), (31, (.iconst (-1), 32, 0, 1))],
   [(32, (.ireturn, 33, 0, 0))]])
noncomputable def p_M_balance : mRec := (2, 2, 2, 12, false, [],
  [[(0, (.aload_n 0, 1, 0, 0)), (1, (.iload_n 1, 2, 0, 0)), (2, (.invokevirtual 355, 5, 0, 300)), (5, (.ifCond .ne 7, 8, 12, 0)), (8, (.ldc2_w 345, 11, 0, 3)), (11, (.lreturn, 12, 0, 0)), (12, (.aload_n 0, 13, 0, 0)), (13, (.invokevirtual 155, 16, 0, 280))],
   [(16, (.aload_n 0, 17, 0, 0)), (17, (.getfield 66, 20, 24, 728)), (20, (.iload_n 1, 21, 0, 0)), (21, (.laload, 22, 0, 0)), (22, (.lreturn, 23, 0, 0))]])
noncomputable def p_M_part : mRec := (3, 2, 3, 12, false, [],
  [[(0, (.aload_n 0, 1, 0, 0)), (1, (.iload_n 1, 2, 0, 0)), (2, (.invokevirtual 355, 5, 0, 300)), (5, (.ifCond .eq 19, 8, 24, 0)), (8, (.iload_n 2, 9, 0, 0)), (9, (.i2l, 10, 0, 0)), (10, (.lconst 0, 11, 0, 0)), (11, (.aload_n 0, 12, 0, 0)), (12, (.getfield 105, 15, 7, 711)), (15, (.iconst 2, 16, 0, 8))],
   [(16, (.iadd, 17, 0, 0)), (17, (.i2l, 18, 0, 0)), (18, (.invokestatic 101, 21, 0, 250)), (21, (.ifCond .ne 7, 24, 28, 0)), (24, (.ldc2_w 345, 27, 0, 3)), (27, (.lreturn, 28, 0, 0)), (28, (.aload_n 0, 29, 0, 0)), (29, (.invokevirtual 155, 32, 0, 280))],
   [(32, (.iload_n 2, 33, 0, 0)), (33, (.aload_n 0, 34, 0, 0)), (34, (.getfield 105, 37, 7, 711)), (37, (.if_icmp .ne 23, 40, 60, 0)), (40, (.aload_n 0, 41, 0, 0)), (41, (.getfield 105, 44, 7, 711)), (44, (.ifCond .ne 16, 47, 60, 0)), (47, (.lconst 0, 48, 0, 0))],
   [(48, (.aload_n 0, 49, 0, 0)), (49, (.getfield 66, 52, 24, 728)), (52, (.iload_n 1, 53, 0, 0)), (53, (.laload, 54, 0, 0)), (54, (.invokestatic 133, 57, 0, 9004)), (57, (.goto 9, 60, 66, 0)), (60, (.aload_n 0, 61, 0, 0)), (61, (.iload_n 1, 62, 0, 0)), (62, (.iload_n 2, 63, 0, 0)), (63, (.invokevirtual 135, 66, 0, 283))],
   [(66, (.lreturn, 67, 0, 0))]])
noncomputable def p_M_product : mRec := (2, 2, 2, 12, false, [],
  [[(0, (.aload_n 0, 1, 0, 0)), (1, (.iload_n 1, 2, 0, 0)), (2, (.invokevirtual 355, 5, 0, 300)), (5, (.ifCond .ne 7, 8, 12, 0)), (8, (.ldc2_w 345, 11, 0, 3)), (11, (.lreturn, 12, 0, 0)), (12, (.aload_n 0, 13, 0, 0)), (13, (.invokevirtual 155, 16, 0, 280))],
   [(16, (.aload_n 0, 17, 0, 0)), (17, (.iload_n 1, 18, 0, 0)), (18, (.invokevirtual 145, 21, 0, 282)), (21, (.aload_n 0, 22, 0, 0)), (22, (.iload_n 1, 23, 0, 0)), (23, (.invokevirtual 149, 26, 0, 285)), (26, (.lsub, 27, 0, 0)), (27, (.lreturn, 28, 0, 0))]])
noncomputable def p_M_products : mRec := (6, 2, 3, 12, false, [38],
  [[(0, (.aload_n 0, 1, 0, 0)), (1, (.iload_n 1, 2, 0, 0)), (2, (.invokevirtual 358, 5, 0, 306)), (5, (.ifCond .eq 13, 8, 18, 0)), (8, (.iload_n 2, 9, 0, 0)), (9, (.i2l, 10, 0, 0)), (10, (.lconst 0, 11, 0, 0)), (11, (.lconst 1, 12, 0, 14)), (12, (.invokestatic 101, 15, 0, 250)), (15, (.ifCond .ne 7, 18, 22, 0))],
   [(18, (.ldc2_w 345, 21, 0, 3)), (21, (.lreturn, 22, 0, 0)), (22, (.aload_n 0, 23, 0, 0)), (23, (.invokevirtual 155, 26, 0, 280)), (26, (.lconst 0, 27, 0, 0)), (27, (.lstore_n 3, 28, 0, 0)), (28, (.aload_n 0, 29, 0, 0)), (29, (.getfield 11, 32, 1, 705))],
   [(32, (.iconst 0, 33, 0, 4)), (33, (.iaload, 34, 0, 0)), (34, (.iload_n 1, 35, 0, 0)), (35, (.imul, 36, 0, 0)), (36, (.istore 5, 38, 0, 0)), (38, (.iload 5, 40, 0, 0)), (40, (.aload_n 0, 41, 0, 0)), (41, (.getfield 11, 44, 1, 705)), (44, (.iconst 0, 45, 0, 4)), (45, (.iaload, 46, 0, 0)), (46, (.iload_n 1, 47, 0, 0)), (47, (.iconst 1, 48, 0, 3))],
   [(48, (.iadd, 49, 0, 0)), (49, (.imul, 50, 0, 0)), (50, (.if_icmp .ge 31, 53, 81, 0)), (53, (.lload_n 3, 54, 0, 0)), (54, (.iload_n 2, 55, 0, 0)), (55, (.ifCond .ne 12, 58, 67, 0)), (58, (.aload_n 0, 59, 0, 0)), (59, (.iload 5, 61, 0, 0)), (61, (.invokevirtual 145, 64, 0, 282))],
   [(64, (.goto 9, 67, 73, 0)), (67, (.aload_n 0, 68, 0, 0)), (68, (.iload 5, 70, 0, 0)), (70, (.invokevirtual 149, 73, 0, 285)), (73, (.ladd, 74, 0, 0)), (74, (.lstore_n 3, 75, 0, 0)), (75, (.iinc 5 1, 78, 0, 3)), (78, (.goto (-40), 81, 38, 0))],
   [(81, (.lload_n 3, 82, 0, 0)), (82, (.lreturn, 83, 0, 0))]])
noncomputable def p_M_isPeriod : mRec := (2, 3, 2, 12, false, [],
  [[(0, (.iload_n 1, 1, 0, 0)), (1, (.i2l, 2, 0, 0)), (2, (.lconst 0, 3, 0, 0)), (3, (.aload_n 0, 4, 0, 0)), (4, (.getfield 11, 7, 1, 705)), (7, (.iconst 1, 8, 0, 3)), (8, (.iaload, 9, 0, 0)), (9, (.iconst 1, 10, 0, 3)), (10, (.isub, 11, 0, 0)), (11, (.i2l, 12, 0, 0)), (12, (.invokestatic 101, 15, 0, 250)), (15, (.ireturn, 16, 0, 0))]])
noncomputable def p_M_fresh : mRec := (2, 2, 2, 12, false, [],
  [[(0, (.aload_n 0, 1, 0, 0)), (1, (.iload_n 1, 2, 0, 0)), (2, (.invokevirtual 358, 5, 0, 306)), (5, (.ifCond .eq 11, 8, 16, 0)), (8, (.aload_n 0, 9, 0, 0)), (9, (.iload_n 1, 10, 0, 0)), (10, (.invokevirtual 161, 13, 0, 279)), (13, (.goto 6, 16, 19, 0))],
   [(16, (.ldc2_w 345, 19, 0, 3)), (19, (.lreturn, 20, 0, 0))]])
noncomputable def p_M_booked : mRec := (2, 2, 2, 12, false, [],
  [[(0, (.aload_n 0, 1, 0, 0)), (1, (.iload_n 1, 2, 0, 0)), (2, (.invokevirtual 358, 5, 0, 306)), (5, (.ifCond .eq 11, 8, 16, 0)), (8, (.aload_n 0, 9, 0, 0)), (9, (.iload_n 1, 10, 0, 0)), (10, (.invokevirtual 172, 13, 0, 289)), (13, (.goto 6, 16, 19, 0))],
   [(16, (.ldc2_w 345, 19, 0, 3)), (19, (.lreturn, 20, 0, 0))]])
noncomputable def p_M_wrong : mRec := (2, 2, 2, 12, false, [],
  [[(0, (.aload_n 0, 1, 0, 0)), (1, (.iload_n 1, 2, 0, 0)), (2, (.invokevirtual 358, 5, 0, 306)), (5, (.ifCond .eq 11, 8, 16, 0)), (8, (.aload_n 0, 9, 0, 0)), (9, (.iload_n 1, 10, 0, 0)), (10, (.invokevirtual 361, 13, 0, 310)), (13, (.goto 6, 16, 19, 0))],
   [(16, (.ldc2_w 345, 19, 0, 3)), (19, (.lreturn, 20, 0, 0))]])
noncomputable def p_M_wrongOf : mRec := (2, 2, 2, 12, false, [],
  [[(0, (.iload_n 1, 1, 0, 0)), (1, (.aload_n 0, 2, 0, 0)), (2, (.getfield 111, 5, 20, 724)), (5, (.if_icmp .ge 17, 8, 22, 0)), (8, (.aload_n 0, 9, 0, 0)), (9, (.iload_n 1, 10, 0, 0)), (10, (.invokevirtual 161, 13, 0, 279)), (13, (.aload_n 0, 14, 0, 0)), (14, (.iload_n 1, 15, 0, 0)), (15, (.invokevirtual 172, 18, 0, 289))],
   [(18, (.lsub, 19, 0, 0)), (19, (.goto 4, 22, 23, 0)), (22, (.lconst 0, 23, 0, 0)), (23, (.lreturn, 24, 0, 0))]])
noncomputable def p_M_compounds : mRec := (2, 1, 2, 12, false, [],
  [[(0, (.aload_n 0, 1, 0, 0)), (1, (.iload_n 1, 2, 0, 0)), (2, (.invokevirtual 358, 5, 0, 306)), (5, (.ifCond .eq 11, 8, 16, 0)), (8, (.aload_n 0, 9, 0, 0)), (9, (.iload_n 1, 10, 0, 0)), (10, (.invokevirtual 164, 13, 0, 287)), (13, (.goto 4, 16, 17, 0))],
   [(16, (.iconst (-1), 17, 0, 1)), (17, (.ireturn, 18, 0, 0))]])
noncomputable def p_M_page : mRec := (9, 2, 3, 12, false, [29],
  [[(0, (.aload_n 0, 1, 0, 0)), (1, (.iload_n 1, 2, 0, 0)), (2, (.invokevirtual 358, 5, 0, 306)), (5, (.ifCond .eq 15, 8, 20, 0)), (8, (.iload_n 2, 9, 0, 0)), (9, (.i2l, 10, 0, 0)), (10, (.lconst 0, 11, 0, 0)), (11, (.ldc2_w 364, 14, 0, 15)), (14, (.invokestatic 101, 17, 0, 250))],
   [(17, (.ifCond .ne 7, 20, 24, 0)), (20, (.ldc2_w 345, 23, 0, 3)), (23, (.lreturn, 24, 0, 0)), (24, (.lconst 0, 25, 0, 0)), (25, (.lstore_n 3, 26, 0, 0)), (26, (.iconst 0, 27, 0, 4)), (27, (.istore 5, 29, 0, 0)), (29, (.iload 5, 31, 0, 0)), (31, (.aload_n 0, 32, 0, 0))],
   [(32, (.getfield 108, 35, 19, 723)), (35, (.if_icmp .ge 241, 38, 276, 0)), (38, (.aload_n 0, 39, 0, 0)), (39, (.getfield 53, 42, 17, 721)), (42, (.iload 5, 44, 0, 0)), (44, (.iaload, 45, 0, 0)), (45, (.iload_n 1, 46, 0, 0)), (46, (.if_icmp .ne 7, 49, 53, 0))],
   [(49, (.iconst 1, 50, 0, 3)), (50, (.goto 4, 53, 54, 0)), (53, (.iconst 0, 54, 0, 4)), (54, (.istore 6, 56, 0, 0)), (56, (.aload_n 0, 57, 0, 0)), (57, (.getfield 46, 60, 15, 719)), (60, (.iload 5, 62, 0, 0)), (62, (.laload, 63, 0, 0)), (63, (.lstore 7, 65, 0, 0))],
   [(65, (.iload_n 2, 66, 0, 0)), (66, (.tableswitch 177 0 7 #[46, 69, 103, 177, 177, 177, 138, 161], 112, 0, 13))],
   [],
   [],
   [(112, (.lload_n 3, 113, 0, 0)), (113, (.aload_n 0, 114, 0, 0)), (114, (.getfield 53, 117, 17, 721)), (117, (.iload 5, 119, 0, 0)), (119, (.iaload, 120, 0, 0)), (120, (.iload_n 1, 121, 0, 0)), (121, (.if_icmp .ge 8, 124, 129, 0)), (124, (.lload 7, 126, 0, 0)), (126, (.goto 4, 129, 130, 0))],
   [(129, (.lconst 0, 130, 0, 0)), (130, (.ladd, 131, 0, 0)), (131, (.lstore_n 3, 132, 0, 0)), (132, (.goto 138, 135, 270, 0)), (135, (.lload_n 3, 136, 0, 0)), (136, (.iload 6, 138, 0, 0)), (138, (.ifCond .eq 25, 141, 163, 0)), (141, (.aload_n 0, 142, 0, 0)), (142, (.getfield 43, 145, 14, 718))],
   [(145, (.iload 5, 147, 0, 0)), (147, (.iaload, 148, 0, 0)), (148, (.ifCond .ne 15, 151, 163, 0)), (151, (.lload 7, 153, 0, 0)), (153, (.lconst 0, 154, 0, 0)), (154, (.lcmp, 158, 163, 5)), (155, (.ifCond .le 8, 158, 163, 0)), (158, (.lload 7, 160, 0, 0))],
   [(160, (.goto 4, 163, 164, 0)), (163, (.lconst 0, 164, 0, 0)), (164, (.ladd, 165, 0, 0)), (165, (.lstore_n 3, 166, 0, 0)), (166, (.goto 104, 169, 270, 0)), (169, (.lload_n 3, 170, 0, 0)), (170, (.iload 6, 172, 0, 0)), (172, (.ifCond .eq 26, 175, 198, 0)), (175, (.aload_n 0, 176, 0, 0))],
   [(176, (.getfield 43, 179, 14, 718)), (179, (.iload 5, 181, 0, 0)), (181, (.iaload, 182, 0, 0)), (182, (.ifCond .ne 16, 185, 198, 0)), (185, (.lload 7, 187, 0, 0)), (187, (.lconst 0, 188, 0, 0)), (188, (.lcmp, 192, 198, 3)), (189, (.ifCond .ge 9, 192, 198, 0))],
   [(192, (.lload 7, 194, 0, 0)), (194, (.lneg, 195, 0, 0)), (195, (.goto 4, 198, 199, 0)), (198, (.lconst 0, 199, 0, 0)), (199, (.ladd, 200, 0, 0)), (200, (.lstore_n 3, 201, 0, 0)), (201, (.goto 69, 204, 270, 0)), (204, (.lload_n 3, 205, 0, 0)), (205, (.aload_n 0, 206, 0, 0)), (206, (.getfield 53, 209, 17, 721))],
   [(209, (.iload 5, 211, 0, 0)), (211, (.iaload, 212, 0, 0)), (212, (.iload_n 1, 213, 0, 0)), (213, (.if_icmp .gt 8, 216, 221, 0)), (216, (.lload 7, 218, 0, 0)), (218, (.goto 4, 221, 222, 0)), (221, (.lconst 0, 222, 0, 0)), (222, (.ladd, 223, 0, 0)), (223, (.lstore_n 3, 224, 0, 0))],
   [(224, (.goto 46, 227, 270, 0)), (227, (.lload_n 3, 228, 0, 0)), (228, (.iload 6, 230, 0, 0)), (230, (.ifCond .eq 7, 233, 237, 0)), (233, (.lconst 1, 234, 0, 14)), (234, (.goto 4, 237, 238, 0)), (237, (.lconst 0, 238, 0, 0)), (238, (.ladd, 239, 0, 0)), (239, (.lstore_n 3, 240, 0, 0))],
   [(240, (.goto 30, 243, 270, 0)), (243, (.lload_n 3, 244, 0, 0)), (244, (.iload 6, 246, 0, 0)), (246, (.ifCond .eq 21, 249, 267, 0)), (249, (.aload_n 0, 250, 0, 0)), (250, (.getfield 43, 253, 14, 718)), (253, (.iload 5, 255, 0, 0)), (255, (.iaload, 256, 0, 0))],
   [(256, (.iload_n 2, 257, 0, 0)), (257, (.iconst 2, 258, 0, 8)), (258, (.isub, 259, 0, 0)), (259, (.if_icmp .ne 8, 262, 267, 0)), (262, (.lload 7, 264, 0, 0)), (264, (.goto 4, 267, 268, 0)), (267, (.lconst 0, 268, 0, 0)), (268, (.ladd, 269, 0, 0)), (269, (.lstore_n 3, 270, 0, 0)), (270, (.iinc 5 1, 273, 0, 3))],
   [(273, (.goto (-244), 276, 29, 0)), (276, (.lload_n 3, 277, 0, 0)), (277, (.lreturn, 278, 0, 0))]])
noncomputable def p_M_line : mRec := (5, 1, 3, 12, false, [20],
  [[(0, (.aload_n 0, 1, 0, 0)), (1, (.iload_n 1, 2, 0, 0)), (2, (.invokevirtual 358, 5, 0, 306)), (5, (.ifCond .eq 7, 8, 12, 0)), (8, (.iload_n 2, 9, 0, 0)), (9, (.ifCond .ge 6, 12, 15, 0)), (12, (.bipush (-2), 14, 0, 32)), (14, (.ireturn, 15, 0, 0)), (15, (.iload_n 2, 16, 0, 0))],
   [(16, (.istore_n 3, 17, 0, 0)), (17, (.iconst 0, 18, 0, 4)), (18, (.istore 4, 20, 0, 0)), (20, (.iload 4, 22, 0, 0)), (22, (.aload_n 0, 23, 0, 0)), (23, (.getfield 108, 26, 19, 723)), (26, (.if_icmp .ge 33, 29, 59, 0)), (29, (.aload_n 0, 30, 0, 0)), (30, (.getfield 53, 33, 17, 721))],
   [(33, (.iload 4, 35, 0, 0)), (35, (.iaload, 36, 0, 0)), (36, (.iload_n 1, 37, 0, 0)), (37, (.if_icmp .eq 6, 40, 43, 0)), (40, (.goto 13, 43, 53, 0)), (43, (.iload_n 3, 44, 0, 0)), (44, (.ifCond .ne 6, 47, 50, 0)), (47, (.iload 4, 49, 0, 0))],
   [(49, (.ireturn, 50, 0, 0)), (50, (.iinc 3 (-1), 53, 0, 1)), (53, (.iinc 4 1, 56, 0, 3)), (56, (.goto (-36), 59, 20, 0)), (59, (.iconst (-1), 60, 0, 1)), (60, (.ireturn, 61, 0, 0))]])
noncomputable def p_M_steps : mRec := (1, 1, 1, 12, false, [],
  [[(0, (.aload_n 0, 1, 0, 0)), (1, (.invokevirtual 349, 4, 0, 297)), (4, (.ifCond .eq 11, 7, 15, 0)), (7, (.aload_n 0, 8, 0, 0)), (8, (.iconst (-1), 9, 0, 1)), (9, (.invokevirtual 366, 12, 0, 315)), (12, (.goto 5, 15, 17, 0)), (15, (.bipush (-2), 17, 0, 32))],
   [(17, (.ireturn, 18, 0, 0))]])
noncomputable def p_M_stepBy : mRec := (4, 1, 2, 12, false, [8],
  [[(0, (.aload_n 0, 1, 0, 0)), (1, (.invokevirtual 155, 4, 0, 280)), (4, (.iconst 0, 5, 0, 4)), (5, (.istore_n 2, 6, 0, 0)), (6, (.iconst 1, 7, 0, 3)), (7, (.istore_n 3, 8, 0, 0)), (8, (.iload_n 3, 9, 0, 0)), (9, (.aload_n 0, 10, 0, 0)), (10, (.invokevirtual 97, 13, 0, 270)), (13, (.if_icmp .ge 40, 16, 53, 0))],
   [(16, (.aload_n 0, 17, 0, 0)), (17, (.getfield 66, 20, 24, 728)), (20, (.iload_n 3, 21, 0, 0)), (21, (.laload, 22, 0, 0)), (22, (.aload_n 0, 23, 0, 0)), (23, (.getfield 66, 26, 24, 728)), (26, (.iload_n 3, 27, 0, 0)), (27, (.iconst 1, 28, 0, 3)), (28, (.isub, 29, 0, 0)), (29, (.laload, 30, 0, 0)), (30, (.lcmp, 34, 37, 1)), (31, (.ifCond .ne 6, 34, 37, 0))],
   [(34, (.goto 13, 37, 47, 0)), (37, (.iload_n 2, 38, 0, 0)), (38, (.iload_n 1, 39, 0, 0)), (39, (.if_icmp .ne 5, 42, 44, 0)), (42, (.iload_n 3, 43, 0, 0)), (43, (.ireturn, 44, 0, 0)), (44, (.iinc 2 1, 47, 0, 3)), (47, (.iinc 3 1, 50, 0, 3))],
   [(50, (.goto (-42), 53, 8, 0)), (53, (.iload_n 1, 54, 0, 0)), (54, (.ifCond .ge 7, 57, 61, 0)), (57, (.iload_n 2, 58, 0, 0)), (58, (.goto 4, 61, 62, 0)), (61, (.iconst (-1), 62, 0, 1)), (62, (.ireturn, 63, 0, 0))]])
noncomputable def p_M_step : mRec := (2, 1, 2, 12, false, [],
  [[(0, (.aload_n 0, 1, 0, 0)), (1, (.invokevirtual 349, 4, 0, 297)), (4, (.ifCond .eq 15, 7, 19, 0)), (7, (.iload_n 1, 8, 0, 0)), (8, (.ifCond .lt 11, 11, 19, 0)), (11, (.aload_n 0, 12, 0, 0)), (12, (.iload_n 1, 13, 0, 0)), (13, (.invokevirtual 366, 16, 0, 315))],
   [(16, (.goto 5, 19, 21, 0)), (19, (.bipush (-2), 21, 0, 32)), (21, (.ireturn, 22, 0, 0))]])
noncomputable def p_M_lowest : mRec := (4, 2, 1, 12, false, [24],
  [[(0, (.aload_n 0, 1, 0, 0)), (1, (.invokevirtual 349, 4, 0, 297)), (4, (.ifCond .ne 7, 7, 11, 0)), (7, (.ldc2_w 345, 10, 0, 3)), (10, (.lreturn, 11, 0, 0)), (11, (.aload_n 0, 12, 0, 0)), (12, (.invokevirtual 155, 15, 0, 280)), (15, (.aload_n 0, 16, 0, 0))],
   [(16, (.getfield 66, 19, 24, 728)), (19, (.iconst 0, 20, 0, 4)), (20, (.laload, 21, 0, 0)), (21, (.lstore_n 1, 22, 0, 0)), (22, (.iconst 1, 23, 0, 3)), (23, (.istore_n 3, 24, 0, 0)), (24, (.iload_n 3, 25, 0, 0)), (25, (.aload_n 0, 26, 0, 0)), (26, (.invokevirtual 97, 29, 0, 270)), (29, (.if_icmp .ge 20, 32, 49, 0))],
   [(32, (.lload_n 1, 33, 0, 0)), (33, (.aload_n 0, 34, 0, 0)), (34, (.getfield 66, 37, 24, 728)), (37, (.iload_n 3, 38, 0, 0)), (38, (.laload, 39, 0, 0)), (39, (.invokestatic 130, 42, 0, 9005)), (42, (.lstore_n 1, 43, 0, 0)), (43, (.iinc 3 1, 46, 0, 3)), (46, (.goto (-22), 49, 24, 0))],
   [(49, (.lload_n 1, 50, 0, 0)), (50, (.lreturn, 51, 0, 0))]])
noncomputable def p_M_beyond : mRec := (3, 1, 1, 12, false, [18],
  [[(0, (.aload_n 0, 1, 0, 0)), (1, (.invokevirtual 349, 4, 0, 297)), (4, (.ifCond .ne 6, 7, 10, 0)), (7, (.bipush (-2), 9, 0, 32)), (9, (.ireturn, 10, 0, 0)), (10, (.aload_n 0, 11, 0, 0)), (11, (.invokevirtual 155, 14, 0, 280)), (14, (.iconst 0, 15, 0, 4)), (15, (.istore_n 1, 16, 0, 0))],
   [(16, (.iconst 0, 17, 0, 4)), (17, (.istore_n 2, 18, 0, 0)), (18, (.iload_n 2, 19, 0, 0)), (19, (.aload_n 0, 20, 0, 0)), (20, (.invokevirtual 97, 23, 0, 270)), (23, (.if_icmp .ge 25, 26, 48, 0)), (26, (.iload_n 1, 27, 0, 0)), (27, (.aload_n 0, 28, 0, 0)), (28, (.iload_n 2, 29, 0, 0)), (29, (.invokevirtual 369, 32, 0, 319))],
   [(32, (.ifCond .eq 7, 35, 39, 0)), (35, (.iconst 1, 36, 0, 3)), (36, (.goto 4, 39, 40, 0)), (39, (.iconst 0, 40, 0, 4)), (40, (.iadd, 41, 0, 0)), (41, (.istore_n 1, 42, 0, 0)), (42, (.iinc 2 1, 45, 0, 3)), (45, (.goto (-27), 48, 18, 0))],
   [(48, (.iload_n 1, 49, 0, 0)), (49, (.ireturn, 50, 0, 0))]])
noncomputable def p_M_isBeyond : mRec := (2, 3, 2, 12, false, [],
  [[(0, (.aload_n 0, 1, 0, 0)), (1, (.getfield 66, 4, 24, 728)), (4, (.iload_n 1, 5, 0, 0)), (5, (.laload, 6, 0, 0)), (6, (.lneg, 7, 0, 0)), (7, (.aload_n 0, 8, 0, 0)), (8, (.bipush 6, 10, 0, 26)), (10, (.iload_n 1, 11, 0, 0)), (11, (.invokevirtual 127, 14, 0, 284)), (14, (.i2l, 15, 0, 0)), (15, (.lcmp, 19, 23, 5))],
   [(16, (.ifCond .le 7, 19, 23, 0)), (19, (.iconst 1, 20, 0, 3)), (20, (.goto 4, 23, 24, 0)), (23, (.iconst 0, 24, 0, 4)), (24, (.ireturn, 25, 0, 0))]])
noncomputable def p_M_firstBeyond : mRec := (2, 1, 1, 12, false, [16],
  [[(0, (.aload_n 0, 1, 0, 0)), (1, (.invokevirtual 349, 4, 0, 297)), (4, (.ifCond .ne 6, 7, 10, 0)), (7, (.bipush (-2), 9, 0, 32)), (9, (.ireturn, 10, 0, 0)), (10, (.aload_n 0, 11, 0, 0)), (11, (.invokevirtual 155, 14, 0, 280)), (14, (.iconst 0, 15, 0, 4)), (15, (.istore_n 1, 16, 0, 0))],
   [(16, (.iload_n 1, 17, 0, 0)), (17, (.aload_n 0, 18, 0, 0)), (18, (.invokevirtual 97, 21, 0, 270)), (21, (.if_icmp .ge 19, 24, 40, 0)), (24, (.aload_n 0, 25, 0, 0)), (25, (.iload_n 1, 26, 0, 0)), (26, (.invokevirtual 369, 29, 0, 319)), (29, (.ifCond .eq 5, 32, 34, 0))],
   [(32, (.iload_n 1, 33, 0, 0)), (33, (.ireturn, 34, 0, 0)), (34, (.iinc 1 1, 37, 0, 3)), (37, (.goto (-21), 40, 16, 0)), (40, (.iconst (-1), 41, 0, 1)), (41, (.ireturn, 42, 0, 0))]])
noncomputable def p_M_mean : mRec := (7, 2, 3, 12, false, [38],
  [[(0, (.aload_n 0, 1, 0, 0)), (1, (.iload_n 1, 2, 0, 0)), (2, (.invokevirtual 358, 5, 0, 306)), (5, (.ifCond .eq 13, 8, 18, 0)), (8, (.iload_n 2, 9, 0, 0)), (9, (.i2l, 10, 0, 0)), (10, (.lconst 0, 11, 0, 0)), (11, (.lconst 1, 12, 0, 14)), (12, (.invokestatic 101, 15, 0, 250)), (15, (.ifCond .ne 7, 18, 22, 0))],
   [(18, (.ldc2_w 345, 21, 0, 3)), (21, (.lreturn, 22, 0, 0)), (22, (.aload_n 0, 23, 0, 0)), (23, (.invokevirtual 155, 26, 0, 280)), (26, (.lconst 0, 27, 0, 0)), (27, (.lstore_n 3, 28, 0, 0)), (28, (.aload_n 0, 29, 0, 0)), (29, (.getfield 11, 32, 1, 705))],
   [(32, (.iconst 0, 33, 0, 4)), (33, (.iaload, 34, 0, 0)), (34, (.iload_n 1, 35, 0, 0)), (35, (.imul, 36, 0, 0)), (36, (.istore 5, 38, 0, 0)), (38, (.iload 5, 40, 0, 0)), (40, (.aload_n 0, 41, 0, 0)), (41, (.getfield 11, 44, 1, 705)), (44, (.iconst 0, 45, 0, 4)), (45, (.iaload, 46, 0, 0)), (46, (.iload_n 1, 47, 0, 0)), (47, (.iconst 1, 48, 0, 3))],
   [(48, (.iadd, 49, 0, 0)), (49, (.imul, 50, 0, 0)), (50, (.if_icmp .ge 19, 53, 69, 0)), (53, (.lload_n 3, 54, 0, 0)), (54, (.aload_n 0, 55, 0, 0)), (55, (.getfield 66, 58, 24, 728)), (58, (.iload 5, 60, 0, 0)), (60, (.laload, 61, 0, 0)), (61, (.ladd, 62, 0, 0)), (62, (.lstore_n 3, 63, 0, 0)), (63, (.iinc 5 1, 66, 0, 3))],
   [(66, (.goto (-28), 69, 38, 0)), (69, (.lload_n 3, 70, 0, 0)), (70, (.aload_n 0, 71, 0, 0)), (71, (.getfield 11, 74, 1, 705)), (74, (.iconst 0, 75, 0, 4)), (75, (.iaload, 76, 0, 0)), (76, (.i2l, 77, 0, 0)), (77, (.invokestatic 372, 80, 0, 322))],
   [(80, (.lstore 5, 82, 0, 0)), (82, (.iload_n 2, 83, 0, 0)), (83, (.ifCond .ne 10, 86, 93, 0)), (86, (.lload_n 3, 87, 0, 0)), (87, (.lload 5, 89, 0, 0)), (89, (.ldiv, 90, 0, 0)), (90, (.goto 13, 93, 103, 0)), (93, (.aload_n 0, 94, 0, 0)), (94, (.getfield 11, 97, 1, 705))],
   [(97, (.iconst 0, 98, 0, 4)), (98, (.iaload, 99, 0, 0)), (99, (.i2l, 100, 0, 0)), (100, (.lload 5, 102, 0, 0)), (102, (.ldiv, 103, 0, 0)), (103, (.lreturn, 104, 0, 0))]])
noncomputable def p_M_common : mRec := (10, 2, 2, 0, false, [12],
  [[(0, (.lload_n 0, 1, 0, 0)), (1, (.invokestatic 91, 4, 0, 9006)), (4, (.lstore 4, 6, 0, 0)), (6, (.lload_n 2, 7, 0, 0)), (7, (.invokestatic 91, 10, 0, 9006)), (10, (.lstore 6, 12, 0, 0)), (12, (.lload 6, 14, 0, 0)), (14, (.lconst 0, 15, 0, 0)), (15, (.lcmp, 19, 37, 0))],
   [(16, (.ifCond .eq 21, 19, 37, 0)), (19, (.lload 4, 21, 0, 0)), (21, (.lload 6, 23, 0, 0)), (23, (.lrem, 24, 0, 0)), (24, (.lstore 8, 26, 0, 0)), (26, (.lload 6, 28, 0, 0)), (28, (.lstore 4, 30, 0, 0)), (30, (.lload 8, 32, 0, 0))],
   [(32, (.lstore 6, 34, 0, 0)), (34, (.goto (-22), 37, 12, 0)), (37, (.lload 4, 39, 0, 0)), (39, (.lreturn, 40, 0, 0))]])
noncomputable def p_M_earned : mRec := (6, 2, 3, 12, false, [36],
  [[(0, (.aload_n 0, 1, 0, 0)), (1, (.iload_n 1, 2, 0, 0)), (2, (.invokevirtual 358, 5, 0, 306)), (5, (.ifCond .eq 11, 8, 16, 0)), (8, (.aload_n 0, 9, 0, 0)), (9, (.iload_n 2, 10, 0, 0)), (10, (.invokevirtual 352, 13, 0, 299)), (13, (.ifCond .ne 7, 16, 20, 0))],
   [(16, (.ldc2_w 345, 19, 0, 3)), (19, (.lreturn, 20, 0, 0)), (20, (.aload_n 0, 21, 0, 0)), (21, (.invokevirtual 155, 24, 0, 280)), (24, (.lconst 0, 25, 0, 0)), (25, (.lstore_n 3, 26, 0, 0)), (26, (.aload_n 0, 27, 0, 0)), (27, (.getfield 11, 30, 1, 705)), (30, (.iconst 0, 31, 0, 4)), (31, (.iaload, 32, 0, 0))],
   [(32, (.iload_n 1, 33, 0, 0)), (33, (.imul, 34, 0, 0)), (34, (.istore 5, 36, 0, 0)), (36, (.iload 5, 38, 0, 0)), (38, (.aload_n 0, 39, 0, 0)), (39, (.getfield 11, 42, 1, 705)), (42, (.iconst 0, 43, 0, 4)), (43, (.iaload, 44, 0, 0)), (44, (.iload_n 1, 45, 0, 0)), (45, (.iconst 1, 46, 0, 3)), (46, (.iadd, 47, 0, 0)), (47, (.imul, 48, 0, 0))],
   [(48, (.if_icmp .ge 28, 51, 76, 0)), (51, (.lload_n 3, 52, 0, 0)), (52, (.aload_n 0, 53, 0, 0)), (53, (.iload 5, 55, 0, 0)), (55, (.iload_n 2, 56, 0, 0)), (56, (.invokevirtual 135, 59, 0, 283)), (59, (.aload_n 0, 60, 0, 0)), (60, (.iload_n 2, 61, 0, 0)), (61, (.iload 5, 63, 0, 0)), (63, (.invokevirtual 127, 66, 0, 284))],
   [(66, (.i2l, 67, 0, 0)), (67, (.lmul, 68, 0, 0)), (68, (.ladd, 69, 0, 0)), (69, (.lstore_n 3, 70, 0, 0)), (70, (.iinc 5 1, 73, 0, 3)), (73, (.goto (-37), 76, 36, 0)), (76, (.lload_n 3, 77, 0, 0)), (77, (.lreturn, 78, 0, 0))]])
noncomputable def p_M_backdated : mRec := (7, 2, 3, 12, false, [29],
  [[(0, (.aload_n 0, 1, 0, 0)), (1, (.iload_n 1, 2, 0, 0)), (2, (.invokevirtual 358, 5, 0, 306)), (5, (.ifCond .eq 15, 8, 20, 0)), (8, (.iload_n 2, 9, 0, 0)), (9, (.i2l, 10, 0, 0)), (10, (.lconst 0, 11, 0, 0)), (11, (.ldc2_w 375, 14, 0, 16)), (14, (.invokestatic 101, 17, 0, 250))],
   [(17, (.ifCond .ne 7, 20, 24, 0)), (20, (.ldc2_w 345, 23, 0, 3)), (23, (.lreturn, 24, 0, 0)), (24, (.lconst 0, 25, 0, 0)), (25, (.lstore_n 3, 26, 0, 0)), (26, (.iconst 0, 27, 0, 4)), (27, (.istore 5, 29, 0, 0)), (29, (.iload 5, 31, 0, 0)), (31, (.aload_n 0, 32, 0, 0))],
   [(32, (.getfield 108, 35, 19, 723)), (35, (.if_icmp .ge 103, 38, 138, 0)), (38, (.iload_n 2, 39, 0, 0)), (39, (.iconst 2, 40, 0, 8)), (40, (.if_icmp .ge 29, 43, 69, 0)), (43, (.aload_n 0, 44, 0, 0)), (44, (.getfield 50, 47, 16, 720)), (47, (.iload 5, 49, 0, 0))],
   [(49, (.iaload, 50, 0, 0)), (50, (.aload_n 0, 51, 0, 0)), (51, (.getfield 11, 54, 1, 705)), (54, (.iconst 0, 55, 0, 4)), (55, (.iaload, 56, 0, 0)), (56, (.iload_n 1, 57, 0, 0)), (57, (.imul, 58, 0, 0)), (58, (.if_icmp .ge 7, 61, 65, 0)), (61, (.iconst 1, 62, 0, 3)), (62, (.goto 32, 65, 94, 0))],
   [(65, (.iconst 0, 66, 0, 4)), (66, (.goto 28, 69, 94, 0)), (69, (.aload_n 0, 70, 0, 0)), (70, (.getfield 50, 73, 16, 720)), (73, (.iload 5, 75, 0, 0)), (75, (.iaload, 76, 0, 0)), (76, (.aload_n 0, 77, 0, 0)), (77, (.getfield 11, 80, 1, 705))],
   [(80, (.iconst 0, 81, 0, 4)), (81, (.iaload, 82, 0, 0)), (82, (.iload_n 1, 83, 0, 0)), (83, (.iconst 1, 84, 0, 3)), (84, (.iadd, 85, 0, 0)), (85, (.imul, 86, 0, 0)), (86, (.if_icmp .lt 7, 89, 93, 0)), (89, (.iconst 1, 90, 0, 3)), (90, (.goto 4, 93, 94, 0)), (93, (.iconst 0, 94, 0, 4)), (94, (.istore 6, 96, 0, 0))],
   [(96, (.aload_n 0, 97, 0, 0)), (97, (.getfield 53, 100, 17, 721)), (100, (.iload 5, 102, 0, 0)), (102, (.iaload, 103, 0, 0)), (103, (.iload_n 1, 104, 0, 0)), (104, (.if_icmp .ne 28, 107, 132, 0)), (107, (.iload 6, 109, 0, 0)), (109, (.ifCond .eq 23, 112, 132, 0))],
   [(112, (.lload_n 3, 113, 0, 0)), (113, (.iload_n 2, 114, 0, 0)), (114, (.iconst 2, 115, 0, 8)), (115, (.irem, 116, 0, 0)), (116, (.ifCond .ne 7, 119, 123, 0)), (119, (.lconst 1, 120, 0, 14)), (120, (.goto 10, 123, 130, 0)), (123, (.aload_n 0, 124, 0, 0)), (124, (.getfield 46, 127, 15, 719)), (127, (.iload 5, 129, 0, 0))],
   [(129, (.laload, 130, 0, 0)), (130, (.ladd, 131, 0, 0)), (131, (.lstore_n 3, 132, 0, 0)), (132, (.iinc 5 1, 135, 0, 3)), (135, (.goto (-106), 138, 29, 0)), (138, (.lload_n 3, 139, 0, 0)), (139, (.lreturn, 140, 0, 0))]])
noncomputable def p_M_reaches : mRec := (3, 1, 2, 12, false, [30],
  [[(0, (.aload_n 0, 1, 0, 0)), (1, (.invokevirtual 349, 4, 0, 297)), (4, (.ifCond .eq 17, 7, 21, 0)), (7, (.iload_n 1, 8, 0, 0)), (8, (.i2l, 9, 0, 0)), (9, (.ldc2_w 377, 12, 0, 17)), (12, (.ldc2_w 379, 15, 0, 5)), (15, (.invokestatic 101, 18, 0, 250))],
   [(18, (.ifCond .ne 6, 21, 24, 0)), (21, (.bipush (-2), 23, 0, 32)), (23, (.ireturn, 24, 0, 0)), (24, (.aload_n 0, 25, 0, 0)), (25, (.invokevirtual 155, 28, 0, 280)), (28, (.iconst 0, 29, 0, 4)), (29, (.istore_n 2, 30, 0, 0)), (30, (.iload_n 2, 31, 0, 0)), (31, (.aload_n 0, 32, 0, 0))],
   [(32, (.invokevirtual 97, 35, 0, 270)), (35, (.if_icmp .ge 23, 38, 58, 0)), (38, (.aload_n 0, 39, 0, 0)), (39, (.getfield 66, 42, 24, 728)), (42, (.iload_n 2, 43, 0, 0)), (43, (.laload, 44, 0, 0)), (44, (.iload_n 1, 45, 0, 0)), (45, (.i2l, 46, 0, 0)), (46, (.lcmp, 50, 52, 2)), (47, (.ifCond .lt 5, 50, 52, 0))],
   [(50, (.iload_n 2, 51, 0, 0)), (51, (.ireturn, 52, 0, 0)), (52, (.iinc 2 1, 55, 0, 3)), (55, (.goto (-25), 58, 30, 0)), (58, (.iconst (-1), 59, 0, 1)), (59, (.ireturn, 60, 0, 0))]])
noncomputable def p_M_limitFor : mRec := (3, 1, 1, 12, false, [],
  [[(0, (.aload_n 0, 1, 0, 0)), (1, (.invokevirtual 349, 4, 0, 297)), (4, (.ifCond .ne 6, 7, 10, 0)), (7, (.bipush (-2), 9, 0, 32)), (9, (.ireturn, 10, 0, 0)), (10, (.lconst 0, 11, 0, 0)), (11, (.aload_n 0, 12, 0, 0)), (12, (.invokevirtual 381, 15, 0, 317)), (15, (.lneg, 16, 0, 0))],
   [(16, (.invokestatic 133, 19, 0, 9004)), (19, (.lstore_n 1, 20, 0, 0)), (20, (.lload_n 1, 21, 0, 0)), (21, (.ldc2_w 379, 24, 0, 5)), (24, (.lcmp, 28, 32, 5)), (25, (.ifCond .le 7, 28, 32, 0)), (28, (.iconst (-1), 29, 0, 1)), (29, (.goto 5, 32, 34, 0))],
   [(32, (.lload_n 1, 33, 0, 0)), (33, (.l2i, 34, 0, 0)), (34, (.ireturn, 35, 0, 0))]])
noncomputable def p_M_bears : mRec := (6, 1, 2, 12, false, [15, 35],
  [[(0, (.aload_n 0, 1, 0, 0)), (1, (.iload_n 1, 2, 0, 0)), (2, (.invokevirtual 358, 5, 0, 306)), (5, (.ifCond .ne 6, 8, 11, 0)), (8, (.bipush (-2), 10, 0, 32)), (10, (.ireturn, 11, 0, 0)), (11, (.iconst 0, 12, 0, 4)), (12, (.istore_n 2, 13, 0, 0)), (13, (.iconst 0, 14, 0, 4)), (14, (.istore_n 3, 15, 0, 0)), (15, (.iload_n 3, 16, 0, 0))],
   [(16, (.aload_n 0, 17, 0, 0)), (17, (.getfield 11, 20, 1, 705)), (20, (.iconst 0, 21, 0, 4)), (21, (.iaload, 22, 0, 0)), (22, (.iload_n 1, 23, 0, 0)), (23, (.iconst 1, 24, 0, 3)), (24, (.iadd, 25, 0, 0)), (25, (.imul, 26, 0, 0)), (26, (.if_icmp .ge 66, 29, 92, 0)), (29, (.iconst 0, 30, 0, 4)), (30, (.istore 4, 32, 0, 0))],
   [(32, (.iconst 0, 33, 0, 4)), (33, (.istore 5, 35, 0, 0)), (35, (.iload 5, 37, 0, 0)), (37, (.aload_n 0, 38, 0, 0)), (38, (.getfield 108, 41, 19, 723)), (41, (.if_icmp .ge 32, 44, 73, 0)), (44, (.iload 4, 46, 0, 0)), (46, (.ifCond .ne 14, 49, 60, 0))],
   [(49, (.aload_n 0, 50, 0, 0)), (50, (.getfield 50, 53, 16, 720)), (53, (.iload 5, 55, 0, 0)), (55, (.iaload, 56, 0, 0)), (56, (.iload_n 3, 57, 0, 0)), (57, (.if_icmp .ne 7, 60, 64, 0)), (60, (.iconst 1, 61, 0, 3)), (61, (.goto 4, 64, 65, 0))],
   [(64, (.iconst 0, 65, 0, 4)), (65, (.istore 4, 67, 0, 0)), (67, (.iinc 5 1, 70, 0, 3)), (70, (.goto (-35), 73, 35, 0)), (73, (.iload_n 2, 74, 0, 0)), (74, (.iload 4, 76, 0, 0)), (76, (.ifCond .eq 7, 79, 83, 0)), (79, (.iconst 1, 80, 0, 3))],
   [(80, (.goto 4, 83, 84, 0)), (83, (.iconst 0, 84, 0, 4)), (84, (.iadd, 85, 0, 0)), (85, (.istore_n 2, 86, 0, 0)), (86, (.iinc 3 1, 89, 0, 3)), (89, (.goto (-74), 92, 15, 0)), (92, (.iload_n 2, 93, 0, 0)), (93, (.ireturn, 94, 0, 0))]])
noncomputable def p_M_caused : mRec := (3, 2, 3, 12, false, [],
  [[(0, (.aload_n 0, 1, 0, 0)), (1, (.iload_n 1, 2, 0, 0)), (2, (.invokevirtual 339, 5, 0, 295)), (5, (.ifCond .eq 20, 8, 25, 0)), (8, (.aload_n 0, 9, 0, 0)), (9, (.iload_n 2, 10, 0, 0)), (10, (.invokevirtual 358, 13, 0, 306)), (13, (.ifCond .eq 12, 16, 25, 0))],
   [(16, (.aload_n 0, 17, 0, 0)), (17, (.iload_n 1, 18, 0, 0)), (18, (.iload_n 2, 19, 0, 0)), (19, (.invokevirtual 385, 22, 0, 329)), (22, (.goto 6, 25, 28, 0)), (25, (.ldc2_w 345, 28, 0, 3)), (28, (.lreturn, 29, 0, 0))]])
noncomputable def p_M_causedBy : mRec := (9, 2, 3, 12, false, [],
  [[(0, (.aload_n 0, 1, 0, 0)), (1, (.iload_n 2, 2, 0, 0)), (2, (.invokevirtual 161, 5, 0, 279)), (5, (.lstore_n 3, 6, 0, 0)), (6, (.aload_n 0, 7, 0, 0)), (7, (.getfield 46, 10, 15, 719)), (10, (.iload_n 1, 11, 0, 0)), (11, (.laload, 12, 0, 0)), (12, (.lstore 5, 14, 0, 0)), (14, (.aload_n 0, 15, 0, 0)), (15, (.getfield 46, 18, 15, 719))],
   [(18, (.iload_n 1, 19, 0, 0)), (19, (.lconst 0, 20, 0, 0)), (20, (.lastore, 21, 0, 0)), (21, (.aload_n 0, 22, 0, 0)), (22, (.iload_n 2, 23, 0, 0)), (23, (.invokevirtual 161, 26, 0, 279)), (26, (.lstore 7, 28, 0, 0)), (28, (.aload_n 0, 29, 0, 0)), (29, (.getfield 46, 32, 15, 719))],
   [(32, (.iload_n 1, 33, 0, 0)), (33, (.lload 5, 35, 0, 0)), (35, (.lastore, 36, 0, 0)), (36, (.lload_n 3, 37, 0, 0)), (37, (.lload 7, 39, 0, 0)), (39, (.lsub, 40, 0, 0)), (40, (.lreturn, 41, 0, 0))]])
noncomputable def p_M_blame : mRec := (8, 1, 2, 12, false, [18],
  [[(0, (.aload_n 0, 1, 0, 0)), (1, (.iload_n 1, 2, 0, 0)), (2, (.invokevirtual 358, 5, 0, 306)), (5, (.ifCond .ne 6, 8, 11, 0)), (8, (.bipush (-2), 10, 0, 32)), (10, (.ireturn, 11, 0, 0)), (11, (.iconst (-1), 12, 0, 1)), (12, (.istore_n 2, 13, 0, 0)), (13, (.lconst 0, 14, 0, 0)), (14, (.lstore_n 3, 15, 0, 0)), (15, (.iconst 0, 16, 0, 4))],
   [(16, (.istore 5, 18, 0, 0)), (18, (.iload 5, 20, 0, 0)), (20, (.aload_n 0, 21, 0, 0)), (21, (.getfield 108, 24, 19, 723)), (24, (.if_icmp .ge 37, 27, 61, 0)), (27, (.aload_n 0, 28, 0, 0)), (28, (.iload 5, 30, 0, 0)), (30, (.iload_n 1, 31, 0, 0)), (31, (.invokevirtual 385, 34, 0, 329))],
   [(34, (.invokestatic 91, 37, 0, 9006)), (37, (.lstore 6, 39, 0, 0)), (39, (.lload 6, 41, 0, 0)), (41, (.lload_n 3, 42, 0, 0)), (42, (.lcmp, 46, 49, 4)), (43, (.ifCond .gt 6, 46, 49, 0)), (46, (.goto 9, 49, 55, 0))],
   [(49, (.lload 6, 51, 0, 0)), (51, (.lstore_n 3, 52, 0, 0)), (52, (.iload 5, 54, 0, 0)), (54, (.istore_n 2, 55, 0, 0)), (55, (.iinc 5 1, 58, 0, 3)), (58, (.goto (-40), 61, 18, 0)), (61, (.iload_n 2, 62, 0, 0)), (62, (.ireturn, 63, 0, 0))]])
noncomputable def p_M_all : mRec := (1, 2, 1, 12, false, [],
  [[(0, (.aload_n 0, 1, 0, 0)), (1, (.invokevirtual 349, 4, 0, 297)), (4, (.ifCond .eq 10, 7, 14, 0)), (7, (.aload_n 0, 8, 0, 0)), (8, (.invokevirtual 388, 11, 0, 332)), (11, (.goto 6, 14, 17, 0)), (14, (.ldc2_w 345, 17, 0, 3))],
   [(17, (.lreturn, 18, 0, 0))]])
noncomputable def p_M_allOf : mRec := (4, 2, 1, 12, false, [8],
  [[(0, (.aload_n 0, 1, 0, 0)), (1, (.invokevirtual 155, 4, 0, 280)), (4, (.lconst 0, 5, 0, 0)), (5, (.lstore_n 1, 6, 0, 0)), (6, (.iconst 0, 7, 0, 4)), (7, (.istore_n 3, 8, 0, 0)), (8, (.iload_n 3, 9, 0, 0)), (9, (.aload_n 0, 10, 0, 0)), (10, (.getfield 11, 13, 1, 705)), (13, (.iconst 1, 14, 0, 3)), (14, (.iaload, 15, 0, 0)), (15, (.if_icmp .ge 17, 18, 32, 0))],
   [(18, (.lload_n 1, 19, 0, 0)), (19, (.aload_n 0, 20, 0, 0)), (20, (.iload_n 3, 21, 0, 0)), (21, (.invokevirtual 158, 24, 0, 281)), (24, (.ladd, 25, 0, 0)), (25, (.lstore_n 1, 26, 0, 0)), (26, (.iinc 3 1, 29, 0, 3)), (29, (.goto (-21), 32, 8, 0))],
   [(32, (.lload_n 1, 33, 0, 0)), (33, (.lreturn, 34, 0, 0))]])
noncomputable def p_M_brought : mRec := (8, 2, 2, 12, false, [],
  [[(0, (.aload_n 0, 1, 0, 0)), (1, (.iload_n 1, 2, 0, 0)), (2, (.invokevirtual 339, 5, 0, 295)), (5, (.ifCond .ne 7, 8, 12, 0)), (8, (.ldc2_w 345, 11, 0, 3)), (11, (.lreturn, 12, 0, 0)), (12, (.aload_n 0, 13, 0, 0)), (13, (.invokevirtual 388, 16, 0, 332))],
   [(16, (.lstore_n 2, 17, 0, 0)), (17, (.aload_n 0, 18, 0, 0)), (18, (.getfield 46, 21, 15, 719)), (21, (.iload_n 1, 22, 0, 0)), (22, (.laload, 23, 0, 0)), (23, (.lstore 4, 25, 0, 0)), (25, (.aload_n 0, 26, 0, 0)), (26, (.getfield 46, 29, 15, 719)), (29, (.iload_n 1, 30, 0, 0)), (30, (.lconst 0, 31, 0, 0)), (31, (.lastore, 32, 0, 0))],
   [(32, (.aload_n 0, 33, 0, 0)), (33, (.invokevirtual 388, 36, 0, 332)), (36, (.lstore 6, 38, 0, 0)), (38, (.aload_n 0, 39, 0, 0)), (39, (.getfield 46, 42, 15, 719)), (42, (.iload_n 1, 43, 0, 0)), (43, (.lload 4, 45, 0, 0)), (45, (.lastore, 46, 0, 0)), (46, (.lload_n 2, 47, 0, 0)), (47, (.lload 6, 49, 0, 0))],
   [(49, (.lsub, 50, 0, 0)), (50, (.lreturn, 51, 0, 0))]])
noncomputable def p_M_moved : mRec := (3, 2, 3, 12, false, [],
  [[(0, (.aload_n 0, 1, 0, 0)), (1, (.iload_n 1, 2, 0, 0)), (2, (.invokevirtual 339, 5, 0, 295)), (5, (.ifCond .eq 25, 8, 30, 0)), (8, (.aload_n 0, 9, 0, 0)), (9, (.iload_n 2, 10, 0, 0)), (10, (.invokevirtual 355, 13, 0, 300)), (13, (.ifCond .eq 17, 16, 30, 0))],
   [(16, (.aload_n 0, 17, 0, 0)), (17, (.iload_n 1, 18, 0, 0)), (18, (.iload_n 2, 19, 0, 0)), (19, (.invokevirtual 391, 22, 0, 335)), (22, (.aload_n 0, 23, 0, 0)), (23, (.invokevirtual 388, 26, 0, 332)), (26, (.lsub, 27, 0, 0)), (27, (.goto 6, 30, 33, 0)), (30, (.ldc2_w 345, 33, 0, 3))],
   [(33, (.lreturn, 34, 0, 0))]])
noncomputable def p_M_allMoved : mRec := (6, 2, 3, 12, false, [],
  [[(0, (.aload_n 0, 1, 0, 0)), (1, (.getfield 50, 4, 16, 720)), (4, (.iload_n 1, 5, 0, 0)), (5, (.iaload, 6, 0, 0)), (6, (.istore_n 3, 7, 0, 0)), (7, (.aload_n 0, 8, 0, 0)), (8, (.getfield 50, 11, 16, 720)), (11, (.iload_n 1, 12, 0, 0)), (12, (.iload_n 2, 13, 0, 0)), (13, (.iastore, 14, 0, 0)), (14, (.aload_n 0, 15, 0, 0)), (15, (.invokevirtual 388, 18, 0, 332))],
   [(18, (.lstore 4, 20, 0, 0)), (20, (.aload_n 0, 21, 0, 0)), (21, (.getfield 50, 24, 16, 720)), (24, (.iload_n 1, 25, 0, 0)), (25, (.iload_n 3, 26, 0, 0)), (26, (.iastore, 27, 0, 0)), (27, (.lload 4, 29, 0, 0)), (29, (.lreturn, 30, 0, 0))]])
noncomputable def p_M_bestDay : mRec := (8, 1, 2, 12, false, [23],
  [[(0, (.aload_n 0, 1, 0, 0)), (1, (.iload_n 1, 2, 0, 0)), (2, (.invokevirtual 339, 5, 0, 295)), (5, (.ifCond .ne 6, 8, 11, 0)), (8, (.bipush (-2), 10, 0, 32)), (10, (.ireturn, 11, 0, 0)), (11, (.iconst 0, 12, 0, 4)), (12, (.istore_n 2, 13, 0, 0)), (13, (.aload_n 0, 14, 0, 0)), (14, (.iload_n 1, 15, 0, 0)), (15, (.iconst 0, 16, 0, 4))],
   [(16, (.invokevirtual 391, 19, 0, 335)), (19, (.lstore_n 3, 20, 0, 0)), (20, (.iconst 1, 21, 0, 3)), (21, (.istore 5, 23, 0, 0)), (23, (.iload 5, 25, 0, 0)), (25, (.aload_n 0, 26, 0, 0)), (26, (.invokevirtual 97, 29, 0, 270)), (29, (.if_icmp .ge 34, 32, 63, 0))],
   [(32, (.aload_n 0, 33, 0, 0)), (33, (.iload_n 1, 34, 0, 0)), (34, (.iload 5, 36, 0, 0)), (36, (.invokevirtual 391, 39, 0, 335)), (39, (.lstore 6, 41, 0, 0)), (41, (.lload 6, 43, 0, 0)), (43, (.lload_n 3, 44, 0, 0)), (44, (.lcmp, 48, 51, 4)), (45, (.ifCond .gt 6, 48, 51, 0))],
   [(48, (.goto 9, 51, 57, 0)), (51, (.iload 5, 53, 0, 0)), (53, (.istore_n 2, 54, 0, 0)), (54, (.lload 6, 56, 0, 0)), (56, (.lstore_n 3, 57, 0, 0)), (57, (.iinc 5 1, 60, 0, 3)), (60, (.goto (-37), 63, 23, 0)), (63, (.iload_n 2, 64, 0, 0))],
   [(64, (.ireturn, 65, 0, 0))]])
noncomputable def p_M_late : mRec := (6, 2, 3, 12, false, [27],
  [[(0, (.aload_n 0, 1, 0, 0)), (1, (.iload_n 1, 2, 0, 0)), (2, (.iload_n 2, 3, 0, 0)), (3, (.invokevirtual 394, 6, 0, 338)), (6, (.ifCond .ne 7, 9, 13, 0)), (9, (.ldc2_w 345, 12, 0, 3)), (12, (.lreturn, 13, 0, 0)), (13, (.aload_n 0, 14, 0, 0)), (14, (.iconst 0, 15, 0, 4)), (15, (.iload_n 2, 16, 0, 0))],
   [(16, (.i2l, 17, 0, 0)), (17, (.iload_n 1, 18, 0, 0)), (18, (.iconst (-1), 19, 0, 1)), (19, (.invokevirtual 168, 22, 0, 277)), (22, (.lconst 0, 23, 0, 0)), (23, (.lstore_n 3, 24, 0, 0)), (24, (.iconst 0, 25, 0, 4)), (25, (.istore 5, 27, 0, 0)), (27, (.iload 5, 29, 0, 0)), (29, (.aload_n 0, 30, 0, 0)), (30, (.getfield 111, 33, 20, 724))],
   [(33, (.if_icmp .ge 18, 36, 51, 0)), (36, (.lload_n 3, 37, 0, 0)), (37, (.aload_n 0, 38, 0, 0)), (38, (.iload 5, 40, 0, 0)), (40, (.invokevirtual 361, 43, 0, 310)), (43, (.ladd, 44, 0, 0)), (44, (.lstore_n 3, 45, 0, 0)), (45, (.iinc 5 1, 48, 0, 3))],
   [(48, (.goto (-21), 51, 27, 0)), (51, (.aload_n 0, 52, 0, 0)), (52, (.dup, 53, 0, 0)), (53, (.getfield 108, 56, 19, 723)), (56, (.iconst 1, 57, 0, 3)), (57, (.isub, 58, 0, 0)), (58, (.putfield 108, 61, 19, 723)), (61, (.lload_n 3, 62, 0, 0)), (62, (.lreturn, 63, 0, 0))]])
noncomputable def p_M_isLate : mRec := (3, 3, 3, 12, false, [],
  [[(0, (.aload_n 0, 1, 0, 0)), (1, (.iload_n 1, 2, 0, 0)), (2, (.invokevirtual 355, 5, 0, 300)), (5, (.ifCond .eq 21, 8, 26, 0)), (8, (.iload_n 2, 9, 0, 0)), (9, (.i2l, 10, 0, 0)), (10, (.ldc2_w 377, 13, 0, 17)), (13, (.ldc2_w 379, 16, 0, 5))],
   [(16, (.invokestatic 101, 19, 0, 250)), (19, (.ifCond .eq 7, 22, 26, 0)), (22, (.iconst 1, 23, 0, 3)), (23, (.goto 4, 26, 27, 0)), (26, (.iconst 0, 27, 0, 4)), (27, (.ireturn, 28, 0, 0))]])
noncomputable def p_M_touched : mRec := (8, 1, 3, 12, false, [14],
  [[(0, (.aload_n 0, 1, 0, 0)), (1, (.iload_n 1, 2, 0, 0)), (2, (.iload_n 2, 3, 0, 0)), (3, (.invokevirtual 394, 6, 0, 338)), (6, (.ifCond .ne 6, 9, 12, 0)), (9, (.bipush (-2), 11, 0, 32)), (11, (.ireturn, 12, 0, 0)), (12, (.iconst 0, 13, 0, 4)), (13, (.istore_n 3, 14, 0, 0)), (14, (.iload_n 3, 15, 0, 0)), (15, (.aload_n 0, 16, 0, 0))],
   [(16, (.getfield 111, 19, 20, 724)), (19, (.if_icmp .ge 52, 22, 71, 0)), (22, (.aload_n 0, 23, 0, 0)), (23, (.iload_n 3, 24, 0, 0)), (24, (.invokevirtual 361, 27, 0, 310)), (27, (.lstore 4, 29, 0, 0)), (29, (.aload_n 0, 30, 0, 0)), (30, (.iconst 0, 31, 0, 4)), (31, (.iload_n 2, 32, 0, 0))],
   [(32, (.i2l, 33, 0, 0)), (33, (.iload_n 1, 34, 0, 0)), (34, (.iconst (-1), 35, 0, 1)), (35, (.invokevirtual 168, 38, 0, 277)), (38, (.aload_n 0, 39, 0, 0)), (39, (.iload_n 3, 40, 0, 0)), (40, (.invokevirtual 361, 43, 0, 310)), (43, (.lstore 6, 45, 0, 0)), (45, (.aload_n 0, 46, 0, 0)), (46, (.dup, 47, 0, 0)), (47, (.getfield 108, 50, 19, 723))],
   [(50, (.iconst 1, 51, 0, 3)), (51, (.isub, 52, 0, 0)), (52, (.putfield 108, 55, 19, 723)), (55, (.lload 6, 57, 0, 0)), (57, (.lload 4, 59, 0, 0)), (59, (.lcmp, 63, 65, 0)), (60, (.ifCond .eq 5, 63, 65, 0)), (63, (.iload_n 3, 64, 0, 0))],
   [(64, (.ireturn, 65, 0, 0)), (65, (.iinc 3 1, 68, 0, 3)), (68, (.goto (-54), 71, 14, 0)), (71, (.iconst (-1), 72, 0, 1)), (72, (.ireturn, 73, 0, 0))]])
noncomputable def p_M_tilted : mRec := (3, 2, 3, 12, false, [],
  [[(0, (.aload_n 0, 1, 0, 0)), (1, (.iload_n 1, 2, 0, 0)), (2, (.invokevirtual 352, 5, 0, 299)), (5, (.ifCond .eq 26, 8, 31, 0)), (8, (.iload_n 2, 9, 0, 0)), (9, (.i2l, 10, 0, 0)), (10, (.ldc2_w 398, 13, 0, 18)), (13, (.ldc2_w 400, 16, 0, 19))],
   [(16, (.invokestatic 101, 19, 0, 250)), (19, (.ifCond .eq 12, 22, 31, 0)), (22, (.aload_n 0, 23, 0, 0)), (23, (.iload_n 1, 24, 0, 0)), (24, (.iload_n 2, 25, 0, 0)), (25, (.invokevirtual 402, 28, 0, 341)), (28, (.goto 6, 31, 34, 0)), (31, (.ldc2_w 345, 34, 0, 3))],
   [(34, (.lreturn, 35, 0, 0))]])
noncomputable def p_M_tiltedBy : mRec := (7, 2, 3, 12, false, [],
  [[(0, (.aload_n 0, 1, 0, 0)), (1, (.invokevirtual 388, 4, 0, 332)), (4, (.lstore_n 3, 5, 0, 0)), (5, (.aload_n 0, 6, 0, 0)), (6, (.iload_n 1, 7, 0, 0)), (7, (.putfield 59, 10, 21, 725)), (10, (.aload_n 0, 11, 0, 0)), (11, (.iload_n 2, 12, 0, 0)), (12, (.putfield 117, 15, 22, 726)), (15, (.aload_n 0, 16, 0, 0))],
   [(16, (.invokevirtual 388, 19, 0, 332)), (19, (.lstore 5, 21, 0, 0)), (21, (.aload_n 0, 22, 0, 0)), (22, (.iconst (-1), 23, 0, 1)), (23, (.putfield 59, 26, 21, 725)), (26, (.lload 5, 28, 0, 0)), (28, (.lload_n 3, 29, 0, 0)), (29, (.lsub, 30, 0, 0)), (30, (.lreturn, 31, 0, 0))]])
noncomputable def p_M_tiltFor : mRec := (6, 1, 3, 12, false, [46],
  [[(0, (.aload_n 0, 1, 0, 0)), (1, (.iload_n 1, 2, 0, 0)), (2, (.invokevirtual 352, 5, 0, 299)), (5, (.ifCond .eq 15, 8, 20, 0)), (8, (.iload_n 2, 9, 0, 0)), (9, (.i2l, 10, 0, 0)), (10, (.lconst 1, 11, 0, 14)), (11, (.ldc2_w 379, 14, 0, 5)), (14, (.invokestatic 101, 17, 0, 250))],
   [(17, (.ifCond .ne 6, 20, 23, 0)), (20, (.bipush (-2), 22, 0, 32)), (22, (.ireturn, 23, 0, 0)), (23, (.aload_n 0, 24, 0, 0)), (24, (.iload_n 1, 25, 0, 0)), (25, (.sipush 5000, 28, 0, 23)), (28, (.invokevirtual 402, 31, 0, 341)), (31, (.iload_n 2, 32, 0, 0))],
   [(32, (.i2l, 33, 0, 0)), (33, (.lcmp, 37, 39, 3)), (34, (.ifCond .ge 5, 37, 39, 0)), (37, (.iconst (-1), 38, 0, 1)), (38, (.ireturn, 39, 0, 0)), (39, (.iconst 1, 40, 0, 3)), (40, (.istore_n 3, 41, 0, 0)), (41, (.sipush 5000, 44, 0, 23)), (44, (.istore 4, 46, 0, 0)), (46, (.iload_n 3, 47, 0, 0)), (47, (.iload 4, 49, 0, 0))],
   [(49, (.if_icmp .ge 39, 52, 88, 0)), (52, (.iload_n 3, 53, 0, 0)), (53, (.iload 4, 55, 0, 0)), (55, (.iadd, 56, 0, 0)), (56, (.iconst 2, 57, 0, 8)), (57, (.idiv, 58, 0, 0)), (58, (.istore 5, 60, 0, 0)), (60, (.aload_n 0, 61, 0, 0)), (61, (.iload_n 1, 62, 0, 0)), (62, (.iload 5, 64, 0, 0))],
   [(64, (.invokevirtual 402, 67, 0, 341)), (67, (.iload_n 2, 68, 0, 0)), (68, (.i2l, 69, 0, 0)), (69, (.lcmp, 73, 81, 3)), (70, (.ifCond .ge 11, 73, 81, 0)), (73, (.iload 5, 75, 0, 0)), (75, (.iconst 1, 76, 0, 3)), (76, (.iadd, 77, 0, 0)), (77, (.istore_n 3, 78, 0, 0)), (78, (.goto 7, 81, 85, 0))],
   [(81, (.iload 5, 83, 0, 0)), (83, (.istore 4, 85, 0, 0)), (85, (.goto (-39), 88, 46, 0)), (88, (.iload_n 3, 89, 0, 0)), (89, (.ireturn, 90, 0, 0))]])
noncomputable def p_M_limited : mRec := (6, 2, 2, 12, false, [],
  [[(0, (.aload_n 0, 1, 0, 0)), (1, (.invokevirtual 349, 4, 0, 297)), (4, (.ifCond .eq 15, 7, 19, 0)), (7, (.iload_n 1, 8, 0, 0)), (8, (.i2l, 9, 0, 0)), (9, (.lconst 0, 10, 0, 0)), (10, (.ldc2_w 379, 13, 0, 5)), (13, (.invokestatic 101, 16, 0, 250))],
   [(16, (.ifCond .ne 7, 19, 23, 0)), (19, (.ldc2_w 345, 22, 0, 3)), (22, (.lreturn, 23, 0, 0)), (23, (.aload_n 0, 24, 0, 0)), (24, (.invokevirtual 388, 27, 0, 332)), (27, (.lstore_n 2, 28, 0, 0)), (28, (.aload_n 0, 29, 0, 0)), (29, (.iload_n 1, 30, 0, 0)), (30, (.putfield 63, 33, 23, 727))],
   [(33, (.aload_n 0, 34, 0, 0)), (34, (.invokevirtual 388, 37, 0, 332)), (37, (.lstore 4, 39, 0, 0)), (39, (.aload_n 0, 40, 0, 0)), (40, (.iconst (-1), 41, 0, 1)), (41, (.putfield 63, 44, 23, 727)), (44, (.lload 4, 46, 0, 0)), (46, (.lload_n 2, 47, 0, 0)), (47, (.lsub, 48, 0, 0))],
   [(48, (.lreturn, 49, 0, 0))]])
noncomputable def p_M_most : mRec := (4, 1, 2, 12, false, [],
  [[(0, (.aload_n 0, 1, 0, 0)), (1, (.iload_n 1, 2, 0, 0)), (2, (.invokevirtual 355, 5, 0, 300)), (5, (.ifCond .ne 6, 8, 11, 0)), (8, (.bipush (-2), 10, 0, 32)), (10, (.ireturn, 11, 0, 0)), (11, (.aload_n 0, 12, 0, 0)), (12, (.iload_n 1, 13, 0, 0)), (13, (.invokevirtual 407, 16, 0, 345))],
   [(16, (.lstore_n 2, 17, 0, 0)), (17, (.lload_n 2, 18, 0, 0)), (18, (.lconst 0, 19, 0, 0)), (19, (.lcmp, 23, 27, 3)), (20, (.ifCond .ge 7, 23, 27, 0)), (23, (.iconst (-1), 24, 0, 1)), (24, (.goto 11, 27, 35, 0)), (27, (.lload_n 2, 28, 0, 0)), (28, (.ldc2_w 410, 31, 0, 4)), (31, (.invokestatic 130, 34, 0, 9005))],
   [(34, (.l2i, 35, 0, 0)), (35, (.ireturn, 36, 0, 0))]])
noncomputable def p_M_roomFrom : mRec := (5, 2, 2, 12, false, [11],
  [[(0, (.aload_n 0, 1, 0, 0)), (1, (.invokevirtual 155, 4, 0, 280)), (4, (.ldc2_w 405, 7, 0, 20)), (7, (.lstore_n 2, 8, 0, 0)), (8, (.iload_n 1, 9, 0, 0)), (9, (.istore 4, 11, 0, 0)), (11, (.iload 4, 13, 0, 0)), (13, (.aload_n 0, 14, 0, 0)), (14, (.invokevirtual 97, 17, 0, 270))],
   [(17, (.if_icmp .ge 31, 20, 48, 0)), (20, (.lload_n 2, 21, 0, 0)), (21, (.aload_n 0, 22, 0, 0)), (22, (.getfield 66, 25, 24, 728)), (25, (.iload 4, 27, 0, 0)), (27, (.laload, 28, 0, 0)), (28, (.aload_n 0, 29, 0, 0)), (29, (.bipush 6, 31, 0, 26)), (31, (.iload 4, 33, 0, 0))],
   [(33, (.invokevirtual 127, 36, 0, 284)), (36, (.i2l, 37, 0, 0)), (37, (.ladd, 38, 0, 0)), (38, (.invokestatic 130, 41, 0, 9005)), (41, (.lstore_n 2, 42, 0, 0)), (42, (.iinc 4 1, 45, 0, 3)), (45, (.goto (-34), 48, 11, 0))],
   [(48, (.lload_n 2, 49, 0, 0)), (49, (.lreturn, 50, 0, 0))]])
noncomputable def p_M_least : mRec := (4, 1, 2, 12, false, [],
  [[(0, (.aload_n 0, 1, 0, 0)), (1, (.iload_n 1, 2, 0, 0)), (2, (.invokevirtual 355, 5, 0, 300)), (5, (.ifCond .ne 6, 8, 11, 0)), (8, (.bipush (-2), 10, 0, 32)), (10, (.ireturn, 11, 0, 0)), (11, (.aload_n 0, 12, 0, 0)), (12, (.iload_n 1, 13, 0, 0)), (13, (.invokevirtual 407, 16, 0, 345))],
   [(16, (.lstore_n 2, 17, 0, 0)), (17, (.lload_n 2, 18, 0, 0)), (18, (.lconst 0, 19, 0, 0)), (19, (.lcmp, 23, 27, 2)), (20, (.ifCond .lt 7, 23, 27, 0)), (23, (.iconst 0, 24, 0, 4)), (24, (.goto 19, 27, 43, 0)), (27, (.lload_n 2, 28, 0, 0)), (28, (.lneg, 29, 0, 0)), (29, (.ldc2_w 410, 32, 0, 4))],
   [(32, (.lcmp, 36, 40, 5)), (33, (.ifCond .le 7, 36, 40, 0)), (36, (.iconst (-1), 37, 0, 1)), (37, (.goto 6, 40, 43, 0)), (40, (.lload_n 2, 41, 0, 0)), (41, (.lneg, 42, 0, 0)), (42, (.l2i, 43, 0, 0)), (43, (.ireturn, 44, 0, 0))]])
noncomputable def p_M_needs : mRec := (8, 1, 3, 12, false, [54],
  [[(0, (.aload_n 0, 1, 0, 0)), (1, (.iload_n 1, 2, 0, 0)), (2, (.invokevirtual 355, 5, 0, 300)), (5, (.ifCond .eq 15, 8, 20, 0)), (8, (.iload_n 2, 9, 0, 0)), (9, (.i2l, 10, 0, 0)), (10, (.lconst 1, 11, 0, 14)), (11, (.ldc2_w 379, 14, 0, 5)), (14, (.invokestatic 101, 17, 0, 250))],
   [(17, (.ifCond .ne 6, 20, 23, 0)), (20, (.bipush (-2), 22, 0, 32)), (22, (.ireturn, 23, 0, 0)), (23, (.aload_n 0, 24, 0, 0)), (24, (.invokevirtual 388, 27, 0, 332)), (27, (.iload_n 2, 28, 0, 0)), (28, (.i2l, 29, 0, 0)), (29, (.ladd, 30, 0, 0)), (30, (.lstore_n 3, 31, 0, 0)), (31, (.aload_n 0, 32, 0, 0))],
   [(32, (.iload_n 1, 33, 0, 0)), (33, (.ldc_w 273, 36, 0, 24)), (36, (.invokevirtual 412, 39, 0, 348)), (39, (.lload_n 3, 40, 0, 0)), (40, (.lcmp, 44, 46, 3)), (41, (.ifCond .ge 5, 44, 46, 0)), (44, (.iconst (-1), 45, 0, 1)), (45, (.ireturn, 46, 0, 0)), (46, (.iconst 1, 47, 0, 3)), (47, (.istore 5, 49, 0, 0))],
   [(49, (.ldc_w 273, 52, 0, 24)), (52, (.istore 6, 54, 0, 0)), (54, (.iload 5, 56, 0, 0)), (56, (.iload 6, 58, 0, 0)), (58, (.if_icmp .ge 40, 61, 98, 0)), (61, (.iload 5, 63, 0, 0)), (63, (.iload 6, 65, 0, 0))],
   [(65, (.iadd, 66, 0, 0)), (66, (.iconst 2, 67, 0, 8)), (67, (.idiv, 68, 0, 0)), (68, (.istore 7, 70, 0, 0)), (70, (.aload_n 0, 71, 0, 0)), (71, (.iload_n 1, 72, 0, 0)), (72, (.iload 7, 74, 0, 0)), (74, (.invokevirtual 412, 77, 0, 348)), (77, (.lload_n 3, 78, 0, 0)), (78, (.lcmp, 82, 91, 3)), (79, (.ifCond .ge 12, 82, 91, 0))],
   [(82, (.iload 7, 84, 0, 0)), (84, (.iconst 1, 85, 0, 3)), (85, (.iadd, 86, 0, 0)), (86, (.istore 5, 88, 0, 0)), (88, (.goto 7, 91, 95, 0)), (91, (.iload 7, 93, 0, 0)), (93, (.istore 6, 95, 0, 0)), (95, (.goto (-41), 98, 54, 0))],
   [(98, (.iload 5, 100, 0, 0)), (100, (.ireturn, 101, 0, 0))]])
noncomputable def p_M_allWith : mRec := (5, 2, 3, 12, false, [],
  [[(0, (.aload_n 0, 1, 0, 0)), (1, (.iconst 0, 2, 0, 4)), (2, (.iload_n 2, 3, 0, 0)), (3, (.i2l, 4, 0, 0)), (4, (.iload_n 1, 5, 0, 0)), (5, (.iconst (-1), 6, 0, 1)), (6, (.invokevirtual 168, 9, 0, 277)), (9, (.aload_n 0, 10, 0, 0)), (10, (.invokevirtual 388, 13, 0, 332)), (13, (.lstore_n 3, 14, 0, 0)), (14, (.aload_n 0, 15, 0, 0)), (15, (.dup, 16, 0, 0))],
   [(16, (.getfield 108, 19, 19, 723)), (19, (.iconst 1, 20, 0, 3)), (20, (.isub, 21, 0, 0)), (21, (.putfield 108, 24, 19, 723)), (24, (.lload_n 3, 25, 0, 0)), (25, (.lreturn, 26, 0, 0))]])
noncomputable def p_M_rights : mRec := (3, 1, 1, 12, false, [],
  [[(0, (.aload_n 0, 1, 0, 0)), (1, (.invokevirtual 349, 4, 0, 297)), (4, (.ifCond .eq 10, 7, 14, 0)), (7, (.aload_n 0, 8, 0, 0)), (8, (.invokevirtual 288, 11, 0, 272)), (11, (.ifCond .ne 6, 14, 17, 0)), (14, (.bipush (-2), 16, 0, 32))],
   [(16, (.ireturn, 17, 0, 0)), (17, (.aload_n 0, 18, 0, 0)), (18, (.getfield 108, 21, 19, 723)), (21, (.istore_n 1, 22, 0, 0)), (22, (.aload_n 0, 23, 0, 0)), (23, (.invokevirtual 185, 26, 0, 288)), (26, (.istore_n 2, 27, 0, 0)), (27, (.aload_n 0, 28, 0, 0)), (28, (.iload_n 1, 29, 0, 0)), (29, (.putfield 108, 32, 19, 723))],
   [(32, (.iload_n 2, 33, 0, 0)), (33, (.ireturn, 34, 0, 0))]])
noncomputable def p_M_righted : mRec := (5, 2, 1, 12, false, [33],
  [[(0, (.aload_n 0, 1, 0, 0)), (1, (.invokevirtual 349, 4, 0, 297)), (4, (.ifCond .eq 10, 7, 14, 0)), (7, (.aload_n 0, 8, 0, 0)), (8, (.invokevirtual 288, 11, 0, 272)), (11, (.ifCond .ne 7, 14, 18, 0)), (14, (.ldc2_w 345, 17, 0, 3))],
   [(17, (.lreturn, 18, 0, 0)), (18, (.aload_n 0, 19, 0, 0)), (19, (.getfield 108, 22, 19, 723)), (22, (.istore_n 1, 23, 0, 0)), (23, (.aload_n 0, 24, 0, 0)), (24, (.invokevirtual 185, 27, 0, 288)), (27, (.pop, 28, 0, 0)), (28, (.lconst 0, 29, 0, 0)), (29, (.lstore_n 2, 30, 0, 0)), (30, (.iload_n 1, 31, 0, 0)), (31, (.istore 4, 33, 0, 0))],
   [(33, (.iload 4, 35, 0, 0)), (35, (.aload_n 0, 36, 0, 0)), (36, (.getfield 108, 39, 19, 723)), (39, (.if_icmp .ge 19, 42, 58, 0)), (42, (.lload_n 2, 43, 0, 0)), (43, (.aload_n 0, 44, 0, 0)), (44, (.getfield 46, 47, 15, 719)), (47, (.iload 4, 49, 0, 0))],
   [(49, (.laload, 50, 0, 0)), (50, (.ladd, 51, 0, 0)), (51, (.lstore_n 2, 52, 0, 0)), (52, (.iinc 4 1, 55, 0, 3)), (55, (.goto (-22), 58, 33, 0)), (58, (.aload_n 0, 59, 0, 0)), (59, (.iload_n 1, 60, 0, 0)), (60, (.putfield 108, 63, 19, 723)), (63, (.lload_n 2, 64, 0, 0))],
   [(64, (.lreturn, 65, 0, 0))]])
noncomputable def p_M_settled : mRec := (1, 2, 1, 12, false, [],
  [[(0, (.aload_n 0, 1, 0, 0)), (1, (.invokevirtual 349, 4, 0, 297)), (4, (.ifCond .eq 10, 7, 14, 0)), (7, (.aload_n 0, 8, 0, 0)), (8, (.invokevirtual 415, 11, 0, 352)), (11, (.goto 6, 14, 17, 0)), (14, (.ldc2_w 345, 17, 0, 3))],
   [(17, (.lreturn, 18, 0, 0))]])
noncomputable def p_M_settledOf : mRec := (6, 2, 1, 12, false, [10, 49],
  [[(0, (.aload_n 0, 1, 0, 0)), (1, (.getfield 108, 4, 19, 723)), (4, (.istore_n 1, 5, 0, 0)), (5, (.aload_n 0, 6, 0, 0)), (6, (.getfield 111, 9, 20, 724)), (9, (.istore_n 2, 10, 0, 0)), (10, (.aload_n 0, 11, 0, 0)), (11, (.invokevirtual 288, 14, 0, 272)), (14, (.ifCond .eq 30, 17, 44, 0))],
   [(17, (.aload_n 0, 18, 0, 0)), (18, (.getfield 111, 21, 20, 724)), (21, (.aload_n 0, 22, 0, 0)), (22, (.getfield 11, 25, 1, 705)), (25, (.iconst 1, 26, 0, 3)), (26, (.iaload, 27, 0, 0)), (27, (.iconst 1, 28, 0, 3)), (28, (.isub, 29, 0, 0)), (29, (.if_icmp .ne 8, 32, 37, 0))],
   [(32, (.aload_n 0, 33, 0, 0)), (33, (.invokevirtual 185, 36, 0, 288)), (36, (.pop, 37, 0, 0)), (37, (.aload_n 0, 38, 0, 0)), (38, (.invokevirtual 182, 41, 0, 278)), (41, (.goto (-31), 44, 10, 0)), (44, (.lconst 0, 45, 0, 0)), (45, (.lstore_n 3, 46, 0, 0)), (46, (.iconst 0, 47, 0, 4)), (47, (.istore 5, 49, 0, 0))],
   [(49, (.iload 5, 51, 0, 0)), (51, (.aload_n 0, 52, 0, 0)), (52, (.getfield 108, 55, 19, 723)), (55, (.if_icmp .ge 19, 58, 74, 0)), (58, (.lload_n 3, 59, 0, 0)), (59, (.aload_n 0, 60, 0, 0)), (60, (.getfield 46, 63, 15, 719)), (63, (.iload 5, 65, 0, 0))],
   [(65, (.laload, 66, 0, 0)), (66, (.ladd, 67, 0, 0)), (67, (.lstore_n 3, 68, 0, 0)), (68, (.iinc 5 1, 71, 0, 3)), (71, (.goto (-22), 74, 49, 0)), (74, (.aload_n 0, 75, 0, 0)), (75, (.iload_n 1, 76, 0, 0)), (76, (.putfield 108, 79, 19, 723)), (79, (.aload_n 0, 80, 0, 0))],
   [(80, (.iload_n 2, 81, 0, 0)), (81, (.putfield 111, 84, 20, 724)), (84, (.lload_n 3, 85, 0, 0)), (85, (.lreturn, 86, 0, 0))]])
noncomputable def p_M_compounded : mRec := (7, 2, 2, 12, false, [],
  [[(0, (.aload_n 0, 1, 0, 0)), (1, (.invokevirtual 349, 4, 0, 297)), (4, (.ifCond .eq 15, 7, 19, 0)), (7, (.iload_n 1, 8, 0, 0)), (8, (.i2l, 9, 0, 0)), (9, (.lconst 1, 10, 0, 14)), (10, (.ldc2_w 418, 13, 0, 21)), (13, (.invokestatic 101, 16, 0, 250))],
   [(16, (.ifCond .ne 7, 19, 23, 0)), (19, (.ldc2_w 345, 22, 0, 3)), (22, (.lreturn, 23, 0, 0)), (23, (.aload_n 0, 24, 0, 0)), (24, (.invokevirtual 415, 27, 0, 352)), (27, (.lstore_n 2, 28, 0, 0)), (28, (.aload_n 0, 29, 0, 0)), (29, (.getfield 11, 32, 1, 705))],
   [(32, (.iconst 2, 33, 0, 8)), (33, (.iaload, 34, 0, 0)), (34, (.istore 4, 36, 0, 0)), (36, (.aload_n 0, 37, 0, 0)), (37, (.getfield 11, 40, 1, 705)), (40, (.iconst 2, 41, 0, 8)), (41, (.iload_n 1, 42, 0, 0)), (42, (.iastore, 43, 0, 0)), (43, (.aload_n 0, 44, 0, 0)), (44, (.invokevirtual 333, 47, 0, 291)), (47, (.aload_n 0, 48, 0, 0))],
   [(48, (.invokevirtual 415, 51, 0, 352)), (51, (.lstore 5, 53, 0, 0)), (53, (.aload_n 0, 54, 0, 0)), (54, (.getfield 11, 57, 1, 705)), (57, (.iconst 2, 58, 0, 8)), (58, (.iload 4, 60, 0, 0)), (60, (.iastore, 61, 0, 0)), (61, (.aload_n 0, 62, 0, 0)), (62, (.invokevirtual 333, 65, 0, 291))],
   [(65, (.lload 5, 67, 0, 0)), (67, (.lload_n 2, 68, 0, 0)), (68, (.lsub, 69, 0, 0)), (69, (.lreturn, 70, 0, 0))]])
noncomputable def p_M_planned : mRec := (4, 2, 4, 12, false, [],
  [[(0, (.iload_n 3, 1, 0, 0)), (1, (.i2l, 2, 0, 0)), (2, (.lconst 0, 3, 0, 0)), (3, (.ldc2_w 379, 6, 0, 5)), (6, (.invokestatic 101, 9, 0, 250)), (9, (.ifCond .eq 22, 12, 31, 0)), (12, (.aload_n 0, 13, 0, 0)), (13, (.iload_n 1, 14, 0, 0)), (14, (.iload_n 2, 15, 0, 0)), (15, (.invokevirtual 422, 18, 0, 355))],
   [(18, (.ifCond .eq 13, 21, 31, 0)), (21, (.aload_n 0, 22, 0, 0)), (22, (.iload_n 1, 23, 0, 0)), (23, (.iload_n 2, 24, 0, 0)), (24, (.iload_n 3, 25, 0, 0)), (25, (.invokevirtual 425, 28, 0, 356)), (28, (.goto 6, 31, 34, 0)), (31, (.ldc2_w 345, 34, 0, 3))],
   [(34, (.lreturn, 35, 0, 0))]])
noncomputable def p_M_canPlan : mRec := (3, 3, 3, 12, false, [],
  [[(0, (.aload_n 0, 1, 0, 0)), (1, (.iload_n 1, 2, 0, 0)), (2, (.invokevirtual 355, 5, 0, 300)), (5, (.ifCond .eq 45, 8, 50, 0)), (8, (.iload_n 2, 9, 0, 0)), (9, (.i2l, 10, 0, 0)), (10, (.lconst 1, 11, 0, 14)), (11, (.ldc2_w 420, 14, 0, 22)), (14, (.invokestatic 101, 17, 0, 250))],
   [(17, (.ifCond .eq 33, 20, 50, 0)), (20, (.aload_n 0, 21, 0, 0)), (21, (.iload_n 1, 22, 0, 0)), (22, (.iload_n 2, 23, 0, 0)), (23, (.iconst 1, 24, 0, 3)), (24, (.isub, 25, 0, 0)), (25, (.aload_n 0, 26, 0, 0)), (26, (.getfield 11, 29, 1, 705)), (29, (.iconst 0, 30, 0, 4)), (30, (.iaload, 31, 0, 0)), (31, (.imul, 32, 0, 0))],
   [(32, (.iadd, 33, 0, 0)), (33, (.invokevirtual 355, 36, 0, 300)), (36, (.ifCond .eq 14, 39, 50, 0)), (39, (.aload_n 0, 40, 0, 0)), (40, (.invokevirtual 288, 43, 0, 272)), (43, (.ifCond .eq 7, 46, 50, 0)), (46, (.iconst 1, 47, 0, 3)), (47, (.goto 4, 50, 51, 0))],
   [(50, (.iconst 0, 51, 0, 4)), (51, (.ireturn, 52, 0, 0))]])
noncomputable def p_M_plannedOf : mRec := (7, 2, 4, 12, false, [9],
  [[(0, (.aload_n 0, 1, 0, 0)), (1, (.getfield 108, 4, 19, 723)), (4, (.istore 4, 6, 0, 0)), (6, (.iconst 0, 7, 0, 4)), (7, (.istore 5, 9, 0, 0)), (9, (.iload 5, 11, 0, 0)), (11, (.iload_n 2, 12, 0, 0)), (12, (.if_icmp .ge 32, 15, 44, 0)), (15, (.iload_n 3, 16, 0, 0))],
   [(16, (.ifCond .le 28, 19, 44, 0)), (19, (.aload_n 0, 20, 0, 0)), (20, (.iconst 0, 21, 0, 4)), (21, (.iload_n 3, 22, 0, 0)), (22, (.i2l, 23, 0, 0)), (23, (.iload_n 1, 24, 0, 0)), (24, (.iload 5, 26, 0, 0)), (26, (.aload_n 0, 27, 0, 0)), (27, (.getfield 11, 30, 1, 705)), (30, (.iconst 0, 31, 0, 4)), (31, (.iaload, 32, 0, 0))],
   [(32, (.imul, 33, 0, 0)), (33, (.iadd, 34, 0, 0)), (34, (.iconst (-1), 35, 0, 1)), (35, (.invokevirtual 168, 38, 0, 277)), (38, (.iinc 5 1, 41, 0, 3)), (41, (.goto (-32), 44, 9, 0)), (44, (.aload_n 0, 45, 0, 0)), (45, (.invokevirtual 415, 48, 0, 352))],
   [(48, (.lstore 5, 50, 0, 0)), (50, (.aload_n 0, 51, 0, 0)), (51, (.iload 4, 53, 0, 0)), (53, (.putfield 108, 56, 19, 723)), (56, (.lload 5, 58, 0, 0)), (58, (.lreturn, 59, 0, 0))]])
noncomputable def p_M_plan : mRec := (6, 1, 3, 12, false, [35],
  [[(0, (.aload_n 0, 1, 0, 0)), (1, (.iload_n 1, 2, 0, 0)), (2, (.iload_n 2, 3, 0, 0)), (3, (.invokevirtual 422, 6, 0, 355)), (6, (.ifCond .ne 6, 9, 12, 0)), (9, (.bipush (-2), 11, 0, 32)), (11, (.ireturn, 12, 0, 0)), (12, (.aload_n 0, 13, 0, 0)), (13, (.iload_n 1, 14, 0, 0)), (14, (.iload_n 2, 15, 0, 0)), (15, (.ldc_w 273, 18, 0, 24))],
   [(18, (.invokevirtual 425, 21, 0, 356)), (21, (.lconst 0, 22, 0, 0)), (22, (.lcmp, 26, 28, 3)), (23, (.ifCond .ge 5, 26, 28, 0)), (26, (.iconst (-1), 27, 0, 1)), (27, (.ireturn, 28, 0, 0)), (28, (.iconst 0, 29, 0, 4)), (29, (.istore_n 3, 30, 0, 0)), (30, (.ldc_w 273, 33, 0, 24))],
   [(33, (.istore 4, 35, 0, 0)), (35, (.iload_n 3, 36, 0, 0)), (36, (.iload 4, 38, 0, 0)), (38, (.if_icmp .ge 39, 41, 77, 0)), (41, (.iload_n 3, 42, 0, 0)), (42, (.iload 4, 44, 0, 0)), (44, (.iadd, 45, 0, 0)), (45, (.iconst 2, 46, 0, 8)), (46, (.idiv, 47, 0, 0)), (47, (.istore 5, 49, 0, 0))],
   [(49, (.aload_n 0, 50, 0, 0)), (50, (.iload_n 1, 51, 0, 0)), (51, (.iload_n 2, 52, 0, 0)), (52, (.iload 5, 54, 0, 0)), (54, (.invokevirtual 425, 57, 0, 356)), (57, (.lconst 0, 58, 0, 0)), (58, (.lcmp, 62, 70, 3)), (59, (.ifCond .ge 11, 62, 70, 0)), (62, (.iload 5, 64, 0, 0))],
   [(64, (.iconst 1, 65, 0, 3)), (65, (.iadd, 66, 0, 0)), (66, (.istore_n 3, 67, 0, 0)), (67, (.goto 7, 70, 74, 0)), (70, (.iload 5, 72, 0, 0)), (72, (.istore 4, 74, 0, 0)), (74, (.goto (-39), 77, 35, 0)), (77, (.iload_n 3, 78, 0, 0)), (78, (.ireturn, 79, 0, 0))]])
noncomputable def p_M_left : mRec := (2, 2, 2, 12, false, [],
  [[(0, (.aload_n 0, 1, 0, 0)), (1, (.iload_n 1, 2, 0, 0)), (2, (.invokevirtual 339, 5, 0, 295)), (5, (.ifCond .ne 7, 8, 12, 0)), (8, (.ldc2_w 345, 11, 0, 3)), (11, (.lreturn, 12, 0, 0)), (12, (.aload_n 0, 13, 0, 0)), (13, (.invokevirtual 432, 16, 0, 359))],
   [(16, (.aload_n 0, 17, 0, 0)), (17, (.getfield 79, 20, 37, 741)), (20, (.iload_n 1, 21, 0, 0)), (21, (.laload, 22, 0, 0)), (22, (.lreturn, 23, 0, 0))]])
noncomputable def p_M_paysOff : mRec := (5, 0, 1, 12, false, [2, 50],
  [[(0, (.iconst 0, 1, 0, 4)), (1, (.istore_n 1, 2, 0, 0)), (2, (.iload_n 1, 3, 0, 0)), (3, (.aload_n 0, 4, 0, 0)), (4, (.getfield 108, 7, 19, 723)), (7, (.if_icmp .ge 31, 10, 38, 0)), (10, (.aload_n 0, 11, 0, 0)), (11, (.getfield 79, 14, 37, 741)), (14, (.iload_n 1, 15, 0, 0)), (15, (.aload_n 0, 16, 0, 0))],
   [(16, (.getfield 46, 19, 15, 719)), (19, (.iload_n 1, 20, 0, 0)), (20, (.laload, 21, 0, 0)), (21, (.invokestatic 91, 24, 0, 9006)), (24, (.lastore, 25, 0, 0)), (25, (.aload_n 0, 26, 0, 0)), (26, (.getfield 82, 29, 38, 742)), (29, (.iload_n 1, 30, 0, 0)), (30, (.iconst (-1), 31, 0, 1)), (31, (.iastore, 32, 0, 0))],
   [(32, (.iinc 1 1, 35, 0, 3)), (35, (.goto (-33), 38, 2, 0)), (38, (.aload_n 0, 39, 0, 0)), (39, (.iconst 1, 40, 0, 3)), (40, (.invokevirtual 429, 43, 0, 360)), (43, (.istore_n 1, 44, 0, 0)), (44, (.aload_n 0, 45, 0, 0)), (45, (.iconst (-1), 46, 0, 1)), (46, (.invokevirtual 429, 49, 0, 360))],
   [(49, (.istore_n 2, 50, 0, 0)), (50, (.iload_n 1, 51, 0, 0)), (51, (.iconst (-1), 52, 0, 1)), (52, (.if_icmp .eq 73, 55, 125, 0)), (55, (.iload_n 2, 56, 0, 0)), (56, (.iconst (-1), 57, 0, 1)), (57, (.if_icmp .eq 68, 60, 125, 0)), (60, (.aload_n 0, 61, 0, 0)), (61, (.getfield 79, 64, 37, 741))],
   [(64, (.iload_n 1, 65, 0, 0)), (65, (.laload, 66, 0, 0)), (66, (.aload_n 0, 67, 0, 0)), (67, (.getfield 79, 70, 37, 741)), (70, (.iload_n 2, 71, 0, 0)), (71, (.laload, 72, 0, 0)), (72, (.invokestatic 130, 75, 0, 9005)), (75, (.lstore_n 3, 76, 0, 0)), (76, (.aload_n 0, 77, 0, 0)), (77, (.getfield 79, 80, 37, 741))],
   [(80, (.iload_n 1, 81, 0, 0)), (81, (.dup2, 82, 0, 0)), (82, (.laload, 83, 0, 0)), (83, (.lload_n 3, 84, 0, 0)), (84, (.lsub, 85, 0, 0)), (85, (.lastore, 86, 0, 0)), (86, (.aload_n 0, 87, 0, 0)), (87, (.getfield 79, 90, 37, 741)), (90, (.iload_n 2, 91, 0, 0)), (91, (.dup2, 92, 0, 0)), (92, (.laload, 93, 0, 0)), (93, (.lload_n 3, 94, 0, 0)), (94, (.lsub, 95, 0, 0)), (95, (.lastore, 96, 0, 0))],
   [(96, (.aload_n 0, 97, 0, 0)), (97, (.getfield 82, 100, 38, 742)), (100, (.iload_n 1, 101, 0, 0)), (101, (.iload_n 2, 102, 0, 0)), (102, (.iastore, 103, 0, 0)), (103, (.aload_n 0, 104, 0, 0)), (104, (.getfield 82, 107, 38, 742)), (107, (.iload_n 2, 108, 0, 0)), (108, (.iload_n 1, 109, 0, 0)), (109, (.iastore, 110, 0, 0)), (110, (.aload_n 0, 111, 0, 0)), (111, (.iconst 1, 112, 0, 3))],
   [(112, (.invokevirtual 429, 115, 0, 360)), (115, (.istore_n 1, 116, 0, 0)), (116, (.aload_n 0, 117, 0, 0)), (117, (.iconst (-1), 118, 0, 1)), (118, (.invokevirtual 429, 121, 0, 360)), (121, (.istore_n 2, 122, 0, 0)), (122, (.goto (-72), 125, 50, 0)), (125, (.return_, 126, 0, 0))]])
noncomputable def p_M_firstOf : mRec := (5, 1, 2, 12, false, [4],
  [[(0, (.iconst (-1), 1, 0, 1)), (1, (.istore_n 2, 2, 0, 0)), (2, (.iconst 0, 3, 0, 4)), (3, (.istore_n 3, 4, 0, 0)), (4, (.iload_n 3, 5, 0, 0)), (5, (.aload_n 0, 6, 0, 0)), (6, (.getfield 108, 9, 19, 723)), (9, (.if_icmp .ge 82, 12, 91, 0)), (12, (.aload_n 0, 13, 0, 0)), (13, (.getfield 79, 16, 37, 741))],
   [(16, (.iload_n 3, 17, 0, 0)), (17, (.laload, 18, 0, 0)), (18, (.lconst 0, 19, 0, 0)), (19, (.lcmp, 23, 55, 5)), (20, (.ifCond .le 35, 23, 55, 0)), (23, (.aload_n 0, 24, 0, 0)), (24, (.getfield 46, 27, 15, 719)), (27, (.iload_n 3, 28, 0, 0)), (28, (.laload, 29, 0, 0)), (29, (.lconst 0, 30, 0, 0)), (30, (.lcmp, 34, 38, 5)), (31, (.ifCond .le 7, 34, 38, 0))],
   [(34, (.iconst 1, 35, 0, 3)), (35, (.goto 4, 38, 39, 0)), (38, (.iconst 0, 39, 0, 4)), (39, (.iload_n 1, 40, 0, 0)), (40, (.ifCond .le 7, 43, 47, 0)), (43, (.iconst 1, 44, 0, 3)), (44, (.goto 4, 47, 48, 0)), (47, (.iconst 0, 48, 0, 4))],
   [(48, (.if_icmp .ne 7, 51, 55, 0)), (51, (.iconst 1, 52, 0, 3)), (52, (.goto 4, 55, 56, 0)), (55, (.iconst 0, 56, 0, 4)), (56, (.istore 4, 58, 0, 0)), (58, (.iload 4, 60, 0, 0)), (60, (.ifCond .eq 25, 63, 85, 0)), (63, (.iload_n 2, 64, 0, 0))],
   [(64, (.iconst (-1), 65, 0, 1)), (65, (.if_icmp .eq 18, 68, 83, 0)), (68, (.aload_n 0, 69, 0, 0)), (69, (.getfield 50, 72, 16, 720)), (72, (.iload_n 3, 73, 0, 0)), (73, (.iaload, 74, 0, 0)), (74, (.aload_n 0, 75, 0, 0)), (75, (.getfield 50, 78, 16, 720)), (78, (.iload_n 2, 79, 0, 0)), (79, (.iaload, 80, 0, 0))],
   [(80, (.if_icmp .ge 5, 83, 85, 0)), (83, (.iload_n 3, 84, 0, 0)), (84, (.istore_n 2, 85, 0, 0)), (85, (.iinc 3 1, 88, 0, 3)), (88, (.goto (-84), 91, 4, 0)), (91, (.iload_n 2, 92, 0, 0)), (92, (.ireturn, 93, 0, 0))]])
noncomputable def p_M_gone : mRec := (2, 1, 2, 12, false, [],
  [[(0, (.aload_n 0, 1, 0, 0)), (1, (.iload_n 1, 2, 0, 0)), (2, (.invokevirtual 339, 5, 0, 295)), (5, (.ifCond .ne 6, 8, 11, 0)), (8, (.bipush (-2), 10, 0, 32)), (10, (.ireturn, 11, 0, 0)), (11, (.aload_n 0, 12, 0, 0)), (12, (.invokevirtual 432, 15, 0, 359)), (15, (.aload_n 0, 16, 0, 0))],
   [(16, (.getfield 79, 19, 37, 741)), (19, (.iload_n 1, 20, 0, 0)), (20, (.laload, 21, 0, 0)), (21, (.lconst 0, 22, 0, 0)), (22, (.lcmp, 26, 37, 4)), (23, (.ifCond .gt 14, 26, 37, 0)), (26, (.aload_n 0, 27, 0, 0)), (27, (.getfield 46, 30, 15, 719)), (30, (.iload_n 1, 31, 0, 0)), (31, (.laload, 32, 0, 0))],
   [(32, (.lconst 0, 33, 0, 0)), (33, (.lcmp, 37, 41, 1)), (34, (.ifCond .ne 7, 37, 41, 0)), (37, (.iconst (-1), 38, 0, 1)), (38, (.goto 23, 41, 61, 0)), (41, (.aload_n 0, 42, 0, 0)), (42, (.getfield 50, 45, 16, 720)), (45, (.iload_n 1, 46, 0, 0)), (46, (.iaload, 47, 0, 0)), (47, (.aload_n 0, 48, 0, 0))],
   [(48, (.getfield 50, 51, 16, 720)), (51, (.aload_n 0, 52, 0, 0)), (52, (.getfield 82, 55, 38, 742)), (55, (.iload_n 1, 56, 0, 0)), (56, (.iaload, 57, 0, 0)), (57, (.iaload, 58, 0, 0)), (58, (.invokestatic 120, 61, 0, 9002)), (61, (.ireturn, 62, 0, 0))]])
noncomputable def p_M_oldest : mRec := (1, 1, 1, 12, false, [],
  [[(0, (.aload_n 0, 1, 0, 0)), (1, (.invokevirtual 349, 4, 0, 297)), (4, (.ifCond .ne 6, 7, 10, 0)), (7, (.bipush (-2), 9, 0, 32)), (9, (.ireturn, 10, 0, 0)), (10, (.aload_n 0, 11, 0, 0)), (11, (.invokevirtual 432, 14, 0, 359)), (14, (.aload_n 0, 15, 0, 0)), (15, (.iconst (-1), 16, 0, 1))],
   [(16, (.invokevirtual 429, 19, 0, 360)), (19, (.ireturn, 20, 0, 0))]])
noncomputable def p_M_ideal : mRec := (6, 2, 2, 12, false, [19, 71, 112],
  [[(0, (.aload_n 0, 1, 0, 0)), (1, (.iload_n 1, 2, 0, 0)), (2, (.invokevirtual 358, 5, 0, 306)), (5, (.ifCond .ne 7, 8, 12, 0)), (8, (.ldc2_w 345, 11, 0, 3)), (11, (.lreturn, 12, 0, 0)), (12, (.aload_n 0, 13, 0, 0)), (13, (.getfield 108, 16, 19, 723))],
   [(16, (.istore_n 2, 17, 0, 0)), (17, (.iconst 0, 18, 0, 4)), (18, (.istore_n 3, 19, 0, 0)), (19, (.iload_n 3, 20, 0, 0)), (20, (.iload_n 2, 21, 0, 0)), (21, (.if_icmp .ge 45, 24, 66, 0)), (24, (.aload_n 0, 25, 0, 0)), (25, (.getfield 85, 28, 39, 743)), (28, (.iload_n 3, 29, 0, 0)), (29, (.aload_n 0, 30, 0, 0)), (30, (.getfield 46, 33, 15, 719))],
   [(33, (.iload_n 3, 34, 0, 0)), (34, (.laload, 35, 0, 0)), (35, (.lastore, 36, 0, 0)), (36, (.aload_n 0, 37, 0, 0)), (37, (.getfield 43, 40, 14, 718)), (40, (.iload_n 3, 41, 0, 0)), (41, (.iaload, 42, 0, 0)), (42, (.ifCond .ne 11, 45, 53, 0)), (45, (.aload_n 0, 46, 0, 0)), (46, (.iload_n 3, 47, 0, 0)), (47, (.invokevirtual 435, 50, 0, 364))],
   [(50, (.ifCond .eq 10, 53, 60, 0)), (53, (.aload_n 0, 54, 0, 0)), (54, (.getfield 46, 57, 15, 719)), (57, (.iload_n 3, 58, 0, 0)), (58, (.lconst 0, 59, 0, 0)), (59, (.lastore, 60, 0, 0)), (60, (.iinc 3 1, 63, 0, 3)), (63, (.goto (-44), 66, 19, 0))],
   [(66, (.lconst 0, 67, 0, 0)), (67, (.lstore_n 3, 68, 0, 0)), (68, (.iconst 0, 69, 0, 4)), (69, (.istore 5, 71, 0, 0)), (71, (.iload 5, 73, 0, 0)), (73, (.iload_n 1, 74, 0, 0)), (74, (.if_icmp .gt 30, 77, 104, 0)), (77, (.aload_n 0, 78, 0, 0)), (78, (.iload 5, 80, 0, 0))],
   [(80, (.invokevirtual 161, 83, 0, 279)), (83, (.lstore_n 3, 84, 0, 0)), (84, (.aload_n 0, 85, 0, 0)), (85, (.iconst 1, 86, 0, 3)), (86, (.lload_n 3, 87, 0, 0)), (87, (.aload_n 0, 88, 0, 0)), (88, (.iload 5, 90, 0, 0)), (90, (.invokevirtual 164, 93, 0, 287)), (93, (.iload 5, 95, 0, 0)), (95, (.invokevirtual 168, 98, 0, 277))],
   [(98, (.iinc 5 1, 101, 0, 3)), (101, (.goto (-30), 104, 71, 0)), (104, (.aload_n 0, 105, 0, 0)), (105, (.iload_n 2, 106, 0, 0)), (106, (.putfield 108, 109, 19, 723)), (109, (.iconst 0, 110, 0, 4)), (110, (.istore 5, 112, 0, 0))],
   [(112, (.iload 5, 114, 0, 0)), (114, (.iload_n 2, 115, 0, 0)), (115, (.if_icmp .ge 23, 118, 138, 0)), (118, (.aload_n 0, 119, 0, 0)), (119, (.getfield 46, 122, 15, 719)), (122, (.iload 5, 124, 0, 0)), (124, (.aload_n 0, 125, 0, 0)), (125, (.getfield 85, 128, 39, 743))],
   [(128, (.iload 5, 130, 0, 0)), (130, (.laload, 131, 0, 0)), (131, (.lastore, 132, 0, 0)), (132, (.iinc 5 1, 135, 0, 3)), (135, (.goto (-23), 138, 112, 0)), (138, (.lload_n 3, 139, 0, 0)), (139, (.lreturn, 140, 0, 0))]])
noncomputable def p_M_isTurned : mRec := (3, 3, 2, 12, false, [2],
  [[(0, (.iconst 0, 1, 0, 4)), (1, (.istore_n 2, 2, 0, 0)), (2, (.iload_n 2, 3, 0, 0)), (3, (.aload_n 0, 4, 0, 0)), (4, (.getfield 108, 7, 19, 723)), (7, (.if_icmp .ge 31, 10, 38, 0)), (10, (.aload_n 0, 11, 0, 0)), (11, (.getfield 43, 14, 14, 718)), (14, (.iload_n 2, 15, 0, 0)), (15, (.iaload, 16, 0, 0))],
   [(16, (.iconst 3, 17, 0, 13)), (17, (.if_icmp .ne 15, 20, 32, 0)), (20, (.aload_n 0, 21, 0, 0)), (21, (.getfield 56, 24, 18, 722)), (24, (.iload_n 2, 25, 0, 0)), (25, (.iaload, 26, 0, 0)), (26, (.iload_n 1, 27, 0, 0)), (27, (.if_icmp .ne 5, 30, 32, 0)), (30, (.iconst 1, 31, 0, 3)), (31, (.ireturn, 32, 0, 0))],
   [(32, (.iinc 2 1, 35, 0, 3)), (35, (.goto (-33), 38, 2, 0)), (38, (.iconst 0, 39, 0, 4)), (39, (.ireturn, 40, 0, 0))]])
noncomputable def p_M_pay : mRec := (3, 1, 3, 12, false, [],
  [[(0, (.aload_n 0, 1, 0, 0)), (1, (.iload_n 1, 2, 0, 0)), (2, (.iload_n 2, 3, 0, 0)), (3, (.iconst 1, 4, 0, 3)), (4, (.invokevirtual 445, 7, 0, 366)), (7, (.ireturn, 8, 0, 0))]])
noncomputable def p_M_pays : mRec := (4, 1, 4, 12, false, [],
  [[(0, (.aload_n 0, 1, 0, 0)), (1, (.iload_n 1, 2, 0, 0)), (2, (.invokevirtual 355, 5, 0, 300)), (5, (.ifCond .eq 15, 8, 20, 0)), (8, (.iload_n 2, 9, 0, 0)), (9, (.i2l, 10, 0, 0)), (10, (.lconst 1, 11, 0, 14)), (11, (.ldc2_w 379, 14, 0, 5)), (14, (.invokestatic 101, 17, 0, 250))],
   [(17, (.ifCond .ne 6, 20, 23, 0)), (20, (.bipush (-2), 22, 0, 32)), (22, (.ireturn, 23, 0, 0)), (23, (.aload_n 0, 24, 0, 0)), (24, (.invokevirtual 288, 27, 0, 272)), (27, (.ifCond .eq 10, 30, 37, 0)), (30, (.aload_n 0, 31, 0, 0)), (31, (.invokevirtual 438, 34, 0, 367))],
   [(34, (.ifCond .eq 8, 37, 42, 0)), (37, (.bipush (-5), 39, 0, 38)), (39, (.goto 13, 42, 52, 0)), (42, (.aload_n 0, 43, 0, 0)), (43, (.iconst 3, 44, 0, 13)), (44, (.iload_n 1, 45, 0, 0)), (45, (.iload_n 3, 46, 0, 0)), (46, (.iload_n 2, 47, 0, 0)), (47, (.imul, 48, 0, 0))],
   [(48, (.iconst 0, 49, 0, 4)), (49, (.invokevirtual 441, 52, 0, 368)), (52, (.ireturn, 53, 0, 0))]])
noncomputable def p_M_isFull : mRec := (1, 3, 1, 12, false, [],
  [[(0, (.aload_n 0, 1, 0, 0)), (1, (.invokevirtual 336, 4, 0, 293)), (4, (.bipush 20, 6, 0, 0)), (6, (.if_icmp .ne 7, 9, 13, 0)), (9, (.iconst 1, 10, 0, 3)), (10, (.goto 4, 13, 14, 0)), (13, (.iconst 0, 14, 0, 4)), (14, (.ireturn, 15, 0, 0))]])
noncomputable def p_M_act : mRec := (5, 1, 5, 12, false, [],
  [[(0, (.aload_n 0, 1, 0, 0)), (1, (.iload_n 1, 2, 0, 0)), (2, (.iload_n 2, 3, 0, 0)), (3, (.iload_n 3, 4, 0, 0)), (4, (.iload 4, 6, 0, 0)), (6, (.iconst 0, 7, 0, 4)), (7, (.invokevirtual 274, 10, 0, 267)), (10, (.aload_n 0, 11, 0, 0)), (11, (.aload_n 0, 12, 0, 0)), (12, (.getfield 11, 15, 1, 705)), (15, (.iconst 5, 16, 0, 27))],
   [(16, (.iaload, 17, 0, 0)), (17, (.iconst 1, 18, 0, 3)), (18, (.isub, 19, 0, 0)), (19, (.invokevirtual 194, 22, 0, 275)), (22, (.ireturn, 23, 0, 0))]])
noncomputable def p_M_draw : mRec := (3, 1, 3, 12, false, [],
  [[(0, (.aload_n 0, 1, 0, 0)), (1, (.iload_n 1, 2, 0, 0)), (2, (.iload_n 2, 3, 0, 0)), (3, (.iconst (-1), 4, 0, 1)), (4, (.invokevirtual 445, 7, 0, 366)), (7, (.ireturn, 8, 0, 0))]])
noncomputable def p_M_reverse : mRec := (4, 1, 2, 12, false, [49],
  [[(0, (.aload_n 0, 1, 0, 0)), (1, (.iload_n 1, 2, 0, 0)), (2, (.invokevirtual 339, 5, 0, 295)), (5, (.ifCond .ne 6, 8, 11, 0)), (8, (.bipush (-2), 10, 0, 32)), (10, (.ireturn, 11, 0, 0)), (11, (.aload_n 0, 12, 0, 0)), (12, (.getfield 43, 15, 14, 718)), (15, (.iload_n 1, 16, 0, 0))],
   [(16, (.iaload, 17, 0, 0)), (17, (.ifCond .ne 25, 20, 42, 0)), (20, (.aload_n 0, 21, 0, 0)), (21, (.iload_n 1, 22, 0, 0)), (22, (.invokevirtual 435, 25, 0, 364)), (25, (.ifCond .ne 17, 28, 42, 0)), (28, (.aload_n 0, 29, 0, 0)), (29, (.invokevirtual 288, 32, 0, 272))],
   [(32, (.ifCond .eq 10, 35, 42, 0)), (35, (.aload_n 0, 36, 0, 0)), (36, (.invokevirtual 438, 39, 0, 367)), (39, (.ifCond .eq 6, 42, 45, 0)), (42, (.bipush (-5), 44, 0, 38)), (44, (.ireturn, 45, 0, 0)), (45, (.iconst 0, 46, 0, 4)), (46, (.istore_n 2, 47, 0, 0)), (47, (.iconst 0, 48, 0, 4))],
   [(48, (.istore_n 3, 49, 0, 0)), (49, (.iload_n 3, 50, 0, 0)), (50, (.iload_n 1, 51, 0, 0)), (51, (.if_icmp .ge 26, 54, 77, 0)), (54, (.iload_n 2, 55, 0, 0)), (55, (.aload_n 0, 56, 0, 0)), (56, (.getfield 43, 59, 14, 718)), (59, (.iload_n 3, 60, 0, 0)), (60, (.iaload, 61, 0, 0)), (61, (.ifCond .ne 7, 64, 68, 0))],
   [(64, (.iconst 1, 65, 0, 3)), (65, (.goto 4, 68, 69, 0)), (68, (.iconst 0, 69, 0, 4)), (69, (.iadd, 70, 0, 0)), (70, (.istore_n 2, 71, 0, 0)), (71, (.iinc 3 1, 74, 0, 3)), (74, (.goto (-25), 77, 49, 0)), (77, (.aload_n 0, 78, 0, 0)), (78, (.bipush 6, 80, 0, 26))],
   [(80, (.iload_n 2, 81, 0, 0)), (81, (.iconst 0, 82, 0, 4)), (82, (.iconst 0, 83, 0, 4)), (83, (.invokevirtual 441, 86, 0, 368)), (86, (.ireturn, 87, 0, 0))]])
noncomputable def p_M_change : mRec := (4, 1, 4, 12, false, [],
  [[(0, (.aload_n 0, 1, 0, 0)), (1, (.iload_n 1, 2, 0, 0)), (2, (.invokevirtual 355, 5, 0, 300)), (5, (.ifCond .eq 52, 8, 57, 0)), (8, (.iload_n 2, 9, 0, 0)), (9, (.i2l, 10, 0, 0)), (10, (.lconst 0, 11, 0, 0)), (11, (.ldc2_w 449, 14, 0, 23)), (14, (.invokestatic 101, 17, 0, 250))],
   [(17, (.ifCond .eq 40, 20, 57, 0)), (20, (.iload_n 2, 21, 0, 0)), (21, (.iconst 4, 22, 0, 14)), (22, (.if_icmp .ge 11, 25, 33, 0)), (25, (.aload_n 0, 26, 0, 0)), (26, (.iload_n 2, 27, 0, 0)), (27, (.invokevirtual 352, 30, 0, 299)), (30, (.ifCond .eq 27, 33, 57, 0))],
   [(33, (.iload_n 3, 34, 0, 0)), (34, (.i2l, 35, 0, 0)), (35, (.lconst 0, 36, 0, 0)), (36, (.iload_n 2, 37, 0, 0)), (37, (.bipush 6, 39, 0, 26)), (39, (.if_icmp .ne 9, 42, 48, 0)), (42, (.ldc2_w 379, 45, 0, 5)), (45, (.goto 6, 48, 51, 0))],
   [(48, (.ldc2_w 400, 51, 0, 19)), (51, (.invokestatic 101, 54, 0, 250)), (54, (.ifCond .ne 6, 57, 60, 0)), (57, (.bipush (-2), 59, 0, 32)), (59, (.ireturn, 60, 0, 0)), (60, (.aload_n 0, 61, 0, 0)), (61, (.invokevirtual 438, 64, 0, 367))],
   [(64, (.ifCond .eq 8, 67, 72, 0)), (67, (.bipush (-5), 69, 0, 38)), (69, (.goto 11, 72, 80, 0)), (72, (.aload_n 0, 73, 0, 0)), (73, (.iconst 2, 74, 0, 8)), (74, (.iload_n 1, 75, 0, 0)), (75, (.iload_n 2, 76, 0, 0)), (76, (.iload_n 3, 77, 0, 0)), (77, (.invokevirtual 441, 80, 0, 368))],
   [(80, (.ireturn, 81, 0, 0))]])
noncomputable def p_M_close : mRec := (1, 1, 1, 12, false, [],
  [[(0, (.aload_n 0, 1, 0, 0)), (1, (.invokevirtual 349, 4, 0, 297)), (4, (.ifCond .ne 6, 7, 10, 0)), (7, (.bipush (-2), 9, 0, 32)), (9, (.ireturn, 10, 0, 0)), (10, (.aload_n 0, 11, 0, 0)), (11, (.invokevirtual 288, 14, 0, 272)), (14, (.ifCond .eq 10, 17, 24, 0))],
   [(17, (.aload_n 0, 18, 0, 0)), (18, (.invokevirtual 438, 21, 0, 367)), (21, (.ifCond .eq 8, 24, 29, 0)), (24, (.bipush (-5), 26, 0, 38)), (26, (.goto 11, 29, 37, 0)), (29, (.aload_n 0, 30, 0, 0)), (30, (.iconst 4, 31, 0, 14)), (31, (.iconst 0, 32, 0, 4))],
   [(32, (.iconst 0, 33, 0, 4)), (33, (.iconst 0, 34, 0, 4)), (34, (.invokevirtual 441, 37, 0, 368)), (37, (.ireturn, 38, 0, 0))]])
noncomputable def p_M_rerun : mRec := (1, 1, 1, 12, false, [],
  [[(0, (.aload_n 0, 1, 0, 0)), (1, (.invokevirtual 349, 4, 0, 297)), (4, (.ifCond .ne 6, 7, 10, 0)), (7, (.bipush (-2), 9, 0, 32)), (9, (.ireturn, 10, 0, 0)), (10, (.aload_n 0, 11, 0, 0)), (11, (.invokevirtual 288, 14, 0, 272)), (14, (.ifCond .eq 10, 17, 24, 0))],
   [(17, (.aload_n 0, 18, 0, 0)), (18, (.invokevirtual 438, 21, 0, 367)), (21, (.ifCond .eq 8, 24, 29, 0)), (24, (.bipush (-5), 26, 0, 38)), (26, (.goto 11, 29, 37, 0)), (29, (.aload_n 0, 30, 0, 0)), (30, (.iconst 5, 31, 0, 27)), (31, (.iconst 0, 32, 0, 4))],
   [(32, (.iconst 0, 33, 0, 4)), (33, (.iconst 0, 34, 0, 4)), (34, (.invokevirtual 441, 37, 0, 368)), (37, (.ireturn, 38, 0, 0))]])
noncomputable def p_M_image : mRec := (3, 1, 2, 12, false, [24],
  [[(0, (.iload_n 1, 1, 0, 0)), (1, (.i2l, 2, 0, 0)), (2, (.lconst 0, 3, 0, 0)), (3, (.ldc2_w 139, 6, 0, 10)), (6, (.invokestatic 101, 9, 0, 250)), (9, (.ifCond .eq 10, 12, 19, 0)), (12, (.aload_n 0, 13, 0, 0)), (13, (.invokevirtual 349, 16, 0, 297))],
   [(16, (.ifCond .ne 6, 19, 22, 0)), (19, (.bipush (-2), 21, 0, 32)), (21, (.ireturn, 22, 0, 0)), (22, (.iconst 0, 23, 0, 4)), (23, (.istore_n 2, 24, 0, 0)), (24, (.iload_n 2, 25, 0, 0)), (25, (.sipush 606, 28, 0, 40)), (28, (.if_icmp .ge 27, 31, 55, 0)), (31, (.aload_n 0, 32, 0, 0))],
   [(32, (.getfield 18, 35, 3, 707)), (35, (.sipush 606, 38, 0, 40)), (38, (.iload_n 1, 39, 0, 0)), (39, (.imul, 40, 0, 0)), (40, (.iload_n 2, 41, 0, 0)), (41, (.iadd, 42, 0, 0)), (42, (.aload_n 0, 43, 0, 0)), (43, (.getfield 11, 46, 1, 705)), (46, (.iload_n 2, 47, 0, 0)), (47, (.iaload, 48, 0, 0))],
   [(48, (.iastore, 49, 0, 0)), (49, (.iinc 2 1, 52, 0, 3)), (52, (.goto (-28), 55, 24, 0)), (55, (.aload_n 0, 56, 0, 0)), (56, (.getfield 21, 59, 4, 708)), (59, (.iload_n 1, 60, 0, 0)), (60, (.iconst 1, 61, 0, 3)), (61, (.bastore, 62, 0, 0)), (62, (.iconst 0, 63, 0, 4)), (63, (.ireturn, 64, 0, 0))]])
noncomputable def p_M_back : mRec := (3, 1, 2, 12, false, [29],
  [[(0, (.iload_n 1, 1, 0, 0)), (1, (.i2l, 2, 0, 0)), (2, (.lconst 0, 3, 0, 0)), (3, (.ldc2_w 139, 6, 0, 10)), (6, (.invokestatic 101, 9, 0, 250)), (9, (.ifCond .ne 6, 12, 15, 0)), (12, (.bipush (-2), 14, 0, 32)), (14, (.ireturn, 15, 0, 0)), (15, (.aload_n 0, 16, 0, 0))],
   [(16, (.getfield 21, 19, 4, 708)), (19, (.iload_n 1, 20, 0, 0)), (20, (.baload, 21, 0, 0)), (21, (.ifCond .ne 6, 24, 27, 0)), (24, (.bipush (-6), 26, 0, 39)), (26, (.ireturn, 27, 0, 0)), (27, (.iconst 0, 28, 0, 4)), (28, (.istore_n 2, 29, 0, 0)), (29, (.iload_n 2, 30, 0, 0)), (30, (.sipush 606, 33, 0, 40))],
   [(33, (.if_icmp .ge 27, 36, 60, 0)), (36, (.aload_n 0, 37, 0, 0)), (37, (.getfield 11, 40, 1, 705)), (40, (.iload_n 2, 41, 0, 0)), (41, (.aload_n 0, 42, 0, 0)), (42, (.getfield 18, 45, 3, 707)), (45, (.sipush 606, 48, 0, 40))],
   [(48, (.iload_n 1, 49, 0, 0)), (49, (.imul, 50, 0, 0)), (50, (.iload_n 2, 51, 0, 0)), (51, (.iadd, 52, 0, 0)), (52, (.iaload, 53, 0, 0)), (53, (.iastore, 54, 0, 0)), (54, (.iinc 2 1, 57, 0, 3)), (57, (.goto (-28), 60, 29, 0)), (60, (.aload_n 0, 61, 0, 0)), (61, (.invokevirtual 333, 64, 0, 291))],
   [(64, (.iconst 0, 65, 0, 4)), (65, (.ireturn, 66, 0, 0))]])
noncomputable def p_M_undo : mRec := (1, 1, 1, 12, false, [],
  [[(0, (.aload_n 0, 1, 0, 0)), (1, (.invokevirtual 349, 4, 0, 297)), (4, (.ifCond .ne 6, 7, 10, 0)), (7, (.bipush (-2), 9, 0, 32)), (9, (.ireturn, 10, 0, 0)), (10, (.aload_n 0, 11, 0, 0)), (11, (.invokevirtual 336, 14, 0, 293)), (14, (.ifCond .ne 6, 17, 20, 0))],
   [(17, (.bipush (-5), 19, 0, 38)), (19, (.ireturn, 20, 0, 0)), (20, (.aload_n 0, 21, 0, 0)), (21, (.getfield 11, 24, 1, 705)), (24, (.iconst 5, 25, 0, 27)), (25, (.dup2, 26, 0, 0)), (26, (.iaload, 27, 0, 0)), (27, (.iconst 1, 28, 0, 3)), (28, (.isub, 29, 0, 0)), (29, (.iastore, 30, 0, 0)), (30, (.aload_n 0, 31, 0, 0)), (31, (.invokevirtual 333, 34, 0, 291))],
   [(34, (.aload_n 0, 35, 0, 0)), (35, (.invokevirtual 336, 38, 0, 293)), (38, (.ireturn, 39, 0, 0))]])
noncomputable def p_M_anew : mRec := (2, 1, 1, 12, false, [],
  [[(0, (.aload_n 0, 1, 0, 0)), (1, (.invokevirtual 349, 4, 0, 297)), (4, (.ifCond .ne 6, 7, 10, 0)), (7, (.bipush (-2), 9, 0, 32)), (9, (.ireturn, 10, 0, 0)), (10, (.aload_n 0, 11, 0, 0)), (11, (.invokevirtual 336, 14, 0, 293)), (14, (.istore_n 1, 15, 0, 0)), (15, (.aload_n 0, 16, 0, 0))],
   [(16, (.getfield 11, 19, 1, 705)), (19, (.iconst 5, 20, 0, 27)), (20, (.aload_n 0, 21, 0, 0)), (21, (.getfield 11, 24, 1, 705)), (24, (.iconst 4, 25, 0, 14)), (25, (.iaload, 26, 0, 0)), (26, (.iastore, 27, 0, 0)), (27, (.aload_n 0, 28, 0, 0)), (28, (.invokevirtual 333, 31, 0, 291)), (31, (.iload_n 1, 32, 0, 0))],
   [(32, (.ireturn, 33, 0, 0))]])
set_option maxRecDepth 100000 in
noncomputable def p_law : mRec := (4, 3, 1, 0, false, [18],
  [[(0, (.new 7, 3, 0, 0)), (3, (.dup, 4, 0, 0)), (4, (.invokespecial 9, 7, 0, 9000)), (7, (.astore_n 1, 8, 0, 0)), (8, (.new 10, 11, 0, 0)), (11, (.dup, 12, 0, 0)), (12, (.invokespecial 12, 15, 0, 9000)), (15, (.astore_n 2, 16, 0, 0))],
   [(16, (.iconst 0, 17, 0, 4)), (17, (.istore_n 3, 18, 0, 0)), (18, (.iload_n 3, 19, 0, 0)), (19, (.aload_n 0, 20, 0, 0)), (20, (.arraylength, 21, 0, 0)), (21, (.bipush 6, 23, 0, 26)), (23, (.isub, 24, 0, 0)), (24, (.if_icmp .gt 1914, 27, 1938, 0)), (27, (.aload_n 0, 28, 0, 0)), (28, (.iload_n 3, 29, 0, 0)), (29, (.iaload, 30, 0, 0)), (30, (.bipush 63, 32, 0, 42))],
   [(32, (.iand, 33, 0, 0)), (33, (.tableswitch 1899 0 63 #[271, 334, 357, 370, 393, 416, 450, 473, 506, 539, 563, 597, 621, 655, 679, 703, 727, 750, 784, 817, 830, 853, 867, 880, 893, 927, 941, 965, 999, 1022, 1056, 1089, 1123, 1147, 1170, 1193, 1226, 1260, 1294, 1317, 1351, 1374, 1387, 1420, 1443, 1456, 1470, 1484, 1508, 1532, 1576, 1609, 1633, 1656, 1669, 1702, 1735, 1758, 1801, 1814, 1827, 1850, 1873, 1886], 304, 0, 14))],
   [],
   [],
   [],
   [],
   [],
   [],
   [],
   [],
   [],
   [],
   [],
   [],
   [],
   [],
   [],
   [],
   [(304, (.aload_n 1, 305, 0, 0)), (305, (.aload_n 0, 306, 0, 0)), (306, (.iload_n 3, 307, 0, 0)), (307, (.iconst 1, 308, 0, 3)), (308, (.iadd, 309, 0, 0)), (309, (.iaload, 310, 0, 0)), (310, (.aload_n 0, 311, 0, 0)), (311, (.iload_n 3, 312, 0, 0)), (312, (.iconst 2, 313, 0, 8)), (313, (.iadd, 314, 0, 0)), (314, (.iaload, 315, 0, 0)), (315, (.aload_n 0, 316, 0, 0)), (316, (.iload_n 3, 317, 0, 0)), (317, (.iconst 3, 318, 0, 13)), (318, (.iadd, 319, 0, 0)), (319, (.iaload, 320, 0, 0))],
   [(320, (.aload_n 0, 321, 0, 0)), (321, (.iload_n 3, 322, 0, 0)), (322, (.iconst 4, 323, 0, 14)), (323, (.iadd, 324, 0, 0)), (324, (.iaload, 325, 0, 0)), (325, (.aload_n 0, 326, 0, 0)), (326, (.iload_n 3, 327, 0, 0)), (327, (.iconst 5, 328, 0, 27)), (328, (.iadd, 329, 0, 0)), (329, (.iaload, 330, 0, 0)), (330, (.invokevirtual 13, 333, 0, 0)), (333, (.aload_n 2, 334, 0, 0)), (334, (.aload_n 0, 335, 0, 0)), (335, (.iload_n 3, 336, 0, 0))],
   [(336, (.iconst 1, 337, 0, 3)), (337, (.iadd, 338, 0, 0)), (338, (.iaload, 339, 0, 0)), (339, (.aload_n 0, 340, 0, 0)), (340, (.iload_n 3, 341, 0, 0)), (341, (.iconst 2, 342, 0, 8)), (342, (.iadd, 343, 0, 0)), (343, (.iaload, 344, 0, 0)), (344, (.aload_n 0, 345, 0, 0)), (345, (.iload_n 3, 346, 0, 0)), (346, (.iconst 3, 347, 0, 13)), (347, (.iadd, 348, 0, 0)), (348, (.iaload, 349, 0, 0)), (349, (.aload_n 0, 350, 0, 0)), (350, (.iload_n 3, 351, 0, 0)), (351, (.iconst 4, 352, 0, 14))],
   [(352, (.iadd, 353, 0, 0)), (353, (.iaload, 354, 0, 0)), (354, (.aload_n 0, 355, 0, 0)), (355, (.iload_n 3, 356, 0, 0)), (356, (.iconst 5, 357, 0, 27)), (357, (.iadd, 358, 0, 0)), (358, (.iaload, 359, 0, 0)), (359, (.invokevirtual 17, 362, 0, 248)), (362, (.if_icmp .eq 1570, 365, 1932, 0)), (365, (.iconst 0, 366, 0, 4)), (366, (.ireturn, 367, 0, 0)), (367, (.aload_n 1, 368, 0, 0))],
   [(368, (.aload_n 0, 369, 0, 0)), (369, (.iload_n 3, 370, 0, 0)), (370, (.iconst 1, 371, 0, 3)), (371, (.iadd, 372, 0, 0)), (372, (.iaload, 373, 0, 0)), (373, (.invokevirtual 18, 376, 0, 4)), (376, (.aload_n 2, 377, 0, 0)), (377, (.aload_n 0, 378, 0, 0)), (378, (.iload_n 3, 379, 0, 0)), (379, (.iconst 1, 380, 0, 3)), (380, (.iadd, 381, 0, 0)), (381, (.iaload, 382, 0, 0)), (382, (.invokevirtual 22, 385, 0, 249))],
   [(385, (.if_icmp .eq 1547, 388, 1932, 0)), (388, (.iconst 0, 389, 0, 4)), (389, (.ireturn, 390, 0, 0)), (390, (.aload_n 1, 391, 0, 0)), (391, (.invokevirtual 23, 394, 0, 6)), (394, (.aload_n 2, 395, 0, 0)), (395, (.invokevirtual 27, 398, 0, 252)), (398, (.if_icmp .eq 1534, 401, 1932, 0))],
   [(401, (.iconst 0, 402, 0, 4)), (402, (.ireturn, 403, 0, 0)), (403, (.aload_n 1, 404, 0, 0)), (404, (.aload_n 0, 405, 0, 0)), (405, (.iload_n 3, 406, 0, 0)), (406, (.iconst 1, 407, 0, 3)), (407, (.iadd, 408, 0, 0)), (408, (.iaload, 409, 0, 0)), (409, (.invokevirtual 28, 412, 0, 85)), (412, (.aload_n 2, 413, 0, 0)), (413, (.aload_n 0, 414, 0, 0)), (414, (.iload_n 3, 415, 0, 0)), (415, (.iconst 1, 416, 0, 3))],
   [(416, (.iadd, 417, 0, 0)), (417, (.iaload, 418, 0, 0)), (418, (.invokevirtual 31, 421, 0, 251)), (421, (.if_icmp .eq 1511, 424, 1932, 0)), (424, (.iconst 0, 425, 0, 4)), (425, (.ireturn, 426, 0, 0)), (426, (.aload_n 1, 427, 0, 0)), (427, (.aload_n 0, 428, 0, 0)), (428, (.iload_n 3, 429, 0, 0)), (429, (.iconst 1, 430, 0, 3)), (430, (.iadd, 431, 0, 0)), (431, (.iaload, 432, 0, 0))],
   [(432, (.invokevirtual 32, 435, 0, 87)), (435, (.aload_n 2, 436, 0, 0)), (436, (.aload_n 0, 437, 0, 0)), (437, (.iload_n 3, 438, 0, 0)), (438, (.iconst 1, 439, 0, 3)), (439, (.iadd, 440, 0, 0)), (440, (.iaload, 441, 0, 0)), (441, (.invokevirtual 35, 444, 0, 292)), (444, (.if_icmp .eq 1488, 447, 1932, 0)), (447, (.iconst 0, 448, 0, 4))],
   [(448, (.ireturn, 449, 0, 0)), (449, (.aload_n 1, 450, 0, 0)), (450, (.aload_n 0, 451, 0, 0)), (451, (.iload_n 3, 452, 0, 0)), (452, (.iconst 1, 453, 0, 3)), (453, (.iadd, 454, 0, 0)), (454, (.iaload, 455, 0, 0)), (455, (.aload_n 0, 456, 0, 0)), (456, (.iload_n 3, 457, 0, 0)), (457, (.iconst 2, 458, 0, 8)), (458, (.iadd, 459, 0, 0)), (459, (.iaload, 460, 0, 0)), (460, (.invokevirtual 36, 463, 0, 96)), (463, (.aload_n 2, 464, 0, 0))],
   [(464, (.aload_n 0, 465, 0, 0)), (465, (.iload_n 3, 466, 0, 0)), (466, (.iconst 1, 467, 0, 3)), (467, (.iadd, 468, 0, 0)), (468, (.iaload, 469, 0, 0)), (469, (.aload_n 0, 470, 0, 0)), (470, (.iload_n 3, 471, 0, 0)), (471, (.iconst 2, 472, 0, 8)), (472, (.iadd, 473, 0, 0)), (473, (.iaload, 474, 0, 0)), (474, (.invokevirtual 40, 477, 0, 294)), (477, (.lcmp, 481, 1932, 0)), (478, (.ifCond .eq 1454, 481, 1932, 0))],
   [(481, (.iconst 0, 482, 0, 4)), (482, (.ireturn, 483, 0, 0)), (483, (.aload_n 1, 484, 0, 0)), (484, (.aload_n 0, 485, 0, 0)), (485, (.iload_n 3, 486, 0, 0)), (486, (.iconst 1, 487, 0, 3)), (487, (.iadd, 488, 0, 0)), (488, (.iaload, 489, 0, 0)), (489, (.invokevirtual 41, 492, 0, 101)), (492, (.aload_n 2, 493, 0, 0)), (493, (.aload_n 0, 494, 0, 0)), (494, (.iload_n 3, 495, 0, 0)), (495, (.iconst 1, 496, 0, 3))],
   [(496, (.iadd, 497, 0, 0)), (497, (.iaload, 498, 0, 0)), (498, (.invokevirtual 44, 501, 0, 296)), (501, (.if_icmp .eq 1431, 504, 1932, 0)), (504, (.iconst 0, 505, 0, 4)), (505, (.ireturn, 506, 0, 0)), (506, (.aload_n 1, 507, 0, 0)), (507, (.aload_n 0, 508, 0, 0)), (508, (.iload_n 3, 509, 0, 0)), (509, (.iconst 1, 510, 0, 3)), (510, (.iadd, 511, 0, 0)), (511, (.iaload, 512, 0, 0))],
   [(512, (.aload_n 0, 513, 0, 0)), (513, (.iload_n 3, 514, 0, 0)), (514, (.iconst 2, 515, 0, 8)), (515, (.iadd, 516, 0, 0)), (516, (.iaload, 517, 0, 0)), (517, (.invokevirtual 45, 520, 0, 104)), (520, (.aload_n 2, 521, 0, 0)), (521, (.aload_n 0, 522, 0, 0)), (522, (.iload_n 3, 523, 0, 0)), (523, (.iconst 1, 524, 0, 3)), (524, (.iadd, 525, 0, 0)), (525, (.iaload, 526, 0, 0)), (526, (.aload_n 0, 527, 0, 0)), (527, (.iload_n 3, 528, 0, 0))],
   [(528, (.iconst 2, 529, 0, 8)), (529, (.iadd, 530, 0, 0)), (530, (.iaload, 531, 0, 0)), (531, (.invokevirtual 49, 534, 0, 298)), (534, (.if_icmp .eq 1398, 537, 1932, 0)), (537, (.iconst 0, 538, 0, 4)), (538, (.ireturn, 539, 0, 0)), (539, (.aload_n 1, 540, 0, 0)), (540, (.aload_n 0, 541, 0, 0)), (541, (.iload_n 3, 542, 0, 0)), (542, (.iconst 1, 543, 0, 3)), (543, (.iadd, 544, 0, 0))],
   [(544, (.iaload, 545, 0, 0)), (545, (.aload_n 0, 546, 0, 0)), (546, (.iload_n 3, 547, 0, 0)), (547, (.iconst 2, 548, 0, 8)), (548, (.iadd, 549, 0, 0)), (549, (.iaload, 550, 0, 0)), (550, (.invokevirtual 50, 553, 0, 108)), (553, (.aload_n 2, 554, 0, 0)), (554, (.aload_n 0, 555, 0, 0)), (555, (.iload_n 3, 556, 0, 0)), (556, (.iconst 1, 557, 0, 3)), (557, (.iadd, 558, 0, 0)), (558, (.iaload, 559, 0, 0)), (559, (.aload_n 0, 560, 0, 0))],
   [(560, (.iload_n 3, 561, 0, 0)), (561, (.iconst 2, 562, 0, 8)), (562, (.iadd, 563, 0, 0)), (563, (.iaload, 564, 0, 0)), (564, (.invokevirtual 53, 567, 0, 301)), (567, (.if_icmp .eq 1365, 570, 1932, 0)), (570, (.iconst 0, 571, 0, 4)), (571, (.ireturn, 572, 0, 0)), (572, (.aload_n 1, 573, 0, 0)), (573, (.aload_n 0, 574, 0, 0)), (574, (.iload_n 3, 575, 0, 0)), (575, (.iconst 1, 576, 0, 3))],
   [(576, (.iadd, 577, 0, 0)), (577, (.iaload, 578, 0, 0)), (578, (.invokevirtual 54, 581, 0, 109)), (581, (.aload_n 2, 582, 0, 0)), (582, (.aload_n 0, 583, 0, 0)), (583, (.iload_n 3, 584, 0, 0)), (584, (.iconst 1, 585, 0, 3)), (585, (.iadd, 586, 0, 0)), (586, (.iaload, 587, 0, 0)), (587, (.invokevirtual 58, 590, 0, 302)), (590, (.lcmp, 594, 1932, 0)), (591, (.ifCond .eq 1341, 594, 1932, 0))],
   [(594, (.iconst 0, 595, 0, 4)), (595, (.ireturn, 596, 0, 0)), (596, (.aload_n 1, 597, 0, 0)), (597, (.aload_n 0, 598, 0, 0)), (598, (.iload_n 3, 599, 0, 0)), (599, (.iconst 1, 600, 0, 3)), (600, (.iadd, 601, 0, 0)), (601, (.iaload, 602, 0, 0)), (602, (.aload_n 0, 603, 0, 0)), (603, (.iload_n 3, 604, 0, 0)), (604, (.iconst 2, 605, 0, 8)), (605, (.iadd, 606, 0, 0)), (606, (.iaload, 607, 0, 0)), (607, (.invokevirtual 59, 610, 0, 111))],
   [(610, (.aload_n 2, 611, 0, 0)), (611, (.aload_n 0, 612, 0, 0)), (612, (.iload_n 3, 613, 0, 0)), (613, (.iconst 1, 614, 0, 3)), (614, (.iadd, 615, 0, 0)), (615, (.iaload, 616, 0, 0)), (616, (.aload_n 0, 617, 0, 0)), (617, (.iload_n 3, 618, 0, 0)), (618, (.iconst 2, 619, 0, 8)), (619, (.iadd, 620, 0, 0)), (620, (.iaload, 621, 0, 0)), (621, (.invokevirtual 62, 624, 0, 303))],
   [(624, (.lcmp, 628, 1932, 0)), (625, (.ifCond .eq 1307, 628, 1932, 0)), (628, (.iconst 0, 629, 0, 4)), (629, (.ireturn, 630, 0, 0)), (630, (.aload_n 1, 631, 0, 0)), (631, (.aload_n 0, 632, 0, 0)), (632, (.iload_n 3, 633, 0, 0)), (633, (.iconst 1, 634, 0, 3)), (634, (.iadd, 635, 0, 0)), (635, (.iaload, 636, 0, 0)), (636, (.invokevirtual 63, 639, 0, 117)), (639, (.aload_n 2, 640, 0, 0))],
   [(640, (.aload_n 0, 641, 0, 0)), (641, (.iload_n 3, 642, 0, 0)), (642, (.iconst 1, 643, 0, 3)), (643, (.iadd, 644, 0, 0)), (644, (.iaload, 645, 0, 0)), (645, (.invokevirtual 66, 648, 0, 304)), (648, (.lcmp, 652, 1932, 0)), (649, (.ifCond .eq 1283, 652, 1932, 0)), (652, (.iconst 0, 653, 0, 4)), (653, (.ireturn, 654, 0, 0)), (654, (.aload_n 1, 655, 0, 0)), (655, (.aload_n 0, 656, 0, 0))],
   [(656, (.iload_n 3, 657, 0, 0)), (657, (.iconst 1, 658, 0, 3)), (658, (.iadd, 659, 0, 0)), (659, (.iaload, 660, 0, 0)), (660, (.aload_n 0, 661, 0, 0)), (661, (.iload_n 3, 662, 0, 0)), (662, (.iconst 2, 663, 0, 8)), (663, (.iadd, 664, 0, 0)), (664, (.iaload, 665, 0, 0)), (665, (.invokevirtual 67, 668, 0, 118)), (668, (.aload_n 2, 669, 0, 0)), (669, (.aload_n 0, 670, 0, 0)), (670, (.iload_n 3, 671, 0, 0)), (671, (.iconst 1, 672, 0, 3))],
   [(672, (.iadd, 673, 0, 0)), (673, (.iaload, 674, 0, 0)), (674, (.aload_n 0, 675, 0, 0)), (675, (.iload_n 3, 676, 0, 0)), (676, (.iconst 2, 677, 0, 8)), (677, (.iadd, 678, 0, 0)), (678, (.iaload, 679, 0, 0)), (679, (.invokevirtual 70, 682, 0, 305)), (682, (.lcmp, 686, 1932, 0)), (683, (.ifCond .eq 1249, 686, 1932, 0)), (686, (.iconst 0, 687, 0, 4)), (687, (.ireturn, 688, 0, 0))],
   [(688, (.aload_n 1, 689, 0, 0)), (689, (.aload_n 0, 690, 0, 0)), (690, (.iload_n 3, 691, 0, 0)), (691, (.iconst 1, 692, 0, 3)), (692, (.iadd, 693, 0, 0)), (693, (.iaload, 694, 0, 0)), (694, (.invokevirtual 71, 697, 0, 122)), (697, (.aload_n 2, 698, 0, 0)), (698, (.aload_n 0, 699, 0, 0)), (699, (.iload_n 3, 700, 0, 0)), (700, (.iconst 1, 701, 0, 3)), (701, (.iadd, 702, 0, 0)), (702, (.iaload, 703, 0, 0)), (703, (.invokevirtual 74, 706, 0, 307))],
   [(706, (.lcmp, 710, 1932, 0)), (707, (.ifCond .eq 1225, 710, 1932, 0)), (710, (.iconst 0, 711, 0, 4)), (711, (.ireturn, 712, 0, 0)), (712, (.aload_n 1, 713, 0, 0)), (713, (.aload_n 0, 714, 0, 0)), (714, (.iload_n 3, 715, 0, 0)), (715, (.iconst 1, 716, 0, 3)), (716, (.iadd, 717, 0, 0)), (717, (.iaload, 718, 0, 0)), (718, (.invokevirtual 75, 721, 0, 125))],
   [(721, (.aload_n 2, 722, 0, 0)), (722, (.aload_n 0, 723, 0, 0)), (723, (.iload_n 3, 724, 0, 0)), (724, (.iconst 1, 725, 0, 3)), (725, (.iadd, 726, 0, 0)), (726, (.iaload, 727, 0, 0)), (727, (.invokevirtual 78, 730, 0, 308)), (730, (.lcmp, 734, 1932, 0)), (731, (.ifCond .eq 1201, 734, 1932, 0)), (734, (.iconst 0, 735, 0, 4)), (735, (.ireturn, 736, 0, 0))],
   [(736, (.aload_n 1, 737, 0, 0)), (737, (.aload_n 0, 738, 0, 0)), (738, (.iload_n 3, 739, 0, 0)), (739, (.iconst 1, 740, 0, 3)), (740, (.iadd, 741, 0, 0)), (741, (.iaload, 742, 0, 0)), (742, (.invokevirtual 79, 745, 0, 126)), (745, (.aload_n 2, 746, 0, 0)), (746, (.aload_n 0, 747, 0, 0)), (747, (.iload_n 3, 748, 0, 0)), (748, (.iconst 1, 749, 0, 3)), (749, (.iadd, 750, 0, 0)), (750, (.iaload, 751, 0, 0)), (751, (.invokevirtual 82, 754, 0, 309))],
   [(754, (.lcmp, 758, 1932, 0)), (755, (.ifCond .eq 1177, 758, 1932, 0)), (758, (.iconst 0, 759, 0, 4)), (759, (.ireturn, 760, 0, 0)), (760, (.aload_n 1, 761, 0, 0)), (761, (.aload_n 0, 762, 0, 0)), (762, (.iload_n 3, 763, 0, 0)), (763, (.iconst 1, 764, 0, 3)), (764, (.iadd, 765, 0, 0)), (765, (.iaload, 766, 0, 0)), (766, (.invokevirtual 83, 769, 0, 128))],
   [(769, (.aload_n 2, 770, 0, 0)), (770, (.aload_n 0, 771, 0, 0)), (771, (.iload_n 3, 772, 0, 0)), (772, (.iconst 1, 773, 0, 3)), (773, (.iadd, 774, 0, 0)), (774, (.iaload, 775, 0, 0)), (775, (.invokevirtual 86, 778, 0, 311)), (778, (.if_icmp .eq 1154, 781, 1932, 0)), (781, (.iconst 0, 782, 0, 4)), (782, (.ireturn, 783, 0, 0)), (783, (.aload_n 1, 784, 0, 0))],
   [(784, (.aload_n 0, 785, 0, 0)), (785, (.iload_n 3, 786, 0, 0)), (786, (.iconst 1, 787, 0, 3)), (787, (.iadd, 788, 0, 0)), (788, (.iaload, 789, 0, 0)), (789, (.aload_n 0, 790, 0, 0)), (790, (.iload_n 3, 791, 0, 0)), (791, (.iconst 2, 792, 0, 8)), (792, (.iadd, 793, 0, 0)), (793, (.iaload, 794, 0, 0)), (794, (.invokevirtual 87, 797, 0, 129)), (797, (.aload_n 2, 798, 0, 0)), (798, (.aload_n 0, 799, 0, 0)), (799, (.iload_n 3, 800, 0, 0))],
   [(800, (.iconst 1, 801, 0, 3)), (801, (.iadd, 802, 0, 0)), (802, (.iaload, 803, 0, 0)), (803, (.aload_n 0, 804, 0, 0)), (804, (.iload_n 3, 805, 0, 0)), (805, (.iconst 2, 806, 0, 8)), (806, (.iadd, 807, 0, 0)), (807, (.iaload, 808, 0, 0)), (808, (.invokevirtual 90, 811, 0, 312)), (811, (.lcmp, 815, 1932, 0)), (812, (.ifCond .eq 1120, 815, 1932, 0)), (815, (.iconst 0, 816, 0, 4))],
   [(816, (.ireturn, 817, 0, 0)), (817, (.aload_n 1, 818, 0, 0)), (818, (.aload_n 0, 819, 0, 0)), (819, (.iload_n 3, 820, 0, 0)), (820, (.iconst 1, 821, 0, 3)), (821, (.iadd, 822, 0, 0)), (822, (.iaload, 823, 0, 0)), (823, (.aload_n 0, 824, 0, 0)), (824, (.iload_n 3, 825, 0, 0)), (825, (.iconst 2, 826, 0, 8)), (826, (.iadd, 827, 0, 0)), (827, (.iaload, 828, 0, 0)), (828, (.invokevirtual 91, 831, 0, 136)), (831, (.aload_n 2, 832, 0, 0))],
   [(832, (.aload_n 0, 833, 0, 0)), (833, (.iload_n 3, 834, 0, 0)), (834, (.iconst 1, 835, 0, 3)), (835, (.iadd, 836, 0, 0)), (836, (.iaload, 837, 0, 0)), (837, (.aload_n 0, 838, 0, 0)), (838, (.iload_n 3, 839, 0, 0)), (839, (.iconst 2, 840, 0, 8)), (840, (.iadd, 841, 0, 0)), (841, (.iaload, 842, 0, 0)), (842, (.invokevirtual 94, 845, 0, 313)), (845, (.if_icmp .eq 1087, 848, 1932, 0))],
   [(848, (.iconst 0, 849, 0, 4)), (849, (.ireturn, 850, 0, 0)), (850, (.aload_n 1, 851, 0, 0)), (851, (.invokevirtual 95, 854, 0, 149)), (854, (.aload_n 2, 855, 0, 0)), (855, (.invokevirtual 98, 858, 0, 314)), (858, (.if_icmp .eq 1074, 861, 1932, 0)), (861, (.iconst 0, 862, 0, 4)), (862, (.ireturn, 863, 0, 0)), (863, (.aload_n 1, 864, 0, 0))],
   [(864, (.aload_n 0, 865, 0, 0)), (865, (.iload_n 3, 866, 0, 0)), (866, (.iconst 1, 867, 0, 3)), (867, (.iadd, 868, 0, 0)), (868, (.iaload, 869, 0, 0)), (869, (.invokevirtual 99, 872, 0, 152)), (872, (.aload_n 2, 873, 0, 0)), (873, (.aload_n 0, 874, 0, 0)), (874, (.iload_n 3, 875, 0, 0)), (875, (.iconst 1, 876, 0, 3)), (876, (.iadd, 877, 0, 0)), (877, (.iaload, 878, 0, 0)), (878, (.invokevirtual 102, 881, 0, 316))],
   [(881, (.if_icmp .eq 1051, 884, 1932, 0)), (884, (.iconst 0, 885, 0, 4)), (885, (.ireturn, 886, 0, 0)), (886, (.aload_n 1, 887, 0, 0)), (887, (.invokevirtual 103, 890, 0, 154)), (890, (.aload_n 2, 891, 0, 0)), (891, (.invokevirtual 107, 894, 0, 317)), (894, (.lcmp, 898, 1932, 0)), (895, (.ifCond .eq 1037, 898, 1932, 0))],
   [(898, (.iconst 0, 899, 0, 4)), (899, (.ireturn, 900, 0, 0)), (900, (.aload_n 1, 901, 0, 0)), (901, (.invokevirtual 108, 904, 0, 156)), (904, (.aload_n 2, 905, 0, 0)), (905, (.invokevirtual 111, 908, 0, 318)), (908, (.if_icmp .eq 1024, 911, 1932, 0)), (911, (.iconst 0, 912, 0, 4))],
   [(912, (.ireturn, 913, 0, 0)), (913, (.aload_n 1, 914, 0, 0)), (914, (.invokevirtual 112, 917, 0, 159)), (917, (.aload_n 2, 918, 0, 0)), (918, (.invokevirtual 115, 921, 0, 320)), (921, (.if_icmp .eq 1011, 924, 1932, 0)), (924, (.iconst 0, 925, 0, 4)), (925, (.ireturn, 926, 0, 0)), (926, (.aload_n 1, 927, 0, 0)), (927, (.aload_n 0, 928, 0, 0))],
   [(928, (.iload_n 3, 929, 0, 0)), (929, (.iconst 1, 930, 0, 3)), (930, (.iadd, 931, 0, 0)), (931, (.iaload, 932, 0, 0)), (932, (.aload_n 0, 933, 0, 0)), (933, (.iload_n 3, 934, 0, 0)), (934, (.iconst 2, 935, 0, 8)), (935, (.iadd, 936, 0, 0)), (936, (.iaload, 937, 0, 0)), (937, (.invokevirtual 116, 940, 0, 138)), (940, (.aload_n 2, 941, 0, 0)), (941, (.aload_n 0, 942, 0, 0)), (942, (.iload_n 3, 943, 0, 0)), (943, (.iconst 1, 944, 0, 3))],
   [(944, (.iadd, 945, 0, 0)), (945, (.iaload, 946, 0, 0)), (946, (.aload_n 0, 947, 0, 0)), (947, (.iload_n 3, 948, 0, 0)), (948, (.iconst 2, 949, 0, 8)), (949, (.iadd, 950, 0, 0)), (950, (.iaload, 951, 0, 0)), (951, (.invokevirtual 119, 954, 0, 321)), (954, (.lcmp, 958, 1932, 0)), (955, (.ifCond .eq 977, 958, 1932, 0)), (958, (.iconst 0, 959, 0, 4)), (959, (.ireturn, 960, 0, 0))],
   [(960, (.aload_n 1, 961, 0, 0)), (961, (.invokevirtual 120, 964, 0, 170)), (964, (.aload_n 2, 965, 0, 0)), (965, (.invokevirtual 123, 968, 0, 331)), (968, (.lcmp, 972, 1932, 0)), (969, (.ifCond .eq 963, 972, 1932, 0)), (972, (.iconst 0, 973, 0, 4)), (973, (.ireturn, 974, 0, 0)), (974, (.aload_n 1, 975, 0, 0)), (975, (.aload_n 0, 976, 0, 0))],
   [(976, (.iload_n 3, 977, 0, 0)), (977, (.iconst 1, 978, 0, 3)), (978, (.iadd, 979, 0, 0)), (979, (.iaload, 980, 0, 0)), (980, (.invokevirtual 124, 983, 0, 173)), (983, (.aload_n 2, 984, 0, 0)), (984, (.aload_n 0, 985, 0, 0)), (985, (.iload_n 3, 986, 0, 0)), (986, (.iconst 1, 987, 0, 3)), (987, (.iadd, 988, 0, 0)), (988, (.iaload, 989, 0, 0)), (989, (.invokevirtual 127, 992, 0, 333))],
   [(992, (.lcmp, 996, 1932, 0)), (993, (.ifCond .eq 939, 996, 1932, 0)), (996, (.iconst 0, 997, 0, 4)), (997, (.ireturn, 998, 0, 0)), (998, (.aload_n 1, 999, 0, 0)), (999, (.aload_n 0, 1000, 0, 0)), (1000, (.iload_n 3, 1001, 0, 0)), (1001, (.iconst 1, 1002, 0, 3)), (1002, (.iadd, 1003, 0, 0)), (1003, (.iaload, 1004, 0, 0)), (1004, (.aload_n 0, 1005, 0, 0)), (1005, (.iload_n 3, 1006, 0, 0)), (1006, (.iconst 2, 1007, 0, 8)), (1007, (.iadd, 1008, 0, 0))],
   [(1008, (.iaload, 1009, 0, 0)), (1009, (.invokevirtual 128, 1012, 0, 177)), (1012, (.aload_n 2, 1013, 0, 0)), (1013, (.aload_n 0, 1014, 0, 0)), (1014, (.iload_n 3, 1015, 0, 0)), (1015, (.iconst 1, 1016, 0, 3)), (1016, (.iadd, 1017, 0, 0)), (1017, (.iaload, 1018, 0, 0)), (1018, (.aload_n 0, 1019, 0, 0)), (1019, (.iload_n 3, 1020, 0, 0)), (1020, (.iconst 2, 1021, 0, 8)), (1021, (.iadd, 1022, 0, 0)), (1022, (.iaload, 1023, 0, 0)), (1023, (.invokevirtual 131, 1026, 0, 334))],
   [(1026, (.lcmp, 1030, 1932, 0)), (1027, (.ifCond .eq 905, 1030, 1932, 0)), (1030, (.iconst 0, 1031, 0, 4)), (1031, (.ireturn, 1032, 0, 0)), (1032, (.aload_n 1, 1033, 0, 0)), (1033, (.aload_n 0, 1034, 0, 0)), (1034, (.iload_n 3, 1035, 0, 0)), (1035, (.iconst 1, 1036, 0, 3)), (1036, (.iadd, 1037, 0, 0)), (1037, (.iaload, 1038, 0, 0)), (1038, (.invokevirtual 132, 1041, 0, 180))],
   [(1041, (.aload_n 2, 1042, 0, 0)), (1042, (.aload_n 0, 1043, 0, 0)), (1043, (.iload_n 3, 1044, 0, 0)), (1044, (.iconst 1, 1045, 0, 3)), (1045, (.iadd, 1046, 0, 0)), (1046, (.iaload, 1047, 0, 0)), (1047, (.invokevirtual 135, 1050, 0, 336)), (1050, (.if_icmp .eq 882, 1053, 1932, 0)), (1053, (.iconst 0, 1054, 0, 4)), (1054, (.ireturn, 1055, 0, 0)), (1055, (.aload_n 1, 1056, 0, 0))],
   [(1056, (.aload_n 0, 1057, 0, 0)), (1057, (.iload_n 3, 1058, 0, 0)), (1058, (.iconst 1, 1059, 0, 3)), (1059, (.iadd, 1060, 0, 0)), (1060, (.iaload, 1061, 0, 0)), (1061, (.aload_n 0, 1062, 0, 0)), (1062, (.iload_n 3, 1063, 0, 0)), (1063, (.iconst 2, 1064, 0, 8)), (1064, (.iadd, 1065, 0, 0)), (1065, (.iaload, 1066, 0, 0)), (1066, (.invokevirtual 136, 1069, 0, 183)), (1069, (.aload_n 2, 1070, 0, 0)), (1070, (.aload_n 0, 1071, 0, 0)), (1071, (.iload_n 3, 1072, 0, 0))],
   [(1072, (.iconst 1, 1073, 0, 3)), (1073, (.iadd, 1074, 0, 0)), (1074, (.iaload, 1075, 0, 0)), (1075, (.aload_n 0, 1076, 0, 0)), (1076, (.iload_n 3, 1077, 0, 0)), (1077, (.iconst 2, 1078, 0, 8)), (1078, (.iadd, 1079, 0, 0)), (1079, (.iaload, 1080, 0, 0)), (1080, (.invokevirtual 139, 1083, 0, 337)), (1083, (.lcmp, 1087, 1932, 0)), (1084, (.ifCond .eq 848, 1087, 1932, 0)), (1087, (.iconst 0, 1088, 0, 4))],
   [(1088, (.ireturn, 1089, 0, 0)), (1089, (.aload_n 1, 1090, 0, 0)), (1090, (.aload_n 0, 1091, 0, 0)), (1091, (.iload_n 3, 1092, 0, 0)), (1092, (.iconst 1, 1093, 0, 3)), (1093, (.iadd, 1094, 0, 0)), (1094, (.iaload, 1095, 0, 0)), (1095, (.aload_n 0, 1096, 0, 0)), (1096, (.iload_n 3, 1097, 0, 0)), (1097, (.iconst 2, 1098, 0, 8)), (1098, (.iadd, 1099, 0, 0)), (1099, (.iaload, 1100, 0, 0)), (1100, (.invokevirtual 140, 1103, 0, 185)), (1103, (.aload_n 2, 1104, 0, 0))],
   [(1104, (.aload_n 0, 1105, 0, 0)), (1105, (.iload_n 3, 1106, 0, 0)), (1106, (.iconst 1, 1107, 0, 3)), (1107, (.iadd, 1108, 0, 0)), (1108, (.iaload, 1109, 0, 0)), (1109, (.aload_n 0, 1110, 0, 0)), (1110, (.iload_n 3, 1111, 0, 0)), (1111, (.iconst 2, 1112, 0, 8)), (1112, (.iadd, 1113, 0, 0)), (1113, (.iaload, 1114, 0, 0)), (1114, (.invokevirtual 143, 1117, 0, 339)), (1117, (.if_icmp .eq 815, 1120, 1932, 0))],
   [(1120, (.iconst 0, 1121, 0, 4)), (1121, (.ireturn, 1122, 0, 0)), (1122, (.aload_n 1, 1123, 0, 0)), (1123, (.aload_n 0, 1124, 0, 0)), (1124, (.iload_n 3, 1125, 0, 0)), (1125, (.iconst 1, 1126, 0, 3)), (1126, (.iadd, 1127, 0, 0)), (1127, (.iaload, 1128, 0, 0)), (1128, (.aload_n 0, 1129, 0, 0)), (1129, (.iload_n 3, 1130, 0, 0)), (1130, (.iconst 2, 1131, 0, 8)), (1131, (.iadd, 1132, 0, 0)), (1132, (.iaload, 1133, 0, 0)), (1133, (.invokevirtual 144, 1136, 0, 187))],
   [(1136, (.aload_n 2, 1137, 0, 0)), (1137, (.aload_n 0, 1138, 0, 0)), (1138, (.iload_n 3, 1139, 0, 0)), (1139, (.iconst 1, 1140, 0, 3)), (1140, (.iadd, 1141, 0, 0)), (1141, (.iaload, 1142, 0, 0)), (1142, (.aload_n 0, 1143, 0, 0)), (1143, (.iload_n 3, 1144, 0, 0)), (1144, (.iconst 2, 1145, 0, 8)), (1145, (.iadd, 1146, 0, 0)), (1146, (.iaload, 1147, 0, 0)), (1147, (.invokevirtual 147, 1150, 0, 340)), (1150, (.lcmp, 1154, 1932, 0)), (1151, (.ifCond .eq 781, 1154, 1932, 0))],
   [(1154, (.iconst 0, 1155, 0, 4)), (1155, (.ireturn, 1156, 0, 0)), (1156, (.aload_n 1, 1157, 0, 0)), (1157, (.aload_n 0, 1158, 0, 0)), (1158, (.iload_n 3, 1159, 0, 0)), (1159, (.iconst 1, 1160, 0, 3)), (1160, (.iadd, 1161, 0, 0)), (1161, (.iaload, 1162, 0, 0)), (1162, (.invokevirtual 148, 1165, 0, 191)), (1165, (.aload_n 2, 1166, 0, 0)), (1166, (.aload_n 0, 1167, 0, 0)), (1167, (.iload_n 3, 1168, 0, 0))],
   [(1168, (.iconst 1, 1169, 0, 3)), (1169, (.iadd, 1170, 0, 0)), (1170, (.iaload, 1171, 0, 0)), (1171, (.invokevirtual 151, 1174, 0, 343)), (1174, (.lcmp, 1178, 1932, 0)), (1175, (.ifCond .eq 757, 1178, 1932, 0)), (1178, (.iconst 0, 1179, 0, 4)), (1179, (.ireturn, 1180, 0, 0)), (1180, (.aload_n 1, 1181, 0, 0)), (1181, (.aload_n 0, 1182, 0, 0)), (1182, (.iload_n 3, 1183, 0, 0)), (1183, (.iconst 1, 1184, 0, 3))],
   [(1184, (.iadd, 1185, 0, 0)), (1185, (.iaload, 1186, 0, 0)), (1186, (.invokevirtual 152, 1189, 0, 161)), (1189, (.aload_n 2, 1190, 0, 0)), (1190, (.aload_n 0, 1191, 0, 0)), (1191, (.iload_n 3, 1192, 0, 0)), (1192, (.iconst 1, 1193, 0, 3)), (1193, (.iadd, 1194, 0, 0)), (1194, (.iaload, 1195, 0, 0)), (1195, (.invokevirtual 155, 1198, 0, 344)), (1198, (.if_icmp .eq 734, 1201, 1932, 0))],
   [(1201, (.iconst 0, 1202, 0, 4)), (1202, (.ireturn, 1203, 0, 0)), (1203, (.aload_n 1, 1204, 0, 0)), (1204, (.aload_n 0, 1205, 0, 0)), (1205, (.iload_n 3, 1206, 0, 0)), (1206, (.iconst 1, 1207, 0, 3)), (1207, (.iadd, 1208, 0, 0)), (1208, (.iaload, 1209, 0, 0)), (1209, (.invokevirtual 156, 1212, 0, 164)), (1212, (.aload_n 2, 1213, 0, 0)), (1213, (.aload_n 0, 1214, 0, 0)), (1214, (.iload_n 3, 1215, 0, 0)), (1215, (.iconst 1, 1216, 0, 3))],
   [(1216, (.iadd, 1217, 0, 0)), (1217, (.iaload, 1218, 0, 0)), (1218, (.invokevirtual 159, 1221, 0, 346)), (1221, (.if_icmp .eq 711, 1224, 1932, 0)), (1224, (.iconst 0, 1225, 0, 4)), (1225, (.ireturn, 1226, 0, 0)), (1226, (.aload_n 1, 1227, 0, 0)), (1227, (.aload_n 0, 1228, 0, 0)), (1228, (.iload_n 3, 1229, 0, 0)), (1229, (.iconst 1, 1230, 0, 3)), (1230, (.iadd, 1231, 0, 0)), (1231, (.iaload, 1232, 0, 0))],
   [(1232, (.aload_n 0, 1233, 0, 0)), (1233, (.iload_n 3, 1234, 0, 0)), (1234, (.iconst 2, 1235, 0, 8)), (1235, (.iadd, 1236, 0, 0)), (1236, (.iaload, 1237, 0, 0)), (1237, (.invokevirtual 160, 1240, 0, 194)), (1240, (.aload_n 2, 1241, 0, 0)), (1241, (.aload_n 0, 1242, 0, 0)), (1242, (.iload_n 3, 1243, 0, 0)), (1243, (.iconst 1, 1244, 0, 3)), (1244, (.iadd, 1245, 0, 0)), (1245, (.iaload, 1246, 0, 0)), (1246, (.aload_n 0, 1247, 0, 0)), (1247, (.iload_n 3, 1248, 0, 0))],
   [(1248, (.iconst 2, 1249, 0, 8)), (1249, (.iadd, 1250, 0, 0)), (1250, (.iaload, 1251, 0, 0)), (1251, (.invokevirtual 163, 1254, 0, 347)), (1254, (.if_icmp .eq 678, 1257, 1932, 0)), (1257, (.iconst 0, 1258, 0, 4)), (1258, (.ireturn, 1259, 0, 0)), (1259, (.aload_n 1, 1260, 0, 0)), (1260, (.aload_n 0, 1261, 0, 0)), (1261, (.iload_n 3, 1262, 0, 0)), (1262, (.iconst 1, 1263, 0, 3)), (1263, (.iadd, 1264, 0, 0))],
   [(1264, (.iaload, 1265, 0, 0)), (1265, (.aload_n 0, 1266, 0, 0)), (1266, (.iload_n 3, 1267, 0, 0)), (1267, (.iconst 2, 1268, 0, 8)), (1268, (.iadd, 1269, 0, 0)), (1269, (.iaload, 1270, 0, 0)), (1270, (.invokevirtual 164, 1273, 0, 143)), (1273, (.aload_n 2, 1274, 0, 0)), (1274, (.aload_n 0, 1275, 0, 0)), (1275, (.iload_n 3, 1276, 0, 0)), (1276, (.iconst 1, 1277, 0, 3)), (1277, (.iadd, 1278, 0, 0)), (1278, (.iaload, 1279, 0, 0)), (1279, (.aload_n 0, 1280, 0, 0))],
   [(1280, (.iload_n 3, 1281, 0, 0)), (1281, (.iconst 2, 1282, 0, 8)), (1282, (.iadd, 1283, 0, 0)), (1283, (.iaload, 1284, 0, 0)), (1284, (.invokevirtual 167, 1287, 0, 323)), (1287, (.lcmp, 1291, 1932, 0)), (1288, (.ifCond .eq 644, 1291, 1932, 0)), (1291, (.iconst 0, 1292, 0, 4)), (1292, (.ireturn, 1293, 0, 0)), (1293, (.aload_n 1, 1294, 0, 0)), (1294, (.aload_n 0, 1295, 0, 0)), (1295, (.iload_n 3, 1296, 0, 0))],
   [(1296, (.iconst 1, 1297, 0, 3)), (1297, (.iadd, 1298, 0, 0)), (1298, (.iaload, 1299, 0, 0)), (1299, (.aload_n 0, 1300, 0, 0)), (1300, (.iload_n 3, 1301, 0, 0)), (1301, (.iconst 2, 1302, 0, 8)), (1302, (.iadd, 1303, 0, 0)), (1303, (.iaload, 1304, 0, 0)), (1304, (.invokevirtual 168, 1307, 0, 196)), (1307, (.aload_n 2, 1308, 0, 0)), (1308, (.aload_n 0, 1309, 0, 0)), (1309, (.iload_n 3, 1310, 0, 0)), (1310, (.iconst 1, 1311, 0, 3)), (1311, (.iadd, 1312, 0, 0))],
   [(1312, (.iaload, 1313, 0, 0)), (1313, (.aload_n 0, 1314, 0, 0)), (1314, (.iload_n 3, 1315, 0, 0)), (1315, (.iconst 2, 1316, 0, 8)), (1316, (.iadd, 1317, 0, 0)), (1317, (.iaload, 1318, 0, 0)), (1318, (.invokevirtual 171, 1321, 0, 328)), (1321, (.lcmp, 1325, 1932, 0)), (1322, (.ifCond .eq 610, 1325, 1932, 0)), (1325, (.iconst 0, 1326, 0, 4)), (1326, (.ireturn, 1327, 0, 0)), (1327, (.aload_n 1, 1328, 0, 0))],
   [(1328, (.aload_n 0, 1329, 0, 0)), (1329, (.iload_n 3, 1330, 0, 0)), (1330, (.iconst 1, 1331, 0, 3)), (1331, (.iadd, 1332, 0, 0)), (1332, (.iaload, 1333, 0, 0)), (1333, (.invokevirtual 172, 1336, 0, 197)), (1336, (.aload_n 2, 1337, 0, 0)), (1337, (.aload_n 0, 1338, 0, 0)), (1338, (.iload_n 3, 1339, 0, 0)), (1339, (.iconst 1, 1340, 0, 3)), (1340, (.iadd, 1341, 0, 0)), (1341, (.iaload, 1342, 0, 0)), (1342, (.invokevirtual 175, 1345, 0, 330))],
   [(1345, (.if_icmp .eq 587, 1348, 1932, 0)), (1348, (.iconst 0, 1349, 0, 4)), (1349, (.ireturn, 1350, 0, 0)), (1350, (.aload_n 1, 1351, 0, 0)), (1351, (.aload_n 0, 1352, 0, 0)), (1352, (.iload_n 3, 1353, 0, 0)), (1353, (.iconst 1, 1354, 0, 3)), (1354, (.iadd, 1355, 0, 0)), (1355, (.iaload, 1356, 0, 0)), (1356, (.aload_n 0, 1357, 0, 0)), (1357, (.iload_n 3, 1358, 0, 0)), (1358, (.iconst 2, 1359, 0, 8)), (1359, (.iadd, 1360, 0, 0))],
   [(1360, (.iaload, 1361, 0, 0)), (1361, (.invokevirtual 176, 1364, 0, 145)), (1364, (.aload_n 2, 1365, 0, 0)), (1365, (.aload_n 0, 1366, 0, 0)), (1366, (.iload_n 3, 1367, 0, 0)), (1367, (.iconst 1, 1368, 0, 3)), (1368, (.iadd, 1369, 0, 0)), (1369, (.iaload, 1370, 0, 0)), (1370, (.aload_n 0, 1371, 0, 0)), (1371, (.iload_n 3, 1372, 0, 0)), (1372, (.iconst 2, 1373, 0, 8)), (1373, (.iadd, 1374, 0, 0)), (1374, (.iaload, 1375, 0, 0)), (1375, (.invokevirtual 179, 1378, 0, 324))],
   [(1378, (.lcmp, 1382, 1932, 0)), (1379, (.ifCond .eq 553, 1382, 1932, 0)), (1382, (.iconst 0, 1383, 0, 4)), (1383, (.ireturn, 1384, 0, 0)), (1384, (.aload_n 1, 1385, 0, 0)), (1385, (.aload_n 0, 1386, 0, 0)), (1386, (.iload_n 3, 1387, 0, 0)), (1387, (.iconst 1, 1388, 0, 3)), (1388, (.iadd, 1389, 0, 0)), (1389, (.iaload, 1390, 0, 0)), (1390, (.invokevirtual 180, 1393, 0, 166))],
   [(1393, (.aload_n 2, 1394, 0, 0)), (1394, (.aload_n 0, 1395, 0, 0)), (1395, (.iload_n 3, 1396, 0, 0)), (1396, (.iconst 1, 1397, 0, 3)), (1397, (.iadd, 1398, 0, 0)), (1398, (.iaload, 1399, 0, 0)), (1399, (.invokevirtual 183, 1402, 0, 325)), (1402, (.if_icmp .eq 530, 1405, 1932, 0)), (1405, (.iconst 0, 1406, 0, 4)), (1406, (.ireturn, 1407, 0, 0)), (1407, (.aload_n 1, 1408, 0, 0))],
   [(1408, (.invokevirtual 184, 1411, 0, 169)), (1411, (.aload_n 2, 1412, 0, 0)), (1412, (.invokevirtual 187, 1415, 0, 326)), (1415, (.if_icmp .eq 517, 1418, 1932, 0)), (1418, (.iconst 0, 1419, 0, 4)), (1419, (.ireturn, 1420, 0, 0)), (1420, (.aload_n 1, 1421, 0, 0)), (1421, (.aload_n 0, 1422, 0, 0)), (1422, (.iload_n 3, 1423, 0, 0)), (1423, (.iconst 1, 1424, 0, 3))],
   [(1424, (.iadd, 1425, 0, 0)), (1425, (.iaload, 1426, 0, 0)), (1426, (.aload_n 0, 1427, 0, 0)), (1427, (.iload_n 3, 1428, 0, 0)), (1428, (.iconst 2, 1429, 0, 8)), (1429, (.iadd, 1430, 0, 0)), (1430, (.iaload, 1431, 0, 0)), (1431, (.invokevirtual 188, 1434, 0, 199)), (1434, (.aload_n 2, 1435, 0, 0)), (1435, (.aload_n 0, 1436, 0, 0)), (1436, (.iload_n 3, 1437, 0, 0)), (1437, (.iconst 1, 1438, 0, 3)), (1438, (.iadd, 1439, 0, 0)), (1439, (.iaload, 1440, 0, 0))],
   [(1440, (.aload_n 0, 1441, 0, 0)), (1441, (.iload_n 3, 1442, 0, 0)), (1442, (.iconst 2, 1443, 0, 8)), (1443, (.iadd, 1444, 0, 0)), (1444, (.iaload, 1445, 0, 0)), (1445, (.invokevirtual 191, 1448, 0, 342)), (1448, (.if_icmp .eq 484, 1451, 1932, 0)), (1451, (.iconst 0, 1452, 0, 4)), (1452, (.ireturn, 1453, 0, 0)), (1453, (.aload_n 1, 1454, 0, 0)), (1454, (.aload_n 0, 1455, 0, 0)), (1455, (.iload_n 3, 1456, 0, 0))],
   [(1456, (.iconst 1, 1457, 0, 3)), (1457, (.iadd, 1458, 0, 0)), (1458, (.iaload, 1459, 0, 0)), (1459, (.invokevirtual 192, 1462, 0, 147)), (1462, (.aload_n 2, 1463, 0, 0)), (1463, (.aload_n 0, 1464, 0, 0)), (1464, (.iload_n 3, 1465, 0, 0)), (1465, (.iconst 1, 1466, 0, 3)), (1466, (.iadd, 1467, 0, 0)), (1467, (.iaload, 1468, 0, 0)), (1468, (.invokevirtual 195, 1471, 0, 327)), (1471, (.if_icmp .eq 461, 1474, 1932, 0))],
   [(1474, (.iconst 0, 1475, 0, 4)), (1475, (.ireturn, 1476, 0, 0)), (1476, (.aload_n 1, 1477, 0, 0)), (1477, (.invokevirtual 196, 1480, 0, 201)), (1480, (.aload_n 2, 1481, 0, 0)), (1481, (.invokevirtual 199, 1484, 0, 349)), (1484, (.if_icmp .eq 448, 1487, 1932, 0)), (1487, (.iconst 0, 1488, 0, 4))],
   [(1488, (.ireturn, 1489, 0, 0)), (1489, (.aload_n 1, 1490, 0, 0)), (1490, (.invokevirtual 200, 1493, 0, 204)), (1493, (.aload_n 2, 1494, 0, 0)), (1494, (.invokevirtual 203, 1497, 0, 350)), (1497, (.lcmp, 1501, 1932, 0)), (1498, (.ifCond .eq 434, 1501, 1932, 0)), (1501, (.iconst 0, 1502, 0, 4)), (1502, (.ireturn, 1503, 0, 0)), (1503, (.aload_n 1, 1504, 0, 0))],
   [(1504, (.invokevirtual 204, 1507, 0, 206)), (1507, (.aload_n 2, 1508, 0, 0)), (1508, (.invokevirtual 207, 1511, 0, 351)), (1511, (.lcmp, 1515, 1932, 0)), (1512, (.ifCond .eq 420, 1515, 1932, 0)), (1515, (.iconst 0, 1516, 0, 4)), (1516, (.ireturn, 1517, 0, 0)), (1517, (.aload_n 1, 1518, 0, 0)), (1518, (.aload_n 0, 1519, 0, 0)), (1519, (.iload_n 3, 1520, 0, 0))],
   [(1520, (.iconst 1, 1521, 0, 3)), (1521, (.iadd, 1522, 0, 0)), (1522, (.iaload, 1523, 0, 0)), (1523, (.invokevirtual 208, 1526, 0, 213)), (1526, (.aload_n 2, 1527, 0, 0)), (1527, (.aload_n 0, 1528, 0, 0)), (1528, (.iload_n 3, 1529, 0, 0)), (1529, (.iconst 1, 1530, 0, 3)), (1530, (.iadd, 1531, 0, 0)), (1531, (.iaload, 1532, 0, 0)), (1532, (.invokevirtual 211, 1535, 0, 353)), (1535, (.lcmp, 1539, 1932, 0))],
   [(1536, (.ifCond .eq 396, 1539, 1932, 0)), (1539, (.iconst 0, 1540, 0, 4)), (1540, (.ireturn, 1541, 0, 0)), (1541, (.aload_n 1, 1542, 0, 0)), (1542, (.aload_n 0, 1543, 0, 0)), (1543, (.iload_n 3, 1544, 0, 0)), (1544, (.iconst 1, 1545, 0, 3)), (1545, (.iadd, 1546, 0, 0)), (1546, (.iaload, 1547, 0, 0)), (1547, (.invokevirtual 212, 1550, 0, 214)), (1550, (.aload_n 2, 1551, 0, 0)), (1551, (.aload_n 0, 1552, 0, 0))],
   [(1552, (.iload_n 3, 1553, 0, 0)), (1553, (.iconst 1, 1554, 0, 3)), (1554, (.iadd, 1555, 0, 0)), (1555, (.iaload, 1556, 0, 0)), (1556, (.invokevirtual 215, 1559, 0, 363)), (1559, (.lcmp, 1563, 1932, 0)), (1560, (.ifCond .eq 372, 1563, 1932, 0)), (1563, (.iconst 0, 1564, 0, 4)), (1564, (.ireturn, 1565, 0, 0)), (1565, (.aload_n 1, 1566, 0, 0)), (1566, (.aload_n 0, 1567, 0, 0)), (1567, (.iload_n 3, 1568, 0, 0))],
   [(1568, (.iconst 1, 1569, 0, 3)), (1569, (.iadd, 1570, 0, 0)), (1570, (.iaload, 1571, 0, 0)), (1571, (.aload_n 0, 1572, 0, 0)), (1572, (.iload_n 3, 1573, 0, 0)), (1573, (.iconst 2, 1574, 0, 8)), (1574, (.iadd, 1575, 0, 0)), (1575, (.iaload, 1576, 0, 0)), (1576, (.aload_n 0, 1577, 0, 0)), (1577, (.iload_n 3, 1578, 0, 0)), (1578, (.iconst 3, 1579, 0, 13)), (1579, (.iadd, 1580, 0, 0)), (1580, (.iaload, 1581, 0, 0)), (1581, (.invokevirtual 216, 1584, 0, 216))],
   [(1584, (.aload_n 2, 1585, 0, 0)), (1585, (.aload_n 0, 1586, 0, 0)), (1586, (.iload_n 3, 1587, 0, 0)), (1587, (.iconst 1, 1588, 0, 3)), (1588, (.iadd, 1589, 0, 0)), (1589, (.iaload, 1590, 0, 0)), (1590, (.aload_n 0, 1591, 0, 0)), (1591, (.iload_n 3, 1592, 0, 0)), (1592, (.iconst 2, 1593, 0, 8)), (1593, (.iadd, 1594, 0, 0)), (1594, (.iaload, 1595, 0, 0)), (1595, (.aload_n 0, 1596, 0, 0)), (1596, (.iload_n 3, 1597, 0, 0)), (1597, (.iconst 3, 1598, 0, 13)), (1598, (.iadd, 1599, 0, 0)), (1599, (.iaload, 1600, 0, 0))],
   [(1600, (.invokevirtual 220, 1603, 0, 354)), (1603, (.lcmp, 1607, 1932, 0)), (1604, (.ifCond .eq 328, 1607, 1932, 0)), (1607, (.iconst 0, 1608, 0, 4)), (1608, (.ireturn, 1609, 0, 0)), (1609, (.aload_n 1, 1610, 0, 0)), (1610, (.aload_n 0, 1611, 0, 0)), (1611, (.iload_n 3, 1612, 0, 0)), (1612, (.iconst 1, 1613, 0, 3)), (1613, (.iadd, 1614, 0, 0)), (1614, (.iaload, 1615, 0, 0)), (1615, (.aload_n 0, 1616, 0, 0))],
   [(1616, (.iload_n 3, 1617, 0, 0)), (1617, (.iconst 2, 1618, 0, 8)), (1618, (.iadd, 1619, 0, 0)), (1619, (.iaload, 1620, 0, 0)), (1620, (.invokevirtual 221, 1623, 0, 218)), (1623, (.aload_n 2, 1624, 0, 0)), (1624, (.aload_n 0, 1625, 0, 0)), (1625, (.iload_n 3, 1626, 0, 0)), (1626, (.iconst 1, 1627, 0, 3)), (1627, (.iadd, 1628, 0, 0)), (1628, (.iaload, 1629, 0, 0)), (1629, (.aload_n 0, 1630, 0, 0)), (1630, (.iload_n 3, 1631, 0, 0)), (1631, (.iconst 2, 1632, 0, 8))],
   [(1632, (.iadd, 1633, 0, 0)), (1633, (.iaload, 1634, 0, 0)), (1634, (.invokevirtual 224, 1637, 0, 357)), (1637, (.if_icmp .eq 295, 1640, 1932, 0)), (1640, (.iconst 0, 1641, 0, 4)), (1641, (.ireturn, 1642, 0, 0)), (1642, (.aload_n 1, 1643, 0, 0)), (1643, (.aload_n 0, 1644, 0, 0)), (1644, (.iload_n 3, 1645, 0, 0)), (1645, (.iconst 1, 1646, 0, 3)), (1646, (.iadd, 1647, 0, 0)), (1647, (.iaload, 1648, 0, 0))],
   [(1648, (.invokevirtual 225, 1651, 0, 220)), (1651, (.aload_n 2, 1652, 0, 0)), (1652, (.aload_n 0, 1653, 0, 0)), (1653, (.iload_n 3, 1654, 0, 0)), (1654, (.iconst 1, 1655, 0, 3)), (1655, (.iadd, 1656, 0, 0)), (1656, (.iaload, 1657, 0, 0)), (1657, (.invokevirtual 228, 1660, 0, 358)), (1660, (.lcmp, 1664, 1932, 0)), (1661, (.ifCond .eq 271, 1664, 1932, 0))],
   [(1664, (.iconst 0, 1665, 0, 4)), (1665, (.ireturn, 1666, 0, 0)), (1666, (.aload_n 1, 1667, 0, 0)), (1667, (.aload_n 0, 1668, 0, 0)), (1668, (.iload_n 3, 1669, 0, 0)), (1669, (.iconst 1, 1670, 0, 3)), (1670, (.iadd, 1671, 0, 0)), (1671, (.iaload, 1672, 0, 0)), (1672, (.invokevirtual 229, 1675, 0, 226)), (1675, (.aload_n 2, 1676, 0, 0)), (1676, (.aload_n 0, 1677, 0, 0)), (1677, (.iload_n 3, 1678, 0, 0)), (1678, (.iconst 1, 1679, 0, 3)), (1679, (.iadd, 1680, 0, 0))],
   [(1680, (.iaload, 1681, 0, 0)), (1681, (.invokevirtual 232, 1684, 0, 361)), (1684, (.if_icmp .eq 248, 1687, 1932, 0)), (1687, (.iconst 0, 1688, 0, 4)), (1688, (.ireturn, 1689, 0, 0)), (1689, (.aload_n 1, 1690, 0, 0)), (1690, (.invokevirtual 233, 1693, 0, 228)), (1693, (.aload_n 2, 1694, 0, 0)), (1694, (.invokevirtual 236, 1697, 0, 362))],
   [(1697, (.if_icmp .eq 235, 1700, 1932, 0)), (1700, (.iconst 0, 1701, 0, 4)), (1701, (.ireturn, 1702, 0, 0)), (1702, (.aload_n 1, 1703, 0, 0)), (1703, (.aload_n 0, 1704, 0, 0)), (1704, (.iload_n 3, 1705, 0, 0)), (1705, (.iconst 1, 1706, 0, 3)), (1706, (.iadd, 1707, 0, 0)), (1707, (.iaload, 1708, 0, 0)), (1708, (.aload_n 0, 1709, 0, 0)), (1709, (.iload_n 3, 1710, 0, 0)), (1710, (.iconst 2, 1711, 0, 8)), (1711, (.iadd, 1712, 0, 0))],
   [(1712, (.iaload, 1713, 0, 0)), (1713, (.invokevirtual 237, 1716, 0, 230)), (1716, (.aload_n 2, 1717, 0, 0)), (1717, (.aload_n 0, 1718, 0, 0)), (1718, (.iload_n 3, 1719, 0, 0)), (1719, (.iconst 1, 1720, 0, 3)), (1720, (.iadd, 1721, 0, 0)), (1721, (.iaload, 1722, 0, 0)), (1722, (.aload_n 0, 1723, 0, 0)), (1723, (.iload_n 3, 1724, 0, 0)), (1724, (.iconst 2, 1725, 0, 8)), (1725, (.iadd, 1726, 0, 0)), (1726, (.iaload, 1727, 0, 0)), (1727, (.invokevirtual 240, 1730, 0, 365))],
   [(1730, (.if_icmp .eq 202, 1733, 1932, 0)), (1733, (.iconst 0, 1734, 0, 4)), (1734, (.ireturn, 1735, 0, 0)), (1735, (.aload_n 1, 1736, 0, 0)), (1736, (.aload_n 0, 1737, 0, 0)), (1737, (.iload_n 3, 1738, 0, 0)), (1738, (.iconst 1, 1739, 0, 3)), (1739, (.iadd, 1740, 0, 0)), (1740, (.iaload, 1741, 0, 0)), (1741, (.aload_n 0, 1742, 0, 0)), (1742, (.iload_n 3, 1743, 0, 0)), (1743, (.iconst 2, 1744, 0, 8))],
   [(1744, (.iadd, 1745, 0, 0)), (1745, (.iaload, 1746, 0, 0)), (1746, (.invokevirtual 241, 1749, 0, 235)), (1749, (.aload_n 2, 1750, 0, 0)), (1750, (.aload_n 0, 1751, 0, 0)), (1751, (.iload_n 3, 1752, 0, 0)), (1752, (.iconst 1, 1753, 0, 3)), (1753, (.iadd, 1754, 0, 0)), (1754, (.iaload, 1755, 0, 0)), (1755, (.aload_n 0, 1756, 0, 0)), (1756, (.iload_n 3, 1757, 0, 0)), (1757, (.iconst 2, 1758, 0, 8)), (1758, (.iadd, 1759, 0, 0)), (1759, (.iaload, 1760, 0, 0))],
   [(1760, (.invokevirtual 244, 1763, 0, 369)), (1763, (.if_icmp .eq 169, 1766, 1932, 0)), (1766, (.iconst 0, 1767, 0, 4)), (1767, (.ireturn, 1768, 0, 0)), (1768, (.aload_n 1, 1769, 0, 0)), (1769, (.aload_n 0, 1770, 0, 0)), (1770, (.iload_n 3, 1771, 0, 0)), (1771, (.iconst 1, 1772, 0, 3)), (1772, (.iadd, 1773, 0, 0)), (1773, (.iaload, 1774, 0, 0)), (1774, (.invokevirtual 245, 1777, 0, 236))],
   [(1777, (.aload_n 2, 1778, 0, 0)), (1778, (.aload_n 0, 1779, 0, 0)), (1779, (.iload_n 3, 1780, 0, 0)), (1780, (.iconst 1, 1781, 0, 3)), (1781, (.iadd, 1782, 0, 0)), (1782, (.iaload, 1783, 0, 0)), (1783, (.invokevirtual 248, 1786, 0, 370)), (1786, (.if_icmp .eq 146, 1789, 1932, 0)), (1789, (.iconst 0, 1790, 0, 4)), (1790, (.ireturn, 1791, 0, 0)), (1791, (.aload_n 1, 1792, 0, 0))],
   [(1792, (.aload_n 0, 1793, 0, 0)), (1793, (.iload_n 3, 1794, 0, 0)), (1794, (.iconst 1, 1795, 0, 3)), (1795, (.iadd, 1796, 0, 0)), (1796, (.iaload, 1797, 0, 0)), (1797, (.aload_n 0, 1798, 0, 0)), (1798, (.iload_n 3, 1799, 0, 0)), (1799, (.iconst 2, 1800, 0, 8)), (1800, (.iadd, 1801, 0, 0)), (1801, (.iaload, 1802, 0, 0)), (1802, (.aload_n 0, 1803, 0, 0)), (1803, (.iload_n 3, 1804, 0, 0)), (1804, (.iconst 3, 1805, 0, 13)), (1805, (.iadd, 1806, 0, 0)), (1806, (.iaload, 1807, 0, 0)), (1807, (.invokevirtual 249, 1810, 0, 239))],
   [(1810, (.aload_n 2, 1811, 0, 0)), (1811, (.aload_n 0, 1812, 0, 0)), (1812, (.iload_n 3, 1813, 0, 0)), (1813, (.iconst 1, 1814, 0, 3)), (1814, (.iadd, 1815, 0, 0)), (1815, (.iaload, 1816, 0, 0)), (1816, (.aload_n 0, 1817, 0, 0)), (1817, (.iload_n 3, 1818, 0, 0)), (1818, (.iconst 2, 1819, 0, 8)), (1819, (.iadd, 1820, 0, 0)), (1820, (.iaload, 1821, 0, 0)), (1821, (.aload_n 0, 1822, 0, 0)), (1822, (.iload_n 3, 1823, 0, 0)), (1823, (.iconst 3, 1824, 0, 13))],
   [(1824, (.iadd, 1825, 0, 0)), (1825, (.iaload, 1826, 0, 0)), (1826, (.invokevirtual 253, 1829, 0, 371)), (1829, (.if_icmp .eq 103, 1832, 1932, 0)), (1832, (.iconst 0, 1833, 0, 4)), (1833, (.ireturn, 1834, 0, 0)), (1834, (.aload_n 1, 1835, 0, 0)), (1835, (.invokevirtual 254, 1838, 0, 240)), (1838, (.aload_n 2, 1839, 0, 0)), (1839, (.invokevirtual 257, 1842, 0, 372))],
   [(1842, (.if_icmp .eq 90, 1845, 1932, 0)), (1845, (.iconst 0, 1846, 0, 4)), (1846, (.ireturn, 1847, 0, 0)), (1847, (.aload_n 1, 1848, 0, 0)), (1848, (.invokevirtual 258, 1851, 0, 241)), (1851, (.aload_n 2, 1852, 0, 0)), (1852, (.invokevirtual 261, 1855, 0, 373)), (1855, (.if_icmp .eq 77, 1858, 1932, 0))],
   [(1858, (.iconst 0, 1859, 0, 4)), (1859, (.ireturn, 1860, 0, 0)), (1860, (.aload_n 1, 1861, 0, 0)), (1861, (.aload_n 0, 1862, 0, 0)), (1862, (.iload_n 3, 1863, 0, 0)), (1863, (.iconst 1, 1864, 0, 3)), (1864, (.iadd, 1865, 0, 0)), (1865, (.iaload, 1866, 0, 0)), (1866, (.invokevirtual 262, 1869, 0, 242)), (1869, (.aload_n 2, 1870, 0, 0)), (1870, (.aload_n 0, 1871, 0, 0)), (1871, (.iload_n 3, 1872, 0, 0))],
   [(1872, (.iconst 1, 1873, 0, 3)), (1873, (.iadd, 1874, 0, 0)), (1874, (.iaload, 1875, 0, 0)), (1875, (.invokevirtual 265, 1878, 0, 374)), (1878, (.if_icmp .eq 54, 1881, 1932, 0)), (1881, (.iconst 0, 1882, 0, 4)), (1882, (.ireturn, 1883, 0, 0)), (1883, (.aload_n 1, 1884, 0, 0)), (1884, (.aload_n 0, 1885, 0, 0)), (1885, (.iload_n 3, 1886, 0, 0)), (1886, (.iconst 1, 1887, 0, 3)), (1887, (.iadd, 1888, 0, 0))],
   [(1888, (.iaload, 1889, 0, 0)), (1889, (.invokevirtual 266, 1892, 0, 244)), (1892, (.aload_n 2, 1893, 0, 0)), (1893, (.aload_n 0, 1894, 0, 0)), (1894, (.iload_n 3, 1895, 0, 0)), (1895, (.iconst 1, 1896, 0, 3)), (1896, (.iadd, 1897, 0, 0)), (1897, (.iaload, 1898, 0, 0)), (1898, (.invokevirtual 269, 1901, 0, 375)), (1901, (.if_icmp .eq 31, 1904, 1932, 0))],
   [(1904, (.iconst 0, 1905, 0, 4)), (1905, (.ireturn, 1906, 0, 0)), (1906, (.aload_n 1, 1907, 0, 0)), (1907, (.invokevirtual 270, 1910, 0, 245)), (1910, (.aload_n 2, 1911, 0, 0)), (1911, (.invokevirtual 273, 1914, 0, 376)), (1914, (.if_icmp .eq 18, 1917, 1932, 0)), (1917, (.iconst 0, 1918, 0, 4)), (1918, (.ireturn, 1919, 0, 0)), (1919, (.aload_n 1, 1920, 0, 0))],
   [(1920, (.invokevirtual 274, 1923, 0, 247)), (1923, (.aload_n 2, 1924, 0, 0)), (1924, (.invokevirtual 277, 1927, 0, 377)), (1927, (.if_icmp .eq 5, 1930, 1932, 0)), (1930, (.iconst 0, 1931, 0, 4)), (1931, (.ireturn, 1932, 0, 0)), (1932, (.iinc 3 6, 1935, 0, 26)), (1935, (.goto (-1917), 1938, 18, 0))],
   [(1938, (.iconst 1, 1939, 0, 3)), (1939, (.ireturn, 1940, 0, 0))]])
abbrev n_V_feed : Nat := 0
abbrev n_Tape_hasRoom : Nat := 1
abbrev n_Tape_addNumber : Nat := 2
abbrev n_Tape_length : Nat := 3
abbrev n_V_end : Nat := 4
abbrev n_Tape_cut : Nat := 5
abbrev n_V_book : Nat := 6
abbrev n_Reader_readText : Nat := 7
abbrev n_Reader_forget : Nat := 8
abbrev n_Script_clear : Nat := 9
abbrev n_Tokens_begin : Nat := 10
abbrev n_Tokens_advance : Nat := 11
abbrev n_Tape_byteAt : Nat := 12
abbrev n_Tokens_isBlank : Nat := 13
abbrev n_Tokens_isLetter : Nat := 14
abbrev n_Tokens_isDigit : Nat := 15
abbrev n_Reader_goesOn : Nat := 16
abbrev n_Tokens_kind : Nat := 17
abbrev n_Reader_readLine : Nat := 18
abbrev n_Script_lines : Nat := 19
abbrev n_Reader_readBook : Nat := 20
abbrev n_Reader_takeWord : Nat := 21
abbrev n_Tokens_isWord : Nat := 22
abbrev n_String_length : Nat := 23
abbrev n_String_coder : Nat := 24
abbrev n_String_charAt : Nat := 25
abbrev n_String_isLatin1 : Nat := 26
abbrev n_StringLatin1_charAt : Nat := 27
abbrev n_String_checkIndex : Nat := 28
abbrev n_Preconditions_checkIndex : Nat := 29
abbrev n_StringUTF16_charAt : Nat := 30
abbrev n_StringUTF16_checkIndex : Nat := 31
abbrev n_StringUTF16_length : Nat := 32
abbrev n_StringUTF16_getChar : Nat := 33
abbrev n_Reader_refuse : Nat := 34
abbrev n_Tokens_start : Nat := 35
abbrev n_Reader_takeNumber : Nat := 36
abbrev n_Tokens_number : Nat := 37
abbrev n_Reader_finish : Nat := 38
abbrev n_Script_addLine : Nat := 39
abbrev n_Script_put : Nat := 40
abbrev n_Reader_readTier : Nat := 41
abbrev n_Reader_readDebit : Nat := 42
abbrev n_Reader_readFrom : Nat := 43
abbrev n_Reader_takeWhich : Nat := 44
abbrev n_Reader_readMoney : Nat := 45
abbrev n_Reader_readClose : Nat := 46
abbrev n_Reader_readRerun : Nat := 47
abbrev n_Reader_faultKind : Nat := 48
abbrev n_Reader_draft : Nat := 49
abbrev n_Script_copyFrom : Nat := 50
abbrev n_Script_cycle : Nat := 51
abbrev n_Script_told : Nat := 52
abbrev n_Script_size : Nat := 53
abbrev n_Ledger_replay : Nat := 54
abbrev n_Terms_clear : Nat := 55
abbrev n_Arrays_fill : Nat := 56
abbrev n_Entries_clear : Nat := 57
abbrev n_Arrays_fill2 : Nat := 58
abbrev n_Ledger_perform : Nat := 59
abbrev n_Terms_addTier : Nat := 60
abbrev n_Terms_spread : Nat := 61
abbrev n_Terms_tellDebit : Nat := 62
abbrev n_Terms_addChange : Nat := 63
abbrev n_Ledger_addEntry : Nat := 64
abbrev n_Entries_add : Nat := 65
abbrev n_Ledger_shift : Nat := 66
abbrev n_Ledger_days : Nat := 67
abbrev n_Ledger_closeOpen : Nat := 68
abbrev n_Ledger_hasOpen : Nat := 69
abbrev n_Ledger_productsOf : Nat := 70
abbrev n_Ledger_firstDay : Nat := 71
abbrev n_Terms_credit : Nat := 72
abbrev n_Terms_debt : Nat := 73
abbrev n_Terms_debtBy : Nat := 74
abbrev n_Ledger_nearest : Nat := 75
abbrev n_Ledger_compoundingDay : Nat := 76
abbrev n_Ledger_runAnew : Nat := 77
abbrev n_Entries_interestBooked : Nat := 78
abbrev n_Entries_isInterest : Nat := 79
abbrev n_Entries_has : Nat := 80
abbrev n_Entries_moneyAt : Nat := 81
abbrev n_Ledger_turnBack : Nat := 82
abbrev n_Entries_amountOf : Nat := 83
abbrev n_Entries_valueOf : Nat := 84
abbrev n_V_fault : Nat := 85
abbrev n_Reader_faultPlace : Nat := 86
abbrev n_V_count : Nat := 87
abbrev n_Ledger_span : Nat := 88
abbrev n_Ledger_periods : Nat := 89
abbrev n_Ledger_cycle : Nat := 90
abbrev n_Terms_tiers : Nat := 91
abbrev n_Terms_changes : Nat := 92
abbrev n_Entries_size : Nat := 93
abbrev n_Ledger_closed : Nat := 94
abbrev n_Script_acts : Nat := 95
abbrev n_V_entry : Nat := 96
abbrev n_Entries_sortOf : Nat := 97
abbrev n_Entries_pageOf : Nat := 98
abbrev n_Entries_periodOf : Nat := 99
abbrev n_Entries_turnedOf : Nat := 100
abbrev n_V_sorted : Nat := 101
abbrev n_V_noBook : Nat := 102
abbrev n_Entries_inOrder : Nat := 103
abbrev n_V_rate : Nat := 104
abbrev n_Terms_isTier : Nat := 105
abbrev n_Ledger_isDay : Nat := 106
abbrev n_Terms_rule : Nat := 107
abbrev n_V_owing : Nat := 108
abbrev n_V_balance : Nat := 109
abbrev n_Ledger_standing : Nat := 110
abbrev n_V_part : Nat := 111
abbrev n_Terms_partOf : Nat := 112
abbrev n_Terms_topOf : Nat := 113
abbrev n_Terms_partAboveAll : Nat := 114
abbrev n_Terms_owedWithin : Nat := 115
abbrev n_Terms_owedAbove : Nat := 116
abbrev n_V_product : Nat := 117
abbrev n_V_products : Nat := 118
abbrev n_Ledger_isPeriod : Nat := 119
abbrev n_Course_creditOf : Nat := 120
abbrev n_Course_debtOf : Nat := 121
abbrev n_V_fresh : Nat := 122
abbrev n_Ledger_interestNow : Nat := 123
abbrev n_Ledger_interest : Nat := 124
abbrev n_V_booked : Nat := 125
abbrev n_V_wrong : Nat := 126
abbrev n_Ledger_isClosed : Nat := 127
abbrev n_V_compounds : Nat := 128
abbrev n_V_page : Nat := 129
abbrev n_Entries_sumAhead : Nat := 130
abbrev n_Entries_paidOn : Nat := 131
abbrev n_Entries_drawnOn : Nat := 132
abbrev n_Entries_sumOn : Nat := 133
abbrev n_Entries_sizeOn : Nat := 134
abbrev n_Entries_sizeValued : Nat := 135
abbrev n_V_line : Nat := 136
abbrev n_Entries_onPage : Nat := 137
abbrev n_V_mean : Nat := 138
abbrev n_Course_meanAbove : Nat := 139
abbrev n_Course_standingsOf : Nat := 140
abbrev n_Course_commonDivisor : Nat := 141
abbrev n_Course_meanBelow : Nat := 142
abbrev n_V_earned : Nat := 143
abbrev n_Course_creditOfTier : Nat := 144
abbrev n_V_backdated : Nat := 145
abbrev n_Entries_sumValued : Nat := 146
abbrev n_V_bears : Nat := 147
abbrev n_Entries_valueDaysAhead : Nat := 148
abbrev n_V_steps : Nat := 149
abbrev n_Course_stepsTill : Nat := 150
abbrev n_Course_isStep : Nat := 151
abbrev n_V_step : Nat := 152
abbrev n_Course_stepDay : Nat := 153
abbrev n_V_lowest : Nat := 154
abbrev n_Course_leastStanding : Nat := 155
abbrev n_V_beyond : Nat := 156
abbrev n_Course_daysBeyond : Nat := 157
abbrev n_Course_room : Nat := 158
abbrev n_V_firstBeyond : Nat := 159
abbrev n_Course_firstDayBeyond : Nat := 160
abbrev n_V_most : Nat := 161
abbrev n_Course_mostDrawn : Nat := 162
abbrev n_Course_roomFrom : Nat := 163
abbrev n_V_least : Nat := 164
abbrev n_Course_leastPaid : Nat := 165
abbrev n_V_reaches : Nat := 166
abbrev n_V_isBetween : Nat := 167
abbrev n_Course_firstDayAt : Nat := 168
abbrev n_V_limitFor : Nat := 169
abbrev n_V_all : Nat := 170
abbrev n_Ledger_interestOfAll : Nat := 171
abbrev n_Ledger_interestOfAllBy : Nat := 172
abbrev n_V_brought : Nat := 173
abbrev n_WhatIf_gainBy : Nat := 174
abbrev n_WhatIf_gainIn : Nat := 175
abbrev n_Ledger_balances : Nat := 176
abbrev n_V_moved : Nat := 177
abbrev n_WhatIf_gainByMoving : Nat := 178
abbrev n_Ledger_trialBalances : Nat := 179
abbrev n_V_bestDay : Nat := 180
abbrev n_WhatIf_dayOfMost : Nat := 181
abbrev n_WhatIf_productOf : Nat := 182
abbrev n_V_late : Nat := 183
abbrev n_WhatIf_unlikeWith : Nat := 184
abbrev n_V_touched : Nat := 185
abbrev n_WhatIf_firstTouched : Nat := 186
abbrev n_V_tilted : Nat := 187
abbrev n_WhatIf_gainByTilt : Nat := 188
abbrev n_WhatIf_tiltIn : Nat := 189
abbrev n_Terms_tiltOf : Nat := 190
abbrev n_V_limited : Nat := 191
abbrev n_WhatIf_gainByLimit : Nat := 192
abbrev n_WhatIf_limitedProducts : Nat := 193
abbrev n_V_needs : Nat := 194
abbrev n_WhatIf_leastFor : Nat := 195
abbrev n_V_caused : Nat := 196
abbrev n_V_blame : Nat := 197
abbrev n_WhatIf_mostGuilty : Nat := 198
abbrev n_V_tiltFor : Nat := 199
abbrev n_WhatIf_leastTilt : Nat := 200
abbrev n_V_rights : Nat := 201
abbrev n_WhatIf_correctionsNow : Nat := 202
abbrev n_Ledger_correctOn : Nat := 203
abbrev n_V_righted : Nat := 204
abbrev n_WhatIf_correctedNow : Nat := 205
abbrev n_V_settled : Nat := 206
abbrev n_WhatIf_settlement : Nat := 207
abbrev n_WhatIf_settlementWith : Nat := 208
abbrev n_Ledger_trialPrincipal : Nat := 209
abbrev n_Entries_sumOfPrincipal : Nat := 210
abbrev n_Ledger_compoundOn : Nat := 211
abbrev n_Entries_sum : Nat := 212
abbrev n_V_compounded : Nat := 213
abbrev n_V_ideal : Nat := 214
abbrev n_WhatIf_idealInterest : Nat := 215
abbrev n_V_planned : Nat := 216
abbrev n_V_canPlan : Nat := 217
abbrev n_V_plan : Nat := 218
abbrev n_WhatIf_leastPlan : Nat := 219
abbrev n_V_left : Nat := 220
abbrev n_PaidOff_reckon : Nat := 221
abbrev n_PaidOff_nextOf : Nat := 222
abbrev n_PaidOff_restOf : Nat := 223
abbrev n_PaidOff_isEntry : Nat := 224
abbrev n_PaidOff_takeOff : Nat := 225
abbrev n_V_gone : Nat := 226
abbrev n_PaidOff_lastDayOf : Nat := 227
abbrev n_V_oldest : Nat := 228
abbrev n_PaidOff_firstOwed : Nat := 229
abbrev n_V_pay : Nat := 230
abbrev n_V_bookMoney : Nat := 231
abbrev n_Script_isFull : Nat := 232
abbrev n_V_act : Nat := 233
abbrev n_Script_addAct : Nat := 234
abbrev n_V_draw : Nat := 235
abbrev n_V_reverse : Nat := 236
abbrev n_Entries_isTurnedBack : Nat := 237
abbrev n_Entries_moneyAhead : Nat := 238
abbrev n_V_change : Nat := 239
abbrev n_V_close : Nat := 240
abbrev n_V_rerun : Nat := 241
abbrev n_V_image : Nat := 242
abbrev n_V_keptAs : Nat := 243
abbrev n_V_back : Nat := 244
abbrev n_V_undo : Nat := 245
abbrev n_Script_keepActs : Nat := 246
abbrev n_V_anew : Nat := 247
abbrev n_M_feed : Nat := 248
abbrev n_M_end : Nat := 249
abbrev n_M_in : Nat := 250
abbrev n_M_fault : Nat := 251
abbrev n_M_book : Nat := 252
abbrev n_M_swaps : Nat := 253
abbrev n_M_begins : Nat := 254
abbrev n_M_advance : Nat := 255
abbrev n_M_see : Nat := 256
abbrev n_M_good : Nat := 257
abbrev n_M_readText : Nat := 258
abbrev n_M_readFirst : Nat := 259
abbrev n_M_passes : Nat := 260
abbrev n_M_is : Nat := 261
abbrev n_M_errs : Nat := 262
abbrev n_M_told : Nat := 263
abbrev n_M_takes : Nat := 264
abbrev n_M_readLine : Nat := 265
abbrev n_M_readTier : Nat := 266
abbrev n_M_adds : Nat := 267
abbrev n_M_readDebit : Nat := 268
abbrev n_M_readFrom : Nat := 269
abbrev n_M_days : Nat := 270
abbrev n_M_readEntry : Nat := 271
abbrev n_M_isOpen : Nat := 272
abbrev n_M_readClose : Nat := 273
abbrev n_M_readRerun : Nat := 274
abbrev n_M_does : Nat := 275
abbrev n_M_changes : Nat := 276
abbrev n_M_enters : Nat := 277
abbrev n_M_closes : Nat := 278
abbrev n_M_interestOf : Nat := 279
abbrev n_M_laysBalances : Nat := 280
abbrev n_M_interestLaid : Nat := 281
abbrev n_M_earnedOn : Nat := 282
abbrev n_M_partOf : Nat := 283
abbrev n_M_holds : Nat := 284
abbrev n_M_owedOn : Nat := 285
abbrev n_M_nearest : Nat := 286
abbrev n_M_compoundingOf : Nat := 287
abbrev n_M_reruns : Nat := 288
abbrev n_M_bookedOf : Nat := 289
abbrev n_M_paidEntry : Nat := 290
abbrev n_M_doesAll : Nat := 291
abbrev n_M_count : Nat := 292
abbrev n_M_acts : Nat := 293
abbrev n_M_entry : Nat := 294
abbrev n_M_isEntry : Nat := 295
abbrev n_M_sorted : Nat := 296
abbrev n_M_isBook : Nat := 297
abbrev n_M_rate : Nat := 298
abbrev n_M_isTier : Nat := 299
abbrev n_M_isDay : Nat := 300
abbrev n_M_owing : Nat := 301
abbrev n_M_balance : Nat := 302
abbrev n_M_part : Nat := 303
abbrev n_M_product : Nat := 304
abbrev n_M_products : Nat := 305
abbrev n_M_isPeriod : Nat := 306
abbrev n_M_fresh : Nat := 307
abbrev n_M_booked : Nat := 308
abbrev n_M_wrong : Nat := 309
abbrev n_M_wrongOf : Nat := 310
abbrev n_M_compounds : Nat := 311
abbrev n_M_page : Nat := 312
abbrev n_M_line : Nat := 313
abbrev n_M_steps : Nat := 314
abbrev n_M_stepBy : Nat := 315
abbrev n_M_step : Nat := 316
abbrev n_M_lowest : Nat := 317
abbrev n_M_beyond : Nat := 318
abbrev n_M_isBeyond : Nat := 319
abbrev n_M_firstBeyond : Nat := 320
abbrev n_M_mean : Nat := 321
abbrev n_M_common : Nat := 322
abbrev n_M_earned : Nat := 323
abbrev n_M_backdated : Nat := 324
abbrev n_M_reaches : Nat := 325
abbrev n_M_limitFor : Nat := 326
abbrev n_M_bears : Nat := 327
abbrev n_M_caused : Nat := 328
abbrev n_M_causedBy : Nat := 329
abbrev n_M_blame : Nat := 330
abbrev n_M_all : Nat := 331
abbrev n_M_allOf : Nat := 332
abbrev n_M_brought : Nat := 333
abbrev n_M_moved : Nat := 334
abbrev n_M_allMoved : Nat := 335
abbrev n_M_bestDay : Nat := 336
abbrev n_M_late : Nat := 337
abbrev n_M_isLate : Nat := 338
abbrev n_M_touched : Nat := 339
abbrev n_M_tilted : Nat := 340
abbrev n_M_tiltedBy : Nat := 341
abbrev n_M_tiltFor : Nat := 342
abbrev n_M_limited : Nat := 343
abbrev n_M_most : Nat := 344
abbrev n_M_roomFrom : Nat := 345
abbrev n_M_least : Nat := 346
abbrev n_M_needs : Nat := 347
abbrev n_M_allWith : Nat := 348
abbrev n_M_rights : Nat := 349
abbrev n_M_righted : Nat := 350
abbrev n_M_settled : Nat := 351
abbrev n_M_settledOf : Nat := 352
abbrev n_M_compounded : Nat := 353
abbrev n_M_planned : Nat := 354
abbrev n_M_canPlan : Nat := 355
abbrev n_M_plannedOf : Nat := 356
abbrev n_M_plan : Nat := 357
abbrev n_M_left : Nat := 358
abbrev n_M_paysOff : Nat := 359
abbrev n_M_firstOf : Nat := 360
abbrev n_M_gone : Nat := 361
abbrev n_M_oldest : Nat := 362
abbrev n_M_ideal : Nat := 363
abbrev n_M_isTurned : Nat := 364
abbrev n_M_pay : Nat := 365
abbrev n_M_pays : Nat := 366
abbrev n_M_isFull : Nat := 367
abbrev n_M_act : Nat := 368
abbrev n_M_draw : Nat := 369
abbrev n_M_reverse : Nat := 370
abbrev n_M_change : Nat := 371
abbrev n_M_close : Nat := 372
abbrev n_M_rerun : Nat := 373
abbrev n_M_image : Nat := 374
abbrev n_M_back : Nat := 375
abbrev n_M_undo : Nat := 376
abbrev n_M_anew : Nat := 377
abbrev n_law : Nat := 378
noncomputable def mLL : List (List mRec) := [[p_V_feed, p_Tape_hasRoom, p_Tape_addNumber, p_Tape_length, p_V_end, p_Tape_cut, p_V_book, p_Reader_readText, p_Reader_forget, p_Script_clear, p_Tokens_begin, p_Tokens_advance, p_Tape_byteAt, p_Tokens_isBlank, p_Tokens_isLetter, p_Tokens_isDigit, p_Reader_goesOn, p_Tokens_kind, p_Reader_readLine, p_Script_lines],
  [p_Reader_readBook, p_Reader_takeWord, p_Tokens_isWord, p_String_length, p_String_coder, p_String_charAt, p_String_isLatin1, p_StringLatin1_charAt, p_String_checkIndex, p_Preconditions_checkIndex, p_StringUTF16_charAt, p_StringUTF16_checkIndex, p_StringUTF16_length, p_StringUTF16_getChar, p_Reader_refuse, p_Tokens_start, p_Reader_takeNumber, p_Tokens_number, p_Reader_finish, p_Script_addLine],
  [p_Script_put, p_Reader_readTier, p_Reader_readDebit, p_Reader_readFrom, p_Reader_takeWhich, p_Reader_readMoney, p_Reader_readClose, p_Reader_readRerun, p_Reader_faultKind, p_Reader_draft, p_Script_copyFrom, p_Script_cycle, p_Script_told, p_Script_size, p_Ledger_replay, p_Terms_clear, p_Arrays_fill, p_Entries_clear, p_Arrays_fill2, p_Ledger_perform],
  [p_Terms_addTier, p_Terms_spread, p_Terms_tellDebit, p_Terms_addChange, p_Ledger_addEntry, p_Entries_add, p_Ledger_shift, p_Ledger_days, p_Ledger_closeOpen, p_Ledger_hasOpen, p_Ledger_productsOf, p_Ledger_firstDay, p_Terms_credit, p_Terms_debt, p_Terms_debtBy, p_Ledger_nearest, p_Ledger_compoundingDay, p_Ledger_runAnew, p_Entries_interestBooked, p_Entries_isInterest],
  [p_Entries_has, p_Entries_moneyAt, p_Ledger_turnBack, p_Entries_amountOf, p_Entries_valueOf, p_V_fault, p_Reader_faultPlace, p_V_count, p_Ledger_span, p_Ledger_periods, p_Ledger_cycle, p_Terms_tiers, p_Terms_changes, p_Entries_size, p_Ledger_closed, p_Script_acts, p_V_entry, p_Entries_sortOf, p_Entries_pageOf, p_Entries_periodOf],
  [p_Entries_turnedOf, p_V_sorted, p_V_noBook, p_Entries_inOrder, p_V_rate, p_Terms_isTier, p_Ledger_isDay, p_Terms_rule, p_V_owing, p_V_balance, p_Ledger_standing, p_V_part, p_Terms_partOf, p_Terms_topOf, p_Terms_partAboveAll, p_Terms_owedWithin, p_Terms_owedAbove, p_V_product, p_V_products, p_Ledger_isPeriod],
  [p_Course_creditOf, p_Course_debtOf, p_V_fresh, p_Ledger_interestNow, p_Ledger_interest, p_V_booked, p_V_wrong, p_Ledger_isClosed, p_V_compounds, p_V_page, p_Entries_sumAhead, p_Entries_paidOn, p_Entries_drawnOn, p_Entries_sumOn, p_Entries_sizeOn, p_Entries_sizeValued, p_V_line, p_Entries_onPage, p_V_mean, p_Course_meanAbove],
  [p_Course_standingsOf, p_Course_commonDivisor, p_Course_meanBelow, p_V_earned, p_Course_creditOfTier, p_V_backdated, p_Entries_sumValued, p_V_bears, p_Entries_valueDaysAhead, p_V_steps, p_Course_stepsTill, p_Course_isStep, p_V_step, p_Course_stepDay, p_V_lowest, p_Course_leastStanding, p_V_beyond, p_Course_daysBeyond, p_Course_room, p_V_firstBeyond],
  [p_Course_firstDayBeyond, p_V_most, p_Course_mostDrawn, p_Course_roomFrom, p_V_least, p_Course_leastPaid, p_V_reaches, p_V_isBetween, p_Course_firstDayAt, p_V_limitFor, p_V_all, p_Ledger_interestOfAll, p_Ledger_interestOfAllBy, p_V_brought, p_WhatIf_gainBy, p_WhatIf_gainIn, p_Ledger_balances, p_V_moved, p_WhatIf_gainByMoving, p_Ledger_trialBalances],
  [p_V_bestDay, p_WhatIf_dayOfMost, p_WhatIf_productOf, p_V_late, p_WhatIf_unlikeWith, p_V_touched, p_WhatIf_firstTouched, p_V_tilted, p_WhatIf_gainByTilt, p_WhatIf_tiltIn, p_Terms_tiltOf, p_V_limited, p_WhatIf_gainByLimit, p_WhatIf_limitedProducts, p_V_needs, p_WhatIf_leastFor, p_V_caused, p_V_blame, p_WhatIf_mostGuilty, p_V_tiltFor],
  [p_WhatIf_leastTilt, p_V_rights, p_WhatIf_correctionsNow, p_Ledger_correctOn, p_V_righted, p_WhatIf_correctedNow, p_V_settled, p_WhatIf_settlement, p_WhatIf_settlementWith, p_Ledger_trialPrincipal, p_Entries_sumOfPrincipal, p_Ledger_compoundOn, p_Entries_sum, p_V_compounded, p_V_ideal, p_WhatIf_idealInterest, p_V_planned, p_V_canPlan, p_V_plan, p_WhatIf_leastPlan],
  [p_V_left, p_PaidOff_reckon, p_PaidOff_nextOf, p_PaidOff_restOf, p_PaidOff_isEntry, p_PaidOff_takeOff, p_V_gone, p_PaidOff_lastDayOf, p_V_oldest, p_PaidOff_firstOwed, p_V_pay, p_V_bookMoney, p_Script_isFull, p_V_act, p_Script_addAct, p_V_draw, p_V_reverse, p_Entries_isTurnedBack, p_Entries_moneyAhead, p_V_change],
  [p_V_close, p_V_rerun, p_V_image, p_V_keptAs, p_V_back, p_V_undo, p_Script_keepActs, p_V_anew, p_M_feed, p_M_end, p_M_in, p_M_fault, p_M_book, p_M_swaps, p_M_begins, p_M_advance, p_M_see, p_M_good, p_M_readText, p_M_readFirst],
  [p_M_passes, p_M_is, p_M_errs, p_M_told, p_M_takes, p_M_readLine, p_M_readTier, p_M_adds, p_M_readDebit, p_M_readFrom, p_M_days, p_M_readEntry, p_M_isOpen, p_M_readClose, p_M_readRerun, p_M_does, p_M_changes, p_M_enters, p_M_closes, p_M_interestOf],
  [p_M_laysBalances, p_M_interestLaid, p_M_earnedOn, p_M_partOf, p_M_holds, p_M_owedOn, p_M_nearest, p_M_compoundingOf, p_M_reruns, p_M_bookedOf, p_M_paidEntry, p_M_doesAll, p_M_count, p_M_acts, p_M_entry, p_M_isEntry, p_M_sorted, p_M_isBook, p_M_rate, p_M_isTier],
  [p_M_isDay, p_M_owing, p_M_balance, p_M_part, p_M_product, p_M_products, p_M_isPeriod, p_M_fresh, p_M_booked, p_M_wrong, p_M_wrongOf, p_M_compounds, p_M_page, p_M_line, p_M_steps, p_M_stepBy, p_M_step, p_M_lowest, p_M_beyond, p_M_isBeyond],
  [p_M_firstBeyond, p_M_mean, p_M_common, p_M_earned, p_M_backdated, p_M_reaches, p_M_limitFor, p_M_bears, p_M_caused, p_M_causedBy, p_M_blame, p_M_all, p_M_allOf, p_M_brought, p_M_moved, p_M_allMoved, p_M_bestDay, p_M_late, p_M_isLate, p_M_touched],
  [p_M_tilted, p_M_tiltedBy, p_M_tiltFor, p_M_limited, p_M_most, p_M_roomFrom, p_M_least, p_M_needs, p_M_allWith, p_M_rights, p_M_righted, p_M_settled, p_M_settledOf, p_M_compounded, p_M_planned, p_M_canPlan, p_M_plannedOf, p_M_plan, p_M_left, p_M_paysOff],
  [p_M_firstOf, p_M_gone, p_M_oldest, p_M_ideal, p_M_isTurned, p_M_pay, p_M_pays, p_M_isFull, p_M_act, p_M_draw, p_M_reverse, p_M_change, p_M_close, p_M_rerun, p_M_image, p_M_back, p_M_undo, p_M_anew, p_law]]
def nth {α : Type} (d : α) : List α → Nat → α
  | [], _ => d
  | a :: _, 0 => a
  | _ :: l, n + 1 => nth d l n
noncomputable def mr (y : Nat) : mRec := nth (0, 0, 0, 0, false, [], []) (nth [] mLL (y / 20)) (y % 20)
/-- the class of an object cell -/
def csh : Nat → Option Nat := fun k => match k with
  | 0 => some 10
  | 1 => some 6
  | 3 => some 4
  | 4 => some 5
  | 6 => some 8
  | 7 => some 5
  | 10 => some 5
  | 12 => some 5
  | 14 => some 5
  | 16 => some 2
  | 17 => some 7
  | 29 => some 1
  | 38 => some 0
  | 39 => some 9
  | 40 => some 3
  | 43 => some 11
  | _ => none
/-- an array cell: its kind (0 int, 1 long, 2 byte, 3 boolean), its length -/
def ash : Nat → Option (Nat × Nat) := fun k => match k with
  | 2 => some (2, 900)
  | 5 => some (0, 328)
  | 8 => some (0, 328)
  | 11 => some (0, 328)
  | 13 => some (0, 328)
  | 15 => some (0, 328)
  | 19 => some (0, 320)
  | 20 => some (0, 320)
  | 21 => some (0, 320)
  | 22 => some (0, 320)
  | 23 => some (0, 320)
  | 24 => some (0, 320)
  | 25 => some (0, 320)
  | 26 => some (0, 4)
  | 27 => some (0, 32)
  | 28 => some (0, 32)
  | 30 => some (0, 220)
  | 31 => some (1, 220)
  | 32 => some (0, 220)
  | 33 => some (0, 220)
  | 34 => some (0, 220)
  | 35 => some (0, 220)
  | 36 => some (1, 320)
  | 37 => some (1, 320)
  | 41 => some (1, 220)
  | 42 => some (0, 220)
  | 44 => some (0, 606)
  | 45 => some (0, 606)
  | 46 => some (0, 1818)
  | 47 => some (3, 3)
  | 48 => some (0, 4)
  | 49 => some (0, 4)
  | 50 => some (0, 3)
  | 51 => some (0, 40)
  | 52 => some (0, 40)
  | 53 => some (0, 40)
  | 54 => some (0, 500)
  | 55 => some (1, 500)
  | 56 => some (0, 500)
  | 57 => some (0, 500)
  | 58 => some (0, 500)
  | 59 => some (1, 321)
  | 60 => some (2, 900)
  | 61 => some (0, 5)
  | 62 => some (1, 500)
  | 63 => some (0, 500)
  | 64 => some (1, 500)
  | _ => none
/-- a row of references: the i-th is the cell (first) + (step) * i; how many -/
def rsh : Nat → Option (Nat × Nat × Nat) := fun k => match k with
  | 9 => some (10, 2, 3)
  | 18 => some (19, 1, 7)
  | _ => none
/-- a field's kind by class * 64 + slot: 0 int, 1 reference, 2 boolean, 9 none such -/
def fsh : Nat → Nat := fun k => match k with
  | 0 => 1
  | 1 => 1
  | 64 => 1
  | 65 => 1
  | 66 => 1
  | 67 => 1
  | 68 => 1
  | 69 => 1
  | 70 => 0
  | 128 => 1
  | 129 => 1
  | 130 => 1
  | 131 => 1
  | 132 => 0
  | 133 => 0
  | 134 => 0
  | 135 => 0
  | 192 => 1
  | 193 => 1
  | 194 => 1
  | 256 => 1
  | 257 => 1
  | 258 => 1
  | 259 => 0
  | 260 => 0
  | 261 => 0
  | 262 => 0
  | 263 => 0
  | 264 => 0
  | 265 => 2
  | 266 => 2
  | 267 => 0
  | 268 => 0
  | 269 => 0
  | 270 => 0
  | 320 => 1
  | 321 => 0
  | 322 => 0
  | 384 => 1
  | 385 => 0
  | 448 => 1
  | 449 => 1
  | 450 => 1
  | 451 => 1
  | 452 => 0
  | 453 => 0
  | 512 => 1
  | 513 => 0
  | 514 => 0
  | 515 => 0
  | 516 => 0
  | 576 => 1
  | 577 => 1
  | 578 => 1
  | 640 => 1
  | 641 => 1
  | 642 => 1
  | 643 => 1
  | 644 => 1
  | 645 => 1
  | 646 => 1
  | 647 => 1
  | 704 => 0
  | 705 => 1
  | 706 => 1
  | 707 => 1
  | 708 => 1
  | 709 => 1
  | 710 => 1
  | 711 => 0
  | 712 => 1
  | 713 => 2
  | 714 => 1
  | 715 => 1
  | 716 => 1
  | 717 => 0
  | 718 => 1
  | 719 => 1
  | 720 => 1
  | 721 => 1
  | 722 => 1
  | 723 => 0
  | 724 => 0
  | 725 => 0
  | 726 => 0
  | 727 => 0
  | 728 => 1
  | 729 => 1
  | 730 => 0
  | 731 => 1
  | 732 => 0
  | 733 => 0
  | 734 => 0
  | 735 => 0
  | 736 => 0
  | 737 => 0
  | 738 => 0
  | 739 => 0
  | 740 => 0
  | 741 => 1
  | 742 => 1
  | 743 => 1
  | _ => 9
/-- the reference fields, the model's two worlds being w and f -/
def pk (w f : Nat) : Nat → Nat → Option Nat := fun k j => match k with
  | 0 => (match j with | 0 => some 1 | 1 => some 3 | 2 => some 7 | 3 => some 9 | 4 => some 16 | 5 => some 38 | 6 => some 39 | 7 => some 40 | _ => none)
  | 1 => (match j with | 0 => some 2 | _ => none)
  | 3 => (match j with | 0 => some 1 | 1 => some 6 | 2 => some 4 | _ => none)
  | 4 => (match j with | 0 => some 5 | _ => none)
  | 6 => (match j with | 0 => some 1 | _ => none)
  | 7 => (match j with | 0 => some 8 | _ => none)
  | 10 => (match j with | 0 => some 11 | _ => none)
  | 12 => (match j with | 0 => some 13 | _ => none)
  | 14 => (match j with | 0 => some 15 | _ => none)
  | 16 => (match j with | 0 => some 17 | 1 => some 29 | 2 => some 36 | 3 => some 37 | _ => none)
  | 17 => (match j with | 0 => some 18 | 1 => some 26 | 2 => some 27 | 3 => some 28 | _ => none)
  | 29 => (match j with | 0 => some 30 | 1 => some 31 | 2 => some 32 | 3 => some 33 | 4 => some 34 | 5 => some 35 | _ => none)
  | 38 => (match j with | 0 => some 16 | 1 => some 17 | _ => none)
  | 39 => (match j with | 0 => some 16 | 1 => some 17 | 2 => some 29 | _ => none)
  | 40 => (match j with | 0 => some 29 | 1 => some 41 | 2 => some 42 | _ => none)
  | 43 => (match j with | 1 => some w | 2 => some f | 3 => some 46 | 4 => some 47 | 5 => some 48 | 6 => some 49 | 8 => some 50 | 10 => some 51 | 11 => some 52 | 12 => some 53 | 14 => some 54 | 15 => some 55 | 16 => some 56 | 17 => some 57 | 18 => some 58 | 24 => some 59 | 25 => some 60 | 27 => some 61 | 37 => some 62 | 38 => some 63 | 39 => some 64 | _ => none)
  | _ => none
/-- the texts: length, bytes -/
def tx : Nat → List Int32 := fun k => match k with
  | 0 => [98, 111, 111, 107]
  | 1 => [100, 97, 121, 115]
  | 2 => [112, 101, 114, 105, 111, 100, 115]
  | 3 => [99, 111, 109, 112, 111, 117, 110, 100]
  | 4 => [116, 105, 101, 114]
  | 5 => [116, 111]
  | 6 => [100, 101, 98, 105, 116]
  | 7 => [111, 118, 101, 114]
  | 8 => [108, 105, 109, 105, 116]
  | 9 => [102, 114, 111, 109]
  | 10 => [112, 97, 121]
  | 11 => [100, 114, 97, 119]
  | 12 => [99, 108, 111, 115, 101]
  | 13 => [114, 101, 114, 117, 110]
  | _ => []
end
section
/-! names, fields: rows of the claim's printed names (claim/NAMES.whole.lean.txt) -/
def RX0 : String := "ValueDays$Course"
def TX0 : u_T := fun k => match k with
  | 0 => ("ValueDays$Course", "ledger", "LValueDays$Ledger;", true)
  | _ => ("ValueDays$Course", "terms", "LValueDays$Terms;", true)
def tyX0 : Nat → FieldType := fun k => match k with
  | 0 => .object "ValueDays$Ledger"
  | _ => .object "ValueDays$Terms"
abbrev wsX00 : List Cond := u_ws RX0 TX0 2
theorem nmX0 : ∀ a, a < 2 → ∀ b, b < 2 → a ≠ b → (TX0 a).2.1 ≠ (TX0 b).2.1 := by decide +kernel
theorem tyX0_ok : ∀ k, k < 2 → parseFieldDescriptor (TX0 k).2.2.1 = some (tyX0 k) := by decide +kernel
def RX1 : String := "ValueDays$Entries"
def TX1 : u_T := fun k => match k with
  | 0 => ("ValueDays$Entries", "sorts", "[I", true)
  | 1 => ("ValueDays$Entries", "amounts", "[J", true)
  | 2 => ("ValueDays$Entries", "values", "[I", true)
  | 3 => ("ValueDays$Entries", "pages", "[I", true)
  | 4 => ("ValueDays$Entries", "origins", "[I", true)
  | 5 => ("ValueDays$Entries", "order", "[I", true)
  | _ => ("ValueDays$Entries", "size", "I", false)
def tyX1 : Nat → FieldType := fun k => match k with
  | 0 => .array .int
  | 1 => .array .long
  | 2 => .array .int
  | 3 => .array .int
  | 4 => .array .int
  | 5 => .array .int
  | _ => .int
abbrev wsX10 : List Cond := u_ws RX1 TX1 7
theorem nmX1 : ∀ a, a < 7 → ∀ b, b < 7 → a ≠ b → (TX1 a).2.1 ≠ (TX1 b).2.1 := by decide +kernel
theorem tyX1_ok : ∀ k, k < 7 → parseFieldDescriptor (TX1 k).2.2.1 = some (tyX1 k) := by decide +kernel
def RX2 : String := "ValueDays$Ledger"
def TX2 : u_T := fun k => match k with
  | 0 => ("ValueDays$Ledger", "terms", "LValueDays$Terms;", true)
  | 1 => ("ValueDays$Ledger", "entries", "LValueDays$Entries;", true)
  | 2 => ("ValueDays$Ledger", "balances", "[J", true)
  | 3 => ("ValueDays$Ledger", "trial", "[J", true)
  | 4 => ("ValueDays$Ledger", "span", "I", false)
  | 5 => ("ValueDays$Ledger", "periods", "I", false)
  | 6 => ("ValueDays$Ledger", "cycle", "I", false)
  | _ => ("ValueDays$Ledger", "closed", "I", false)
def tyX2 : Nat → FieldType := fun k => match k with
  | 0 => .object "ValueDays$Terms"
  | 1 => .object "ValueDays$Entries"
  | 2 => .array .long
  | 3 => .array .long
  | 4 => .int
  | 5 => .int
  | 6 => .int
  | _ => .int
abbrev wsX20 : List Cond := u_ws RX2 TX2 8
theorem nmX2 : ∀ a, a < 8 → ∀ b, b < 8 → a ≠ b → (TX2 a).2.1 ≠ (TX2 b).2.1 := by decide +kernel
theorem tyX2_ok : ∀ k, k < 8 → parseFieldDescriptor (TX2 k).2.2.1 = some (tyX2 k) := by decide +kernel
def RX3 : String := "ValueDays$PaidOff"
def TX3 : u_T := fun k => match k with
  | 0 => ("ValueDays$PaidOff", "entries", "LValueDays$Entries;", true)
  | 1 => ("ValueDays$PaidOff", "rests", "[J", true)
  | _ => ("ValueDays$PaidOff", "lastDays", "[I", true)
def tyX3 : Nat → FieldType := fun k => match k with
  | 0 => .object "ValueDays$Entries"
  | 1 => .array .long
  | _ => .array .int
abbrev wsX30 : List Cond := u_ws RX3 TX3 3
theorem nmX3 : ∀ a, a < 3 → ∀ b, b < 3 → a ≠ b → (TX3 a).2.1 ≠ (TX3 b).2.1 := by decide +kernel
theorem tyX3_ok : ∀ k, k < 3 → parseFieldDescriptor (TX3 k).2.2.1 = some (tyX3 k) := by decide +kernel
def RX4 : String := "ValueDays$Reader"
def TX4 : u_T := fun k => match k with
  | 0 => ("ValueDays$Reader", "tape", "LValueDays$Tape;", true)
  | 1 => ("ValueDays$Reader", "tokens", "LValueDays$Tokens;", true)
  | 2 => ("ValueDays$Reader", "draft", "LValueDays$Script;", true)
  | 3 => ("ValueDays$Reader", "fault", "I", false)
  | 4 => ("ValueDays$Reader", "place", "I", false)
  | 5 => ("ValueDays$Reader", "days", "I", false)
  | 6 => ("ValueDays$Reader", "periods", "I", false)
  | 7 => ("ValueDays$Reader", "tiers", "I", false)
  | 8 => ("ValueDays$Reader", "lastTop", "I", false)
  | 9 => ("ValueDays$Reader", "topless", "Z", false)
  | 10 => ("ValueDays$Reader", "debitTold", "Z", false)
  | 11 => ("ValueDays$Reader", "changes", "I", false)
  | 12 => ("ValueDays$Reader", "moneys", "I", false)
  | 13 => ("ValueDays$Reader", "closes", "I", false)
  | _ => ("ValueDays$Reader", "reruns", "I", false)
def tyX4 : Nat → FieldType := fun k => match k with
  | 0 => .object "ValueDays$Tape"
  | 1 => .object "ValueDays$Tokens"
  | 2 => .object "ValueDays$Script"
  | 3 => .int
  | 4 => .int
  | 5 => .int
  | 6 => .int
  | 7 => .int
  | 8 => .int
  | 9 => .boolean
  | 10 => .boolean
  | 11 => .int
  | 12 => .int
  | 13 => .int
  | _ => .int
abbrev wsX40 : List Cond := u_ws RX4 TX4 15
theorem nmX4 : ∀ a, a < 15 → ∀ b, b < 15 → a ≠ b → (TX4 a).2.1 ≠ (TX4 b).2.1 := by decide +kernel
theorem tyX4_ok : ∀ k, k < 15 → parseFieldDescriptor (TX4 k).2.2.1 = some (tyX4 k) := by decide +kernel
def RX5 : String := "ValueDays$Script"
def TX5 : u_T := fun k => match k with
  | 0 => ("ValueDays$Script", "cells", "[I", true)
  | 1 => ("ValueDays$Script", "lines", "I", false)
  | _ => ("ValueDays$Script", "acts", "I", false)
def tyX5 : Nat → FieldType := fun k => match k with
  | 0 => .array .int
  | 1 => .int
  | _ => .int
abbrev wsX50 : List Cond := u_ws RX5 TX5 3
theorem nmX5 : ∀ a, a < 3 → ∀ b, b < 3 → a ≠ b → (TX5 a).2.1 ≠ (TX5 b).2.1 := by decide +kernel
theorem tyX5_ok : ∀ k, k < 3 → parseFieldDescriptor (TX5 k).2.2.1 = some (tyX5 k) := by decide +kernel
def RX6 : String := "ValueDays$Tape"
def TX6 : u_T := fun k => match k with
  | 0 => ("ValueDays$Tape", "bytes", "[B", true)
  | _ => ("ValueDays$Tape", "length", "I", false)
def tyX6 : Nat → FieldType := fun k => match k with
  | 0 => .array .byte
  | _ => .int
abbrev wsX60 : List Cond := u_ws RX6 TX6 2
theorem nmX6 : ∀ a, a < 2 → ∀ b, b < 2 → a ≠ b → (TX6 a).2.1 ≠ (TX6 b).2.1 := by decide +kernel
theorem tyX6_ok : ∀ k, k < 2 → parseFieldDescriptor (TX6 k).2.2.1 = some (tyX6 k) := by decide +kernel
def RX7 : String := "ValueDays$Terms"
def TX7 : u_T := fun k => match k with
  | 0 => ("ValueDays$Terms", "rules", "[[I", true)
  | 1 => ("ValueDays$Terms", "tops", "[I", true)
  | 2 => ("ValueDays$Terms", "changeDays", "[I", true)
  | 3 => ("ValueDays$Terms", "changeRules", "[I", true)
  | 4 => ("ValueDays$Terms", "tiers", "I", false)
  | _ => ("ValueDays$Terms", "changes", "I", false)
def tyX7 : Nat → FieldType := fun k => match k with
  | 0 => .array (.array .int)
  | 1 => .array .int
  | 2 => .array .int
  | 3 => .array .int
  | 4 => .int
  | _ => .int
abbrev wsX70 : List Cond := u_ws RX7 TX7 6
theorem nmX7 : ∀ a, a < 6 → ∀ b, b < 6 → a ≠ b → (TX7 a).2.1 ≠ (TX7 b).2.1 := by decide +kernel
theorem tyX7_ok : ∀ k, k < 6 → parseFieldDescriptor (TX7 k).2.2.1 = some (tyX7 k) := by decide +kernel
def RX8 : String := "ValueDays$Tokens"
def TX8 : u_T := fun k => match k with
  | 0 => ("ValueDays$Tokens", "tape", "LValueDays$Tape;", true)
  | 1 => ("ValueDays$Tokens", "kind", "I", false)
  | 2 => ("ValueDays$Tokens", "start", "I", false)
  | 3 => ("ValueDays$Tokens", "stop", "I", false)
  | _ => ("ValueDays$Tokens", "number", "I", false)
def tyX8 : Nat → FieldType := fun k => match k with
  | 0 => .object "ValueDays$Tape"
  | 1 => .int
  | 2 => .int
  | 3 => .int
  | _ => .int
abbrev wsX80 : List Cond := u_ws RX8 TX8 5
theorem nmX8 : ∀ a, a < 5 → ∀ b, b < 5 → a ≠ b → (TX8 a).2.1 ≠ (TX8 b).2.1 := by decide +kernel
theorem tyX8_ok : ∀ k, k < 5 → parseFieldDescriptor (TX8 k).2.2.1 = some (tyX8 k) := by decide +kernel
def RX9 : String := "ValueDays$WhatIf"
def TX9 : u_T := fun k => match k with
  | 0 => ("ValueDays$WhatIf", "ledger", "LValueDays$Ledger;", true)
  | 1 => ("ValueDays$WhatIf", "terms", "LValueDays$Terms;", true)
  | _ => ("ValueDays$WhatIf", "entries", "LValueDays$Entries;", true)
def tyX9 : Nat → FieldType := fun k => match k with
  | 0 => .object "ValueDays$Ledger"
  | 1 => .object "ValueDays$Terms"
  | _ => .object "ValueDays$Entries"
abbrev wsX90 : List Cond := u_ws RX9 TX9 3
theorem nmX9 : ∀ a, a < 3 → ∀ b, b < 3 → a ≠ b → (TX9 a).2.1 ≠ (TX9 b).2.1 := by decide +kernel
theorem tyX9_ok : ∀ k, k < 3 → parseFieldDescriptor (TX9 k).2.2.1 = some (tyX9 k) := by decide +kernel
def RX10 : String := "ValueDays"
def TX10 : u_T := fun k => match k with
  | 0 => ("ValueDays", "tape", "LValueDays$Tape;", true)
  | 1 => ("ValueDays", "reader", "LValueDays$Reader;", true)
  | 2 => ("ValueDays", "script", "LValueDays$Script;", true)
  | 3 => ("ValueDays", "images", "[LValueDays$Script;", true)
  | 4 => ("ValueDays", "ledger", "LValueDays$Ledger;", true)
  | 5 => ("ValueDays", "course", "LValueDays$Course;", true)
  | 6 => ("ValueDays", "whatIf", "LValueDays$WhatIf;", true)
  | _ => ("ValueDays", "paidOff", "LValueDays$PaidOff;", true)
def tyX10 : Nat → FieldType := fun k => match k with
  | 0 => .object "ValueDays$Tape"
  | 1 => .object "ValueDays$Reader"
  | 2 => .object "ValueDays$Script"
  | 3 => .array (.object "ValueDays$Script")
  | 4 => .object "ValueDays$Ledger"
  | 5 => .object "ValueDays$Course"
  | 6 => .object "ValueDays$WhatIf"
  | _ => .object "ValueDays$PaidOff"
abbrev wsX100 : List Cond := u_ws RX10 TX10 8
theorem nmX10 : ∀ a, a < 8 → ∀ b, b < 8 → a ≠ b → (TX10 a).2.1 ≠ (TX10 b).2.1 := by decide +kernel
theorem tyX10_ok : ∀ k, k < 8 → parseFieldDescriptor (TX10 k).2.2.1 = some (tyX10 k) := by decide +kernel
def RX11 : String := "ValueDaysModel"
def TX11 : u_T := fun k => match k with
  | 0 => ("ValueDaysModel", "thrown", "I", false)
  | 1 => ("ValueDaysModel", "world", "[I", false)
  | 2 => ("ValueDaysModel", "fresh", "[I", false)
  | 3 => ("ValueDaysModel", "images", "[I", true)
  | 4 => ("ValueDaysModel", "hasImage", "[Z", true)
  | 5 => ("ValueDaysModel", "tierRate", "[I", true)
  | 6 => ("ValueDaysModel", "tierTo", "[I", true)
  | 7 => ("ValueDaysModel", "tiers", "I", false)
  | 8 => ("ValueDaysModel", "debit", "[I", true)
  | 9 => ("ValueDaysModel", "hasDebit", "Z", false)
  | 10 => ("ValueDaysModel", "changeDay", "[I", true)
  | 11 => ("ValueDaysModel", "changeOf", "[I", true)
  | 12 => ("ValueDaysModel", "changeTo", "[I", true)
  | 13 => ("ValueDaysModel", "changes", "I", false)
  | 14 => ("ValueDaysModel", "sortOf", "[I", true)
  | 15 => ("ValueDaysModel", "amountOf", "[J", true)
  | 16 => ("ValueDaysModel", "valueOf", "[I", true)
  | 17 => ("ValueDaysModel", "bookedIn", "[I", true)
  | 18 => ("ValueDaysModel", "isOf", "[I", true)
  | 19 => ("ValueDaysModel", "entries", "I", false)
  | 20 => ("ValueDaysModel", "closed", "I", false)
  | 21 => ("ValueDaysModel", "tilt", "I", false)
  | 22 => ("ValueDaysModel", "tiltBy", "I", false)
  | 23 => ("ValueDaysModel", "forced", "I", false)
  | 24 => ("ValueDaysModel", "balances", "[J", true)
  | 25 => ("ValueDaysModel", "tape", "[B", true)
  | 26 => ("ValueDaysModel", "taped", "I", false)
  | 27 => ("ValueDaysModel", "five", "[I", true)
  | 28 => ("ValueDaysModel", "size", "I", false)
  | 29 => ("ValueDaysModel", "at", "I", false)
  | 30 => ("ValueDaysModel", "from", "I", false)
  | 31 => ("ValueDaysModel", "token", "I", false)
  | 32 => ("ValueDaysModel", "value", "I", false)
  | 33 => ("ValueDaysModel", "faultKind", "I", false)
  | 34 => ("ValueDaysModel", "faultPlace", "I", false)
  | 35 => ("ValueDaysModel", "toldEntries", "I", false)
  | 36 => ("ValueDaysModel", "toldReruns", "I", false)
  | 37 => ("ValueDaysModel", "leftOf", "[J", true)
  | 38 => ("ValueDaysModel", "lastBy", "[I", true)
  | _ => ("ValueDaysModel", "kept", "[J", true)
def tyX11 : Nat → FieldType := fun k => match k with
  | 0 => .int
  | 1 => .array .int
  | 2 => .array .int
  | 3 => .array .int
  | 4 => .array .boolean
  | 5 => .array .int
  | 6 => .array .int
  | 7 => .int
  | 8 => .array .int
  | 9 => .boolean
  | 10 => .array .int
  | 11 => .array .int
  | 12 => .array .int
  | 13 => .int
  | 14 => .array .int
  | 15 => .array .long
  | 16 => .array .int
  | 17 => .array .int
  | 18 => .array .int
  | 19 => .int
  | 20 => .int
  | 21 => .int
  | 22 => .int
  | 23 => .int
  | 24 => .array .long
  | 25 => .array .byte
  | 26 => .int
  | 27 => .array .int
  | 28 => .int
  | 29 => .int
  | 30 => .int
  | 31 => .int
  | 32 => .int
  | 33 => .int
  | 34 => .int
  | 35 => .int
  | 36 => .int
  | 37 => .array .long
  | 38 => .array .int
  | _ => .array .long
abbrev wsX110 : List Cond := u_ws RX11 TX11 40
theorem nmX11 : ∀ a, a < 40 → ∀ b, b < 40 → a ≠ b → (TX11 a).2.1 ≠ (TX11 b).2.1 := by decide +kernel
theorem tyX11_ok : ∀ k, k < 40 → parseFieldDescriptor (TX11 k).2.2.1 = some (tyX11 k) := by decide +kernel
abbrev vwCl : List vw_C := [(RX0, TX0, 2), (RX1, TX1, 7), (RX2, TX2, 8), (RX3, TX3, 3), (RX4, TX4, 15), (RX5, TX5, 3), (RX6, TX6, 2), (RX7, TX7, 6), (RX8, TX8, 5), (RX9, TX9, 3), (RX10, TX10, 8), (RX11, TX11, 40)]
end
section
/-! the methods by number: name, code, type, room, and where their words lie in the tables (chunk * 1000 + place); written by wip/whole/gen2.py -/
abbrev mNR : Type := Jvm.MethodName × ByteArray × Option FieldType × Nat × Nat × Nat × Nat × Nat × Nat × Nat
noncomputable def mNN : List (List mNR) := [[(⟨"ValueDays", "feed", "(IIIII)I"⟩, prog_1_method_2_code, some .int, 0, 1, 22, 2061, 2059, 2060, 1001),
   (⟨"ValueDays$Tape", "hasRoom", "(I)Z"⟩, prog_8_method_3_code, some .boolean, 2, 0, 0, 2065, 2063, 2064, 1002),
   (⟨"ValueDays$Tape", "addNumber", "(I)V"⟩, prog_8_method_4_code, none, 2, 0, 0, 2069, 2067, 2068, 1002),
   (⟨"ValueDays$Tape", "length", "()I"⟩, prog_8_method_2_code, some .int, 2, 0, 0, 2073, 2071, 2072, 1002),
   (⟨"ValueDays", "end", "(I)I"⟩, prog_1_method_3_code, some .int, 0, 1, 21, 2077, 2075, 2076, 1001),
   (⟨"ValueDays$Tape", "cut", "(I)V"⟩, prog_8_method_5_code, none, 2, 0, 0, 2081, 2079, 2080, 1002),
   (⟨"ValueDays", "book", "()I"⟩, prog_1_method_4_code, some .int, 0, 11, 233, 2085, 2083, 2084, 1001),
   (⟨"ValueDays$Reader", "readText", "()V"⟩, prog_6_method_5_code, none, 3, 10, 212, 2089, 2087, 2088, 1003),
   (⟨"ValueDays$Reader", "forget", "()V"⟩, prog_6_method_7_code, none, 3, 1, 20, 2093, 2092, 0, 1003),
   (⟨"ValueDays$Script", "clear", "()V"⟩, prog_7_method_8_code, none, 4, 0, 0, 2097, 2095, 2096, 1004),
   (⟨"ValueDays$Tokens", "begin", "()V"⟩, prog_10_method_5_code, none, 5, 2, 42, 2101, 2099, 2100, 1005),
   (⟨"ValueDays$Tokens", "advance", "()V"⟩, prog_10_method_6_code, none, 5, 1, 21, 2105, 2103, 2104, 1005),
   (⟨"ValueDays$Tape", "byteAt", "(I)I"⟩, prog_8_method_6_code, some .int, 2, 0, 0, 2110, 2108, 2109, 1002),
   (⟨"ValueDays$Tokens", "isBlank", "(I)Z"⟩, prog_10_method_8_code, some .boolean, 5, 0, 0, 2113, 2112, 0, 1005),
   (⟨"ValueDays$Tokens", "isLetter", "(I)Z"⟩, prog_10_method_9_code, some .boolean, 5, 0, 0, 2116, 2115, 0, 1005),
   (⟨"ValueDays$Tokens", "isDigit", "(I)Z"⟩, prog_10_method_10_code, some .boolean, 5, 0, 0, 2119, 2118, 0, 1005),
   (⟨"ValueDays$Reader", "goesOn", "()Z"⟩, prog_6_method_6_code, some .boolean, 3, 1, 20, 2125, 2124, 1, 1003),
   (⟨"ValueDays$Tokens", "kind", "()I"⟩, prog_10_method_2_code, some .int, 5, 0, 0, 2129, 2127, 2128, 1005),
   (⟨"ValueDays$Reader", "readLine", "()V"⟩, prog_6_method_8_code, none, 3, 9, 192, 2133, 2132, 2, 1003),
   (⟨"ValueDays$Script", "lines", "()I"⟩, prog_7_method_2_code, some .int, 4, 0, 0, 2137, 2135, 2136, 1004)],
  [(⟨"ValueDays$Reader", "readBook", "()V"⟩, prog_6_method_9_code, none, 3, 7, 149, 2141, 2140, 3, 1003),
   (⟨"ValueDays$Reader", "takeWord", "(Ljava/lang/String;)V"⟩, prog_6_method_17_code, none, 3, 6, 128, 2146, 2145, 4, 1003),
   (⟨"ValueDays$Tokens", "isWord", "(Ljava/lang/String;)Z"⟩, prog_10_method_7_code, some .boolean, 5, 5, 106, 2150, 2148, 2149, 1005),
   (⟨"java/lang/String", "length", "()I"⟩, prog_15_method_54_code, some .int, 12, 1, 20, 2154, 2152, 2153, 1013),
   (⟨"java/lang/String", "coder", "()B"⟩, prog_15_method_152_code, some .byte, 12, 0, 0, 2158, 2156, 2157, 1013),
   (⟨"java/lang/String", "charAt", "(I)C"⟩, prog_15_method_56_code, some .char, 12, 4, 85, 2164, 2162, 2163, 1013),
   (⟨"java/lang/String", "isLatin1", "()Z"⟩, prog_15_method_154_code, some .boolean, 12, 0, 0, 2168, 2166, 2167, 1013),
   (⟨"java/lang/StringLatin1", "charAt", "([BI)C"⟩, prog_16_method_2_code, some .char, 13, 2, 43, 2171, 2170, 0, 1014),
   (⟨"java/lang/String", "checkIndex", "(II)V"⟩, prog_15_method_155_code, none, 12, 1, 22, 2174, 2173, 0, 1013),
   (⟨"jdk/internal/util/Preconditions", "checkIndex", "(IILjava/util/function/BiFunction;)I"⟩, prog_20_method_11_code, some .int, 14, 0, 0, 2179, 2178, 0, 1015),
   (⟨"java/lang/StringUTF16", "charAt", "([BI)C"⟩, prog_17_method_83_code, some .char, 15, 3, 64, 2182, 2181, 0, 1016),
   (⟨"java/lang/StringUTF16", "checkIndex", "(I[B)V"⟩, prog_17_method_91_code, none, 15, 2, 43, 2185, 2184, 0, 1016),
   (⟨"java/lang/StringUTF16", "length", "([B)I"⟩, prog_17_method_6_code, some .int, 15, 0, 0, 2188, 2187, 0, 1016),
   (⟨"java/lang/StringUTF16", "getChar", "([BI)C"⟩, prog_17_method_5_code, some .char, 15, 1, 20, 2192, 2191, 0, 1016),
   (⟨"ValueDays$Reader", "refuse", "(I)V"⟩, prog_6_method_20_code, none, 3, 1, 20, 2203, 2202, 5, 1003),
   (⟨"ValueDays$Tokens", "start", "()I"⟩, prog_10_method_3_code, some .int, 5, 0, 0, 2207, 2205, 2206, 1005),
   (⟨"ValueDays$Reader", "takeNumber", "(II)I"⟩, prog_6_method_18_code, some .int, 3, 2, 42, 2212, 2211, 6, 1003),
   (⟨"ValueDays$Tokens", "number", "()I"⟩, prog_10_method_4_code, some .int, 5, 0, 0, 2216, 2214, 2215, 1005),
   (⟨"ValueDays$Reader", "finish", "(IIII)V"⟩, prog_6_method_19_code, none, 3, 2, 50, 2222, 2221, 7, 1003),
   (⟨"ValueDays$Script", "addLine", "(IIII)V"⟩, prog_7_method_10_code, none, 4, 1, 26, 2226, 2224, 2225, 1004)],
  [(⟨"ValueDays$Script", "put", "(IIIII)V"⟩, prog_7_method_12_code, none, 4, 0, 0, 2230, 2229, 8, 1004),
   (⟨"ValueDays$Reader", "readTier", "()V"⟩, prog_6_method_10_code, none, 3, 7, 149, 2235, 2234, 9, 1003),
   (⟨"ValueDays$Reader", "readDebit", "()V"⟩, prog_6_method_11_code, none, 3, 7, 149, 3002, 3001, 10, 1003),
   (⟨"ValueDays$Reader", "readFrom", "()V"⟩, prog_6_method_12_code, none, 3, 8, 169, 3009, 3008, 11, 1003),
   (⟨"ValueDays$Reader", "takeWhich", "()I"⟩, prog_6_method_13_code, some .int, 3, 7, 149, 3013, 3012, 12, 1003),
   (⟨"ValueDays$Reader", "readMoney", "(I)V"⟩, prog_6_method_14_code, none, 3, 7, 149, 3018, 3017, 13, 1003),
   (⟨"ValueDays$Reader", "readClose", "()V"⟩, prog_6_method_15_code, none, 3, 7, 149, 3024, 3023, 14, 1003),
   (⟨"ValueDays$Reader", "readRerun", "()V"⟩, prog_6_method_16_code, none, 3, 7, 149, 3029, 3028, 15, 1003),
   (⟨"ValueDays$Reader", "faultKind", "()I"⟩, prog_6_method_3_code, some .int, 3, 0, 0, 3033, 3031, 3032, 1003),
   (⟨"ValueDays$Reader", "draft", "()LValueDays$Script;"⟩, prog_6_method_2_code, some (.object "ValueDays$Script"), 3, 0, 0, 3037, 3035, 3036, 1003),
   (⟨"ValueDays$Script", "copyFrom", "(LValueDays$Script;)V"⟩, prog_7_method_13_code, none, 4, 1, 60, 3041, 3039, 3040, 1004),
   (⟨"ValueDays$Script", "cycle", "()I"⟩, prog_7_method_7_code, some .int, 4, 2, 42, 3048, 3046, 3047, 1004),
   (⟨"ValueDays$Script", "told", "(II)I"⟩, prog_7_method_6_code, some .int, 4, 1, 20, 3052, 3050, 3051, 1004),
   (⟨"ValueDays$Script", "size", "()I"⟩, prog_7_method_4_code, some .int, 4, 0, 0, 3056, 3054, 3055, 1004),
   (⟨"ValueDays$Ledger", "replay", "(LValueDays$Script;I)V"⟩, prog_4_method_14_code, none, 6, 5, 159, 3060, 3058, 3059, 1006),
   (⟨"ValueDays$Terms", "clear", "()V"⟩, prog_9_method_6_code, none, 7, 1, 23, 3064, 3062, 3063, 1007),
   (⟨"java/util/Arrays", "fill", "([II)V"⟩, prog_19_method_103_code, none, 16, 0, 0, 3067, 3066, 0, 1018),
   (⟨"ValueDays$Entries", "clear", "()V"⟩, prog_3_method_12_code, none, 8, 0, 0, 3071, 3069, 3070, 1008),
   (⟨"java/util/Arrays", "fill", "([JJ)V"⟩, prog_19_method_101_code, none, 16, 0, 0, 3074, 3073, 0, 1018),
   (⟨"ValueDays$Ledger", "perform", "(LValueDays$Script;I)V"⟩, prog_4_method_15_code, none, 6, 4, 134, 3080, 3078, 3079, 1006)],
  [(⟨"ValueDays$Terms", "addTier", "(II)V"⟩, prog_9_method_7_code, none, 7, 2, 85, 3084, 3082, 3083, 1007),
   (⟨"ValueDays$Terms", "spread", "(III)V"⟩, prog_9_method_10_code, none, 7, 1, 60, 3088, 3087, 16, 1007),
   (⟨"ValueDays$Terms", "tellDebit", "(III)V"⟩, prog_9_method_8_code, none, 7, 2, 85, 3098, 3096, 3097, 1007),
   (⟨"ValueDays$Terms", "addChange", "(III)V"⟩, prog_9_method_9_code, none, 7, 2, 85, 3102, 3100, 3101, 1007),
   (⟨"ValueDays$Ledger", "addEntry", "(IJII)V"⟩, prog_4_method_16_code, none, 6, 2, 86, 3106, 3105, 17, 1006),
   (⟨"ValueDays$Entries", "add", "(IJIII)V"⟩, prog_3_method_13_code, none, 8, 0, 0, 3110, 3108, 3109, 1008),
   (⟨"ValueDays$Ledger", "shift", "([JIJ)V"⟩, prog_4_method_26_code, none, 6, 1, 60, 3114, 3112, 3113, 1006),
   (⟨"ValueDays$Ledger", "days", "()I"⟩, prog_4_method_6_code, some .int, 6, 0, 0, 3118, 3116, 3117, 1006),
   (⟨"ValueDays$Ledger", "closeOpen", "()V"⟩, prog_4_method_17_code, none, 6, 3, 111, 3124, 3123, 18, 1006),
   (⟨"ValueDays$Ledger", "hasOpen", "()Z"⟩, prog_4_method_10_code, some .boolean, 6, 0, 0, 3128, 3126, 3127, 1006),
   (⟨"ValueDays$Ledger", "productsOf", "([JIIJ)J"⟩, prog_4_method_24_code, some .long, 6, 2, 60, 3132, 3130, 3131, 1006),
   (⟨"ValueDays$Ledger", "firstDay", "(I)I"⟩, prog_4_method_11_code, some .int, 6, 0, 0, 3136, 3134, 3135, 1006),
   (⟨"ValueDays$Terms", "credit", "(IJ)J"⟩, prog_9_method_16_code, some .long, 7, 0, 0, 3140, 3138, 3139, 1007),
   (⟨"ValueDays$Terms", "debt", "(IJ)J"⟩, prog_9_method_17_code, some .long, 7, 1, 28, 3144, 3142, 3143, 1007),
   (⟨"ValueDays$Terms", "debtBy", "(IIJ)J"⟩, prog_9_method_18_code, some .long, 7, 0, 0, 3148, 3146, 3147, 1007),
   (⟨"ValueDays$Ledger", "nearest", "(J)J"⟩, prog_4_method_25_code, some .long, 6, 1, 60, 3151, 3150, 0, 1006),
   (⟨"ValueDays$Ledger", "compoundingDay", "(I)I"⟩, prog_4_method_12_code, some .int, 6, 0, 0, 3160, 3158, 3159, 1006),
   (⟨"ValueDays$Ledger", "runAnew", "()V"⟩, prog_4_method_18_code, none, 6, 3, 111, 3164, 3163, 19, 1006),
   (⟨"ValueDays$Entries", "interestBooked", "(I)J"⟩, prog_3_method_17_code, some .long, 8, 2, 42, 3168, 3166, 3167, 1008),
   (⟨"ValueDays$Entries", "isInterest", "(I)Z"⟩, prog_3_method_10_code, some .boolean, 8, 1, 21, 3172, 3170, 3171, 1008)],
  [(⟨"ValueDays$Entries", "has", "(I)Z"⟩, prog_3_method_3_code, some .boolean, 8, 0, 0, 3176, 3174, 3175, 1008),
   (⟨"ValueDays$Entries", "moneyAt", "(I)I"⟩, prog_3_method_16_code, some .int, 8, 0, 0, 3180, 3178, 3179, 1008),
   (⟨"ValueDays$Ledger", "turnBack", "(I)V"⟩, prog_4_method_19_code, none, 6, 3, 111, 3184, 3183, 20, 1006),
   (⟨"ValueDays$Entries", "amountOf", "(I)J"⟩, prog_3_method_5_code, some .long, 8, 1, 21, 3189, 3187, 3188, 1008),
   (⟨"ValueDays$Entries", "valueOf", "(I)I"⟩, prog_3_method_6_code, some .int, 8, 1, 21, 3193, 3191, 3192, 1008),
   (⟨"ValueDays", "fault", "(I)I"⟩, prog_1_method_5_code, some .int, 0, 1, 20, 3198, 3196, 3197, 1001),
   (⟨"ValueDays$Reader", "faultPlace", "()I"⟩, prog_6_method_4_code, some .int, 3, 0, 0, 3202, 3200, 3201, 1003),
   (⟨"ValueDays", "count", "(I)I"⟩, prog_1_method_6_code, some .int, 0, 1, 20, 3206, 3204, 3205, 1001),
   (⟨"ValueDays$Ledger", "span", "()I"⟩, prog_4_method_2_code, some .int, 6, 0, 0, 3210, 3208, 3209, 1006),
   (⟨"ValueDays$Ledger", "periods", "()I"⟩, prog_4_method_3_code, some .int, 6, 0, 0, 3214, 3212, 3213, 1006),
   (⟨"ValueDays$Ledger", "cycle", "()I"⟩, prog_4_method_4_code, some .int, 6, 0, 0, 3218, 3216, 3217, 1006),
   (⟨"ValueDays$Terms", "tiers", "()I"⟩, prog_9_method_2_code, some .int, 7, 0, 0, 3222, 3220, 3221, 1007),
   (⟨"ValueDays$Terms", "changes", "()I"⟩, prog_9_method_3_code, some .int, 7, 0, 0, 3226, 3224, 3225, 1007),
   (⟨"ValueDays$Entries", "size", "()I"⟩, prog_3_method_2_code, some .int, 8, 0, 0, 3230, 3228, 3229, 1008),
   (⟨"ValueDays$Ledger", "closed", "()I"⟩, prog_4_method_5_code, some .int, 6, 0, 0, 3234, 3232, 3233, 1006),
   (⟨"ValueDays$Script", "acts", "()I"⟩, prog_7_method_3_code, some .int, 4, 0, 0, 3238, 3236, 3237, 1004),
   (⟨"ValueDays", "entry", "(II)J"⟩, prog_1_method_7_code, some .long, 0, 3, 63, 4002, 4000, 4001, 1001),
   (⟨"ValueDays$Entries", "sortOf", "(I)I"⟩, prog_3_method_4_code, some .int, 8, 1, 21, 4008, 4006, 4007, 1008),
   (⟨"ValueDays$Entries", "pageOf", "(I)I"⟩, prog_3_method_7_code, some .int, 8, 1, 21, 4014, 4012, 4013, 1008),
   (⟨"ValueDays$Entries", "periodOf", "(I)I"⟩, prog_3_method_8_code, some .int, 8, 2, 42, 4018, 4016, 4017, 1008)],
  [(⟨"ValueDays$Entries", "turnedOf", "(I)I"⟩, prog_3_method_9_code, some .int, 8, 1, 21, 4022, 4020, 4021, 1008),
   (⟨"ValueDays", "sorted", "(I)I"⟩, prog_1_method_8_code, some .int, 0, 2, 42, 4026, 4024, 4025, 1001),
   (⟨"ValueDays", "noBook", "()Z"⟩, prog_1_method_66_code, some .boolean, 0, 1, 20, 4030, 4029, 21, 1001),
   (⟨"ValueDays$Entries", "inOrder", "(I)I"⟩, prog_3_method_11_code, some .int, 8, 1, 21, 4034, 4032, 4033, 1008),
   (⟨"ValueDays", "rate", "(II)I"⟩, prog_1_method_9_code, some .int, 0, 1, 22, 4038, 4036, 4037, 1001),
   (⟨"ValueDays$Terms", "isTier", "(I)Z"⟩, prog_9_method_4_code, some .boolean, 7, 0, 0, 4042, 4040, 4041, 1007),
   (⟨"ValueDays$Ledger", "isDay", "(I)Z"⟩, prog_4_method_7_code, some .boolean, 6, 0, 0, 4046, 4044, 4045, 1006),
   (⟨"ValueDays$Terms", "rule", "(II)I"⟩, prog_9_method_5_code, some .int, 7, 0, 0, 4050, 4048, 4049, 1007),
   (⟨"ValueDays", "owing", "(II)I"⟩, prog_1_method_10_code, some .int, 0, 1, 22, 4054, 4052, 4053, 1001),
   (⟨"ValueDays", "balance", "(I)J"⟩, prog_1_method_11_code, some .long, 0, 1, 21, 4058, 4056, 4057, 1001),
   (⟨"ValueDays$Ledger", "standing", "(I)J"⟩, prog_4_method_13_code, some .long, 6, 0, 0, 4062, 4060, 4061, 1006),
   (⟨"ValueDays", "part", "(II)J"⟩, prog_1_method_12_code, some .long, 0, 3, 108, 4066, 4064, 4065, 1001),
   (⟨"ValueDays$Terms", "partOf", "(IJ)J"⟩, prog_9_method_12_code, some .long, 7, 2, 83, 4070, 4068, 4069, 1007),
   (⟨"ValueDays$Terms", "topOf", "(IJ)J"⟩, prog_9_method_11_code, some .long, 7, 1, 60, 4074, 4073, 22, 1007),
   (⟨"ValueDays$Terms", "partAboveAll", "(J)J"⟩, prog_9_method_13_code, some .long, 7, 2, 83, 4084, 4082, 4083, 1007),
   (⟨"ValueDays$Terms", "owedWithin", "(IJ)J"⟩, prog_9_method_14_code, some .long, 7, 1, 60, 4088, 4086, 4087, 1007),
   (⟨"ValueDays$Terms", "owedAbove", "(IJ)J"⟩, prog_9_method_15_code, some .long, 7, 1, 60, 4093, 4091, 4092, 1007),
   (⟨"ValueDays", "product", "(I)J"⟩, prog_1_method_13_code, some .long, 0, 2, 51, 4097, 4095, 4096, 1001),
   (⟨"ValueDays", "products", "(II)J"⟩, prog_1_method_14_code, some .long, 0, 3, 76, 4103, 4101, 4102, 1001),
   (⟨"ValueDays$Ledger", "isPeriod", "(I)Z"⟩, prog_4_method_8_code, some .boolean, 6, 0, 0, 4107, 4105, 4106, 1006)],
  [(⟨"ValueDays$Course", "creditOf", "(I)J"⟩, prog_2_method_2_code, some .long, 9, 1, 30, 4111, 4109, 4110, 1009),
   (⟨"ValueDays$Course", "debtOf", "(I)J"⟩, prog_2_method_3_code, some .long, 9, 2, 51, 4119, 4117, 4118, 1009),
   (⟨"ValueDays", "fresh", "(I)J"⟩, prog_1_method_15_code, some .long, 0, 5, 137, 4124, 4122, 4123, 1001),
   (⟨"ValueDays$Ledger", "interestNow", "(I)J"⟩, prog_4_method_20_code, some .long, 6, 4, 116, 4128, 4126, 4127, 1006),
   (⟨"ValueDays$Ledger", "interest", "([JIIJ)J"⟩, prog_4_method_23_code, some .long, 6, 3, 91, 4132, 4130, 4131, 1006),
   (⟨"ValueDays", "booked", "(I)J"⟩, prog_1_method_16_code, some .long, 0, 3, 66, 4136, 4134, 4135, 1001),
   (⟨"ValueDays", "wrong", "(I)J"⟩, prog_1_method_17_code, some .long, 0, 5, 137, 4141, 4139, 4140, 1001),
   (⟨"ValueDays$Ledger", "isClosed", "(I)Z"⟩, prog_4_method_9_code, some .boolean, 6, 0, 0, 4145, 4143, 4144, 1006),
   (⟨"ValueDays", "compounds", "(I)I"⟩, prog_1_method_18_code, some .int, 0, 1, 21, 4149, 4147, 4148, 1001),
   (⟨"ValueDays", "page", "(II)J"⟩, prog_1_method_19_code, some .long, 0, 3, 105, 4154, 4152, 4153, 1001),
   (⟨"ValueDays$Entries", "sumAhead", "(I)J"⟩, prog_3_method_20_code, some .long, 8, 0, 0, 4158, 4156, 4157, 1008),
   (⟨"ValueDays$Entries", "paidOn", "(I)J"⟩, prog_3_method_22_code, some .long, 8, 1, 60, 4162, 4160, 4161, 1008),
   (⟨"ValueDays$Entries", "drawnOn", "(I)J"⟩, prog_3_method_23_code, some .long, 8, 2, 84, 4167, 4165, 4166, 1008),
   (⟨"ValueDays$Entries", "sumOn", "(II)J"⟩, prog_3_method_21_code, some .long, 8, 0, 0, 4172, 4170, 4171, 1008),
   (⟨"ValueDays$Entries", "sizeOn", "(I)I"⟩, prog_3_method_24_code, some .int, 8, 1, 25, 4177, 4175, 4176, 1008),
   (⟨"ValueDays$Entries", "sizeValued", "(III)I"⟩, prog_3_method_25_code, some .int, 8, 0, 0, 4181, 4179, 4180, 1008),
   (⟨"ValueDays", "line", "(II)I"⟩, prog_1_method_20_code, some .int, 0, 1, 24, 4185, 4183, 4184, 1001),
   (⟨"ValueDays$Entries", "onPage", "(II)I"⟩, prog_3_method_27_code, some .int, 8, 0, 0, 4189, 4187, 4188, 1008),
   (⟨"ValueDays", "mean", "(II)J"⟩, prog_1_method_21_code, some .long, 0, 3, 69, 4193, 4191, 4192, 1001),
   (⟨"ValueDays$Course", "meanAbove", "(I)J"⟩, prog_2_method_5_code, some .long, 9, 2, 46, 4197, 4195, 4196, 1009)],
  [(⟨"ValueDays$Course", "standingsOf", "(I)J"⟩, prog_2_method_7_code, some .long, 9, 1, 21, 4201, 4200, 23, 1009),
   (⟨"ValueDays$Course", "commonDivisor", "(J)I"⟩, prog_2_method_8_code, some .int, 9, 1, 20, 4205, 4204, 24, 1009),
   (⟨"ValueDays$Course", "meanBelow", "(I)J"⟩, prog_2_method_6_code, some .long, 9, 2, 46, 4209, 4207, 4208, 1009),
   (⟨"ValueDays", "earned", "(II)J"⟩, prog_1_method_22_code, some .long, 0, 4, 134, 4213, 4211, 4212, 1001),
   (⟨"ValueDays$Course", "creditOfTier", "(II)J"⟩, prog_2_method_4_code, some .long, 9, 3, 108, 4217, 4215, 4216, 1009),
   (⟨"ValueDays", "backdated", "(II)J"⟩, prog_1_method_23_code, some .long, 0, 1, 26, 4223, 4221, 4222, 1001),
   (⟨"ValueDays$Entries", "sumValued", "(III)J"⟩, prog_3_method_26_code, some .long, 8, 0, 0, 4229, 4227, 4228, 1008),
   (⟨"ValueDays", "bears", "(I)I"⟩, prog_1_method_24_code, some .int, 0, 1, 25, 4233, 4231, 4232, 1001),
   (⟨"ValueDays$Entries", "valueDaysAhead", "(I)I"⟩, prog_3_method_28_code, some .int, 8, 0, 0, 4237, 4235, 4236, 1008),
   (⟨"ValueDays", "steps", "()I"⟩, prog_1_method_25_code, some .int, 0, 3, 65, 5001, 4239, 5000, 1001),
   (⟨"ValueDays$Course", "stepsTill", "(I)I"⟩, prog_2_method_10_code, some .int, 9, 2, 42, 5006, 5004, 5005, 1009),
   (⟨"ValueDays$Course", "isStep", "(I)Z"⟩, prog_2_method_9_code, some .boolean, 9, 1, 21, 5010, 5009, 25, 1009),
   (⟨"ValueDays", "step", "(I)I"⟩, prog_1_method_26_code, some .int, 0, 3, 65, 5014, 5012, 5013, 1001),
   (⟨"ValueDays$Course", "stepDay", "(I)I"⟩, prog_2_method_11_code, some .int, 9, 2, 42, 5018, 5016, 5017, 1009),
   (⟨"ValueDays", "lowest", "()J"⟩, prog_1_method_27_code, some .long, 0, 2, 83, 5023, 5021, 5022, 1001),
   (⟨"ValueDays$Course", "leastStanding", "()J"⟩, prog_2_method_12_code, some .long, 9, 1, 60, 5027, 5025, 5026, 1009),
   (⟨"ValueDays", "beyond", "()I"⟩, prog_1_method_28_code, some .int, 0, 3, 65, 5032, 5030, 5031, 1001),
   (⟨"ValueDays$Course", "daysBeyond", "()I"⟩, prog_2_method_15_code, some .int, 9, 2, 43, 5036, 5034, 5035, 1009),
   (⟨"ValueDays$Course", "room", "(I)J"⟩, prog_2_method_13_code, some .long, 9, 1, 22, 5040, 5039, 26, 1009),
   (⟨"ValueDays", "firstBeyond", "()I"⟩, prog_1_method_29_code, some .int, 0, 3, 64, 5044, 5042, 5043, 1001)],
  [(⟨"ValueDays$Course", "firstDayBeyond", "()I"⟩, prog_2_method_16_code, some .int, 9, 2, 43, 5048, 5046, 5047, 1009),
   (⟨"ValueDays", "most", "(I)I"⟩, prog_1_method_30_code, some .int, 0, 4, 107, 5052, 5050, 5051, 1001),
   (⟨"ValueDays$Course", "mostDrawn", "(I)I"⟩, prog_2_method_17_code, some .int, 9, 3, 84, 5056, 5054, 5055, 1009),
   (⟨"ValueDays$Course", "roomFrom", "(I)J"⟩, prog_2_method_14_code, some .long, 9, 2, 60, 5060, 5059, 27, 1009),
   (⟨"ValueDays", "least", "(I)I"⟩, prog_1_method_31_code, some .int, 0, 4, 107, 5065, 5063, 5064, 1001),
   (⟨"ValueDays$Course", "leastPaid", "(I)I"⟩, prog_2_method_18_code, some .int, 9, 3, 84, 5069, 5067, 5068, 1009),
   (⟨"ValueDays", "reaches", "(I)I"⟩, prog_1_method_32_code, some .int, 0, 2, 43, 5074, 5072, 5073, 1001),
   (⟨"ValueDays", "isBetween", "(III)Z"⟩, prog_1_method_67_code, some .boolean, 0, 0, 0, 5079, 5078, 0, 1001),
   (⟨"ValueDays$Course", "firstDayAt", "(I)I"⟩, prog_2_method_19_code, some .int, 9, 1, 21, 5083, 5081, 5082, 1009),
   (⟨"ValueDays", "limitFor", "()I"⟩, prog_1_method_33_code, some .int, 0, 2, 83, 5087, 5085, 5086, 1001),
   (⟨"ValueDays", "all", "()J"⟩, prog_1_method_34_code, some .long, 0, 6, 163, 5093, 5091, 5092, 1001),
   (⟨"ValueDays$Ledger", "interestOfAll", "()J"⟩, prog_4_method_21_code, some .long, 6, 5, 143, 5097, 5095, 5096, 1006),
   (⟨"ValueDays$Ledger", "interestOfAllBy", "([JIJ)J"⟩, prog_4_method_22_code, some .long, 6, 4, 116, 5101, 5099, 5100, 1006),
   (⟨"ValueDays", "brought", "(I)J"⟩, prog_1_method_35_code, some .long, 0, 7, 185, 5105, 5103, 5104, 1001),
   (⟨"ValueDays$WhatIf", "gainBy", "(I)J"⟩, prog_11_method_3_code, some .long, 10, 6, 161, 5109, 5107, 5108, 1010),
   (⟨"ValueDays$WhatIf", "gainIn", "(II)J"⟩, prog_11_method_2_code, some .long, 10, 5, 137, 5114, 5112, 5113, 1010),
   (⟨"ValueDays$Ledger", "balances", "()[J"⟩, prog_4_method_27_code, some (.array .long), 6, 0, 0, 5118, 5116, 5117, 1006),
   (⟨"ValueDays", "moved", "(II)J"⟩, prog_1_method_36_code, some .long, 0, 7, 186, 5126, 5124, 5125, 1001),
   (⟨"ValueDays$WhatIf", "gainByMoving", "(II)J"⟩, prog_11_method_5_code, some .long, 10, 6, 163, 5130, 5128, 5129, 1010),
   (⟨"ValueDays$Ledger", "trialBalances", "()[J"⟩, prog_4_method_28_code, some (.array .long), 6, 1, 60, 5134, 5132, 5133, 1006)],
  [(⟨"ValueDays", "bestDay", "(I)I"⟩, prog_1_method_37_code, some .int, 0, 4, 130, 5142, 5140, 5141, 1001),
   (⟨"ValueDays$WhatIf", "dayOfMost", "(I)I"⟩, prog_11_method_6_code, some .int, 10, 3, 91, 5146, 5144, 5145, 1010),
   (⟨"ValueDays$WhatIf", "productOf", "(IJ)J"⟩, prog_11_method_7_code, some .long, 10, 2, 51, 5156, 5155, 28, 1010),
   (⟨"ValueDays", "late", "(II)J"⟩, prog_1_method_38_code, some .long, 0, 5, 141, 5162, 5160, 5161, 1001),
   (⟨"ValueDays$WhatIf", "unlikeWith", "(II)J"⟩, prog_11_method_8_code, some .long, 10, 4, 116, 5166, 5164, 5165, 1010),
   (⟨"ValueDays", "touched", "(II)I"⟩, prog_1_method_39_code, some .int, 0, 6, 160, 5172, 5170, 5171, 1001),
   (⟨"ValueDays$WhatIf", "firstTouched", "(II)I"⟩, prog_11_method_9_code, some .int, 10, 5, 137, 5176, 5174, 5175, 1010),
   (⟨"ValueDays", "tilted", "(II)J"⟩, prog_1_method_40_code, some .long, 0, 6, 188, 5180, 5178, 5179, 1001),
   (⟨"ValueDays$WhatIf", "gainByTilt", "(II)J"⟩, prog_11_method_10_code, some .long, 10, 5, 161, 5184, 5182, 5183, 1010),
   (⟨"ValueDays$WhatIf", "tiltIn", "(III)J"⟩, prog_11_method_11_code, some .long, 10, 4, 134, 5188, 5187, 29, 1010),
   (⟨"ValueDays$Terms", "tiltOf", "(IIIJ)J"⟩, prog_9_method_19_code, some .long, 7, 3, 108, 5193, 5191, 5192, 1007),
   (⟨"ValueDays", "limited", "(I)J"⟩, prog_1_method_41_code, some .long, 0, 6, 161, 5198, 5196, 5197, 1001),
   (⟨"ValueDays$WhatIf", "gainByLimit", "(I)J"⟩, prog_11_method_12_code, some .long, 10, 5, 137, 5202, 5200, 5201, 1010),
   (⟨"ValueDays$WhatIf", "limitedProducts", "(II)J"⟩, prog_11_method_13_code, some .long, 10, 1, 30, 5206, 5205, 30, 1010),
   (⟨"ValueDays", "needs", "(II)I"⟩, prog_1_method_42_code, some .int, 0, 7, 190, 5211, 5209, 5210, 1001),
   (⟨"ValueDays$WhatIf", "leastFor", "(II)I"⟩, prog_11_method_14_code, some .int, 10, 6, 163, 5215, 5213, 5214, 1010),
   (⟨"ValueDays", "caused", "(II)J"⟩, prog_1_method_43_code, some .long, 0, 6, 161, 5221, 5219, 5220, 1001),
   (⟨"ValueDays", "blame", "(I)I"⟩, prog_1_method_44_code, some .int, 0, 7, 188, 5226, 5224, 5225, 1001),
   (⟨"ValueDays$WhatIf", "mostGuilty", "(I)I"⟩, prog_11_method_4_code, some .int, 10, 6, 161, 5230, 5228, 5229, 1010),
   (⟨"ValueDays", "tiltFor", "(II)I"⟩, prog_1_method_45_code, some .int, 0, 7, 213, 5236, 5234, 5235, 1001)],
  [(⟨"ValueDays$WhatIf", "leastTilt", "(II)I"⟩, prog_11_method_15_code, some .int, 10, 6, 188, 6000, 5238, 5239, 1010),
   (⟨"ValueDays", "rights", "()I"⟩, prog_1_method_46_code, some .int, 0, 6, 163, 6005, 6003, 6004, 1001),
   (⟨"ValueDays$WhatIf", "correctionsNow", "()I"⟩, prog_11_method_17_code, some .int, 10, 5, 140, 6010, 6008, 6009, 1010),
   (⟨"ValueDays$Ledger", "correctOn", "([JI)J"⟩, prog_4_method_31_code, some .long, 6, 4, 116, 6014, 6012, 6013, 1006),
   (⟨"ValueDays", "righted", "()J"⟩, prog_1_method_47_code, some .long, 0, 6, 164, 6018, 6016, 6017, 1001),
   (⟨"ValueDays$WhatIf", "correctedNow", "()J"⟩, prog_11_method_18_code, some .long, 10, 5, 140, 6022, 6020, 6021, 1010),
   (⟨"ValueDays", "settled", "()J"⟩, prog_1_method_48_code, some .long, 0, 7, 187, 6026, 6024, 6025, 1001),
   (⟨"ValueDays$WhatIf", "settlement", "()J"⟩, prog_11_method_19_code, some .long, 10, 6, 167, 6030, 6028, 6029, 1010),
   (⟨"ValueDays$WhatIf", "settlementWith", "(III)J"⟩, prog_11_method_20_code, some .long, 10, 5, 140, 6035, 6033, 6034, 1010),
   (⟨"ValueDays$Ledger", "trialPrincipal", "()[J"⟩, prog_4_method_29_code, some (.array .long), 6, 2, 42, 6039, 6037, 6038, 1006),
   (⟨"ValueDays$Entries", "sumOfPrincipal", "()J"⟩, prog_3_method_19_code, some .long, 8, 2, 42, 6046, 6044, 6045, 1008),
   (⟨"ValueDays$Ledger", "compoundOn", "([JI)J"⟩, prog_4_method_30_code, some .long, 6, 4, 116, 6050, 6048, 6049, 1006),
   (⟨"ValueDays$Entries", "sum", "()J"⟩, prog_3_method_18_code, some .long, 8, 0, 0, 6054, 6052, 6053, 1008),
   (⟨"ValueDays", "compounded", "(I)J"⟩, prog_1_method_49_code, some .long, 0, 7, 187, 6058, 6056, 6057, 1001),
   (⟨"ValueDays", "ideal", "(I)J"⟩, prog_1_method_50_code, some .long, 0, 6, 163, 6062, 6060, 6061, 1001),
   (⟨"ValueDays$WhatIf", "idealInterest", "(I)J"⟩, prog_11_method_21_code, some .long, 10, 5, 140, 6066, 6064, 6065, 1010),
   (⟨"ValueDays", "planned", "(III)J"⟩, prog_1_method_51_code, some .long, 0, 6, 167, 6070, 6068, 6069, 1001),
   (⟨"ValueDays", "canPlan", "(II)Z"⟩, prog_1_method_68_code, some .boolean, 0, 1, 22, 6074, 6073, 31, 1001),
   (⟨"ValueDays", "plan", "(II)I"⟩, prog_1_method_52_code, some .int, 0, 7, 192, 6079, 6077, 6078, 1001),
   (⟨"ValueDays$WhatIf", "leastPlan", "(II)I"⟩, prog_11_method_16_code, some .int, 10, 6, 167, 6083, 6081, 6082, 1010)],
  [(⟨"ValueDays", "left", "(I)J"⟩, prog_1_method_53_code, some .long, 0, 4, 111, 6087, 6085, 6086, 1001),
   (⟨"ValueDays$PaidOff", "reckon", "()V"⟩, prog_5_method_5_code, none, 11, 3, 83, 6091, 6089, 6090, 1011),
   (⟨"ValueDays$PaidOff", "nextOf", "(II)I"⟩, prog_5_method_8_code, some .int, 11, 2, 60, 6098, 6097, 32, 1011),
   (⟨"ValueDays$PaidOff", "restOf", "(I)J"⟩, prog_5_method_2_code, some .long, 11, 2, 42, 6105, 6103, 6104, 1011),
   (⟨"ValueDays$PaidOff", "isEntry", "(I)Z"⟩, prog_5_method_6_code, some .boolean, 11, 1, 21, 6109, 6108, 33, 1011),
   (⟨"ValueDays$PaidOff", "takeOff", "(IJI)V"⟩, prog_5_method_7_code, none, 11, 2, 42, 6115, 6114, 34, 1011),
   (⟨"ValueDays", "gone", "(I)I"⟩, prog_1_method_54_code, some .int, 0, 4, 111, 6120, 6118, 6119, 1001),
   (⟨"ValueDays$PaidOff", "lastDayOf", "(I)I"⟩, prog_5_method_3_code, some .int, 11, 2, 42, 6124, 6122, 6123, 1011),
   (⟨"ValueDays", "oldest", "()I"⟩, prog_1_method_55_code, some .int, 0, 4, 111, 6128, 6126, 6127, 1001),
   (⟨"ValueDays$PaidOff", "firstOwed", "()I"⟩, prog_5_method_4_code, some .int, 11, 3, 63, 6132, 6130, 6131, 1011),
   (⟨"ValueDays", "pay", "(II)I"⟩, prog_1_method_56_code, some .int, 0, 7, 206, 6136, 6134, 6135, 1001),
   (⟨"ValueDays", "bookMoney", "(III)I"⟩, prog_1_method_69_code, some .int, 0, 6, 183, 6140, 6139, 35, 1001),
   (⟨"ValueDays$Script", "isFull", "()Z"⟩, prog_7_method_5_code, some .boolean, 4, 0, 0, 6144, 6142, 6143, 1004),
   (⟨"ValueDays", "act", "(IIII)V"⟩, prog_1_method_70_code, none, 0, 5, 159, 6148, 6147, 36, 1001),
   (⟨"ValueDays$Script", "addAct", "(IIII)V"⟩, prog_7_method_11_code, none, 4, 1, 26, 6152, 6150, 6151, 1004),
   (⟨"ValueDays", "draw", "(II)I"⟩, prog_1_method_57_code, some .int, 0, 7, 206, 6158, 6156, 6157, 1001),
   (⟨"ValueDays", "reverse", "(I)I"⟩, prog_1_method_58_code, some .int, 0, 6, 183, 6162, 6160, 6161, 1001),
   (⟨"ValueDays$Entries", "isTurnedBack", "(I)Z"⟩, prog_3_method_14_code, some .boolean, 8, 0, 0, 6166, 6164, 6165, 1008),
   (⟨"ValueDays$Entries", "moneyAhead", "(I)I"⟩, prog_3_method_15_code, some .int, 8, 0, 0, 6170, 6168, 6169, 1008),
   (⟨"ValueDays", "change", "(III)I"⟩, prog_1_method_59_code, some .int, 0, 6, 183, 6174, 6172, 6173, 1001)],
  [(⟨"ValueDays", "close", "()I"⟩, prog_1_method_60_code, some .int, 0, 6, 183, 6178, 6176, 6177, 1001),
   (⟨"ValueDays", "rerun", "()I"⟩, prog_1_method_61_code, some .int, 0, 6, 183, 6182, 6180, 6181, 1001),
   (⟨"ValueDays", "image", "(I)I"⟩, prog_1_method_62_code, some .int, 0, 2, 81, 6186, 6184, 6185, 1001),
   (⟨"ValueDays", "keptAs", "(I)LValueDays$Script;"⟩, prog_1_method_71_code, some (.object "ValueDays$Script"), 0, 0, 0, 6190, 6189, 37, 1001),
   (⟨"ValueDays", "back", "(I)I"⟩, prog_1_method_63_code, some .int, 0, 6, 182, 6194, 6192, 6193, 1001),
   (⟨"ValueDays", "undo", "()I"⟩, prog_1_method_64_code, some .int, 0, 6, 182, 6198, 6196, 6197, 1001),
   (⟨"ValueDays$Script", "keepActs", "(I)V"⟩, prog_7_method_9_code, none, 4, 0, 0, 6202, 6200, 6201, 1004),
   (⟨"ValueDays", "anew", "()I"⟩, prog_1_method_65_code, some .int, 0, 6, 182, 6206, 6204, 6205, 1001),
   (⟨"ValueDaysModel", "feed", "(IIIII)I"⟩, prog_13_method_32_code, some .int, 18, 0, 0, 7097, 7095, 7096, 1012),
   (⟨"ValueDaysModel", "end", "(I)I"⟩, prog_13_method_33_code, some .int, 18, 1, 25, 7101, 7099, 7100, 1012),
   (⟨"ValueDaysModel", "in", "(JJJ)Z"⟩, prog_13_method_3_code, some .boolean, 18, 0, 0, 7104, 7103, 0, 1012),
   (⟨"ValueDaysModel", "fault", "(I)I"⟩, prog_13_method_42_code, some .int, 18, 0, 0, 7108, 7106, 7107, 1012),
   (⟨"ValueDaysModel", "book", "()I"⟩, prog_13_method_53_code, some .int, 18, 11, 253, 7112, 7110, 7111, 1012),
   (⟨"ValueDaysModel", "swaps", "()V"⟩, prog_13_method_52_code, none, 18, 0, 0, 7116, 7115, 38, 1012),
   (⟨"ValueDaysModel", "begins", "()V"⟩, prog_13_method_30_code, none, 18, 0, 0, 7120, 7119, 39, 1012),
   (⟨"ValueDaysModel", "advance", "()V"⟩, prog_13_method_35_code, none, 18, 1, 60, 7124, 7123, 40, 1012),
   (⟨"ValueDaysModel", "see", "(I)I"⟩, prog_13_method_34_code, some .int, 18, 0, 0, 7128, 7127, 41, 1012),
   (⟨"ValueDaysModel", "good", "()Z"⟩, prog_13_method_36_code, some .boolean, 18, 0, 0, 7138, 7137, 42, 1012),
   (⟨"ValueDaysModel", "readText", "()V"⟩, prog_13_method_51_code, none, 18, 10, 232, 7142, 7141, 43, 1012),
   (⟨"ValueDaysModel", "readFirst", "()V"⟩, prog_13_method_43_code, none, 18, 8, 174, 7146, 7145, 44, 1012)],
  [(⟨"ValueDaysModel", "passes", "(Ljava/lang/String;)Z"⟩, prog_13_method_39_code, some .boolean, 18, 6, 129, 7151, 7150, 45, 1012),
   (⟨"ValueDaysModel", "is", "(Ljava/lang/String;)Z"⟩, prog_13_method_38_code, some .boolean, 18, 5, 106, 7155, 7154, 46, 1012),
   (⟨"ValueDaysModel", "errs", "(I)V"⟩, prog_13_method_37_code, none, 18, 1, 20, 7161, 7160, 47, 1012),
   (⟨"ValueDaysModel", "told", "(Ljava/lang/String;II)I"⟩, prog_13_method_41_code, some .int, 18, 7, 151, 7166, 7165, 48, 1012),
   (⟨"ValueDaysModel", "takes", "(II)I"⟩, prog_13_method_40_code, some .int, 18, 2, 81, 7170, 7169, 49, 1012),
   (⟨"ValueDaysModel", "readLine", "()V"⟩, prog_13_method_50_code, none, 18, 9, 197, 7176, 7175, 50, 1012),
   (⟨"ValueDaysModel", "readTier", "()V"⟩, prog_13_method_44_code, none, 18, 7, 151, 7181, 7180, 51, 1012),
   (⟨"ValueDaysModel", "adds", "(IIIII)V"⟩, prog_13_method_5_code, none, 18, 0, 0, 7187, 7186, 52, 1012),
   (⟨"ValueDaysModel", "readDebit", "()V"⟩, prog_13_method_45_code, none, 18, 8, 174, 7192, 7191, 53, 1012),
   (⟨"ValueDaysModel", "readFrom", "()V"⟩, prog_13_method_46_code, none, 18, 7, 151, 7199, 7198, 54, 1012),
   (⟨"ValueDaysModel", "days", "()I"⟩, prog_13_method_7_code, some .int, 18, 0, 0, 7203, 7202, 55, 1012),
   (⟨"ValueDaysModel", "readEntry", "(I)V"⟩, prog_13_method_47_code, none, 18, 3, 104, 7208, 7207, 56, 1012),
   (⟨"ValueDaysModel", "isOpen", "()Z"⟩, prog_13_method_12_code, some .boolean, 18, 0, 0, 7212, 7211, 57, 1012),
   (⟨"ValueDaysModel", "readClose", "()V"⟩, prog_13_method_48_code, none, 18, 2, 81, 7218, 7217, 58, 1012),
   (⟨"ValueDaysModel", "readRerun", "()V"⟩, prog_13_method_49_code, none, 18, 2, 81, 7223, 7222, 59, 1012),
   (⟨"ValueDaysModel", "does", "(I)I"⟩, prog_13_method_29_code, some .int, 18, 7, 206, 7227, 7226, 60, 1012),
   (⟨"ValueDaysModel", "changes", "(III)V"⟩, prog_13_method_14_code, none, 18, 0, 0, 7231, 7230, 61, 1012),
   (⟨"ValueDaysModel", "enters", "(IJII)V"⟩, prog_13_method_13_code, none, 18, 0, 0, 7235, 7234, 62, 1012),
   (⟨"ValueDaysModel", "closes", "()V"⟩, prog_13_method_26_code, none, 18, 6, 182, 7239, 7238, 63, 1012),
   (⟨"ValueDaysModel", "interestOf", "(I)J"⟩, prog_13_method_22_code, some .long, 18, 5, 161, 8003, 8002, 64, 1012)],
  [(⟨"ValueDaysModel", "laysBalances", "()V"⟩, prog_13_method_16_code, none, 18, 1, 60, 8007, 8006, 65, 1012),
   (⟨"ValueDaysModel", "interestLaid", "(I)J"⟩, prog_13_method_21_code, some .long, 18, 4, 137, 8011, 8010, 66, 1012),
   (⟨"ValueDaysModel", "earnedOn", "(I)J"⟩, prog_13_method_18_code, some .long, 18, 3, 113, 8015, 8014, 67, 1012),
   (⟨"ValueDaysModel", "partOf", "(II)J"⟩, prog_13_method_17_code, some .long, 18, 2, 85, 8019, 8018, 68, 1012),
   (⟨"ValueDaysModel", "holds", "(II)I"⟩, prog_13_method_15_code, some .int, 18, 1, 60, 8023, 8022, 69, 1012),
   (⟨"ValueDaysModel", "owedOn", "(I)J"⟩, prog_13_method_19_code, some .long, 18, 3, 113, 8030, 8029, 70, 1012),
   (⟨"ValueDaysModel", "nearest", "(J)J"⟩, prog_13_method_20_code, some .long, 18, 1, 60, 8033, 8032, 0, 1012),
   (⟨"ValueDaysModel", "compoundingOf", "(I)I"⟩, prog_13_method_24_code, some .int, 18, 0, 0, 8041, 8040, 71, 1012),
   (⟨"ValueDaysModel", "reruns", "()I"⟩, prog_13_method_27_code, some .int, 18, 6, 182, 8045, 8044, 72, 1012),
   (⟨"ValueDaysModel", "bookedOf", "(I)J"⟩, prog_13_method_25_code, some .long, 18, 0, 0, 8049, 8048, 73, 1012),
   (⟨"ValueDaysModel", "paidEntry", "(I)I"⟩, prog_13_method_28_code, some .int, 18, 0, 0, 8053, 8052, 74, 1012),
   (⟨"ValueDaysModel", "doesAll", "()V"⟩, prog_13_method_31_code, none, 18, 8, 232, 8057, 8056, 75, 1012),
   (⟨"ValueDaysModel", "count", "(I)I"⟩, prog_13_method_55_code, some .int, 18, 1, 20, 8061, 8059, 8060, 1012),
   (⟨"ValueDaysModel", "acts", "()I"⟩, prog_13_method_54_code, some .int, 18, 0, 0, 8065, 8064, 76, 1012),
   (⟨"ValueDaysModel", "entry", "(II)J"⟩, prog_13_method_56_code, some .long, 18, 2, 46, 8069, 8067, 8068, 1012),
   (⟨"ValueDaysModel", "isEntry", "(I)Z"⟩, prog_13_method_11_code, some .boolean, 18, 1, 25, 8073, 8072, 77, 1012),
   (⟨"ValueDaysModel", "sorted", "(I)I"⟩, prog_13_method_57_code, some .int, 18, 1, 20, 8080, 8078, 8079, 1012),
   (⟨"ValueDaysModel", "isBook", "()Z"⟩, prog_13_method_6_code, some .boolean, 18, 0, 0, 8084, 8083, 78, 1012),
   (⟨"ValueDaysModel", "rate", "(II)I"⟩, prog_13_method_58_code, some .int, 18, 2, 85, 8088, 8086, 8087, 1012),
   (⟨"ValueDaysModel", "isTier", "(I)Z"⟩, prog_13_method_10_code, some .boolean, 18, 1, 25, 8092, 8091, 79, 1012)],
  [(⟨"ValueDaysModel", "isDay", "(I)Z"⟩, prog_13_method_8_code, some .boolean, 18, 1, 25, 8096, 8095, 80, 1012),
   (⟨"ValueDaysModel", "owing", "(II)I"⟩, prog_13_method_59_code, some .int, 18, 2, 85, 8100, 8098, 8099, 1012),
   (⟨"ValueDaysModel", "balance", "(I)J"⟩, prog_13_method_60_code, some .long, 18, 2, 81, 8104, 8102, 8103, 1012),
   (⟨"ValueDaysModel", "part", "(II)J"⟩, prog_13_method_61_code, some .long, 18, 3, 113, 8108, 8106, 8107, 1012),
   (⟨"ValueDaysModel", "product", "(I)J"⟩, prog_13_method_62_code, some .long, 18, 4, 137, 8112, 8110, 8111, 1012),
   (⟨"ValueDaysModel", "products", "(II)J"⟩, prog_13_method_63_code, some .long, 18, 4, 137, 8116, 8114, 8115, 1012),
   (⟨"ValueDaysModel", "isPeriod", "(I)Z"⟩, prog_13_method_9_code, some .boolean, 18, 1, 25, 8120, 8119, 81, 1012),
   (⟨"ValueDaysModel", "fresh", "(I)J"⟩, prog_13_method_64_code, some .long, 18, 6, 182, 8124, 8122, 8123, 1012),
   (⟨"ValueDaysModel", "booked", "(I)J"⟩, prog_13_method_65_code, some .long, 18, 2, 46, 8128, 8126, 8127, 1012),
   (⟨"ValueDaysModel", "wrong", "(I)J"⟩, prog_13_method_67_code, some .long, 18, 7, 203, 8132, 8130, 8131, 1012),
   (⟨"ValueDaysModel", "wrongOf", "(I)J"⟩, prog_13_method_66_code, some .long, 18, 6, 182, 8136, 8135, 82, 1012),
   (⟨"ValueDaysModel", "compounds", "(I)I"⟩, prog_13_method_68_code, some .int, 18, 2, 46, 8140, 8138, 8139, 1012),
   (⟨"ValueDaysModel", "page", "(II)J"⟩, prog_13_method_69_code, some .long, 18, 2, 46, 8144, 8142, 8143, 1012),
   (⟨"ValueDaysModel", "line", "(II)I"⟩, prog_13_method_70_code, some .int, 18, 2, 46, 8149, 8147, 8148, 1012),
   (⟨"ValueDaysModel", "steps", "()I"⟩, prog_13_method_72_code, some .int, 18, 3, 104, 8153, 8151, 8152, 1012),
   (⟨"ValueDaysModel", "stepBy", "(I)I"⟩, prog_13_method_71_code, some .int, 18, 2, 81, 8157, 8156, 83, 1012),
   (⟨"ValueDaysModel", "step", "(I)I"⟩, prog_13_method_73_code, some .int, 18, 3, 104, 8161, 8159, 8160, 1012),
   (⟨"ValueDaysModel", "lowest", "()J"⟩, prog_13_method_74_code, some .long, 18, 2, 81, 8165, 8163, 8164, 1012),
   (⟨"ValueDaysModel", "beyond", "()I"⟩, prog_13_method_76_code, some .int, 18, 3, 106, 8169, 8167, 8168, 1012),
   (⟨"ValueDaysModel", "isBeyond", "(I)Z"⟩, prog_13_method_75_code, some .boolean, 18, 2, 85, 8173, 8172, 84, 1012)],
  [(⟨"ValueDaysModel", "firstBeyond", "()I"⟩, prog_13_method_77_code, some .int, 18, 3, 106, 8177, 8175, 8176, 1012),
   (⟨"ValueDaysModel", "mean", "(II)J"⟩, prog_13_method_78_code, some .long, 18, 2, 89, 8181, 8179, 8180, 1012),
   (⟨"ValueDaysModel", "common", "(JJ)J"⟩, prog_13_method_4_code, some .long, 18, 1, 60, 8184, 8183, 0, 1012),
   (⟨"ValueDaysModel", "earned", "(II)J"⟩, prog_13_method_79_code, some .long, 18, 3, 113, 8188, 8186, 8187, 1012),
   (⟨"ValueDaysModel", "backdated", "(II)J"⟩, prog_13_method_80_code, some .long, 18, 2, 46, 8192, 8190, 8191, 1012),
   (⟨"ValueDaysModel", "reaches", "(I)I"⟩, prog_13_method_81_code, some .int, 18, 2, 81, 8197, 8195, 8196, 1012),
   (⟨"ValueDaysModel", "limitFor", "()I"⟩, prog_13_method_82_code, some .int, 18, 3, 104, 8203, 8201, 8202, 1012),
   (⟨"ValueDaysModel", "bears", "(I)I"⟩, prog_13_method_83_code, some .int, 18, 2, 46, 8208, 8206, 8207, 1012),
   (⟨"ValueDaysModel", "caused", "(II)J"⟩, prog_13_method_85_code, some .long, 18, 7, 210, 8212, 8210, 8211, 1012),
   (⟨"ValueDaysModel", "causedBy", "(II)J"⟩, prog_13_method_84_code, some .long, 18, 6, 182, 8216, 8215, 85, 1012),
   (⟨"ValueDaysModel", "blame", "(I)I"⟩, prog_13_method_86_code, some .int, 18, 7, 210, 8220, 8218, 8219, 1012),
   (⟨"ValueDaysModel", "all", "()J"⟩, prog_13_method_87_code, some .long, 18, 6, 184, 8224, 8222, 8223, 1012),
   (⟨"ValueDaysModel", "allOf", "()J"⟩, prog_13_method_23_code, some .long, 18, 5, 161, 8228, 8227, 86, 1012),
   (⟨"ValueDaysModel", "brought", "(I)J"⟩, prog_13_method_88_code, some .long, 18, 6, 184, 8232, 8230, 8231, 1012),
   (⟨"ValueDaysModel", "moved", "(II)J"⟩, prog_13_method_90_code, some .long, 18, 7, 209, 8236, 8234, 8235, 1012),
   (⟨"ValueDaysModel", "allMoved", "(II)J"⟩, prog_13_method_89_code, some .long, 18, 6, 184, 9000, 8239, 87, 1012),
   (⟨"ValueDaysModel", "bestDay", "(I)I"⟩, prog_13_method_91_code, some .int, 18, 7, 209, 9004, 9002, 9003, 1012),
   (⟨"ValueDaysModel", "late", "(II)J"⟩, prog_13_method_93_code, some .long, 18, 7, 203, 9008, 9006, 9007, 1012),
   (⟨"ValueDaysModel", "isLate", "(II)Z"⟩, prog_13_method_92_code, some .boolean, 18, 2, 46, 9012, 9011, 88, 1012),
   (⟨"ValueDaysModel", "touched", "(II)I"⟩, prog_13_method_94_code, some .int, 18, 7, 203, 9016, 9014, 9015, 1012)],
  [(⟨"ValueDaysModel", "tilted", "(II)J"⟩, prog_13_method_96_code, some .long, 18, 7, 210, 9020, 9018, 9019, 1012),
   (⟨"ValueDaysModel", "tiltedBy", "(II)J"⟩, prog_13_method_95_code, some .long, 18, 6, 184, 9026, 9025, 89, 1012),
   (⟨"ValueDaysModel", "tiltFor", "(II)I"⟩, prog_13_method_97_code, some .int, 18, 7, 210, 9030, 9028, 9029, 1012),
   (⟨"ValueDaysModel", "limited", "(I)J"⟩, prog_13_method_98_code, some .long, 18, 6, 184, 9034, 9032, 9033, 1012),
   (⟨"ValueDaysModel", "most", "(I)I"⟩, prog_13_method_100_code, some .int, 18, 3, 109, 9038, 9036, 9037, 1012),
   (⟨"ValueDaysModel", "roomFrom", "(I)J"⟩, prog_13_method_99_code, some .long, 18, 2, 85, 9042, 9041, 90, 1012),
   (⟨"ValueDaysModel", "least", "(I)I"⟩, prog_13_method_101_code, some .int, 18, 3, 109, 9048, 9046, 9047, 1012),
   (⟨"ValueDaysModel", "needs", "(II)I"⟩, prog_13_method_103_code, some .int, 18, 7, 208, 9052, 9050, 9051, 1012),
   (⟨"ValueDaysModel", "allWith", "(II)J"⟩, prog_13_method_102_code, some .long, 18, 6, 184, 9056, 9055, 91, 1012),
   (⟨"ValueDaysModel", "rights", "()I"⟩, prog_13_method_104_code, some .int, 18, 7, 206, 9060, 9058, 9059, 1012),
   (⟨"ValueDaysModel", "righted", "()J"⟩, prog_13_method_105_code, some .long, 18, 7, 206, 9064, 9062, 9063, 1012),
   (⟨"ValueDaysModel", "settled", "()J"⟩, prog_13_method_107_code, some .long, 18, 8, 231, 9068, 9066, 9067, 1012),
   (⟨"ValueDaysModel", "settledOf", "()J"⟩, prog_13_method_106_code, some .long, 18, 7, 206, 9072, 9071, 92, 1012),
   (⟨"ValueDaysModel", "compounded", "(I)J"⟩, prog_13_method_108_code, some .long, 18, 9, 253, 9076, 9074, 9075, 1012),
   (⟨"ValueDaysModel", "planned", "(III)J"⟩, prog_13_method_111_code, some .long, 18, 9, 257, 9081, 9079, 9080, 1012),
   (⟨"ValueDaysModel", "canPlan", "(II)Z"⟩, prog_13_method_109_code, some .boolean, 18, 2, 46, 9085, 9084, 93, 1012),
   (⟨"ValueDaysModel", "plannedOf", "(III)J"⟩, prog_13_method_110_code, some .long, 18, 8, 231, 9090, 9089, 94, 1012),
   (⟨"ValueDaysModel", "plan", "(II)I"⟩, prog_13_method_112_code, some .int, 18, 9, 257, 9094, 9092, 9093, 1012),
   (⟨"ValueDaysModel", "left", "(I)J"⟩, prog_13_method_115_code, some .long, 18, 2, 84, 9098, 9096, 9097, 1012),
   (⟨"ValueDaysModel", "paysOff", "()V"⟩, prog_13_method_114_code, none, 18, 1, 60, 9102, 9101, 95, 1012)],
  [(⟨"ValueDaysModel", "firstOf", "(I)I"⟩, prog_13_method_113_code, some .int, 18, 0, 0, 9106, 9105, 96, 1012),
   (⟨"ValueDaysModel", "gone", "(I)I"⟩, prog_13_method_116_code, some .int, 18, 2, 84, 9110, 9108, 9109, 1012),
   (⟨"ValueDaysModel", "oldest", "()I"⟩, prog_13_method_117_code, some .int, 18, 2, 84, 9114, 9112, 9113, 1012),
   (⟨"ValueDaysModel", "ideal", "(I)J"⟩, prog_13_method_119_code, some .long, 18, 6, 182, 9118, 9116, 9117, 1012),
   (⟨"ValueDaysModel", "isTurned", "(I)Z"⟩, prog_13_method_118_code, some .boolean, 18, 0, 0, 9122, 9121, 97, 1012),
   (⟨"ValueDaysModel", "pay", "(II)I"⟩, prog_13_method_123_code, some .int, 18, 10, 279, 9126, 9124, 9125, 1012),
   (⟨"ValueDaysModel", "pays", "(III)I"⟩, prog_13_method_122_code, some .int, 18, 9, 256, 9130, 9129, 98, 1012),
   (⟨"ValueDaysModel", "isFull", "()Z"⟩, prog_13_method_120_code, some .boolean, 18, 1, 20, 9134, 9133, 99, 1012),
   (⟨"ValueDaysModel", "act", "(IIII)I"⟩, prog_13_method_121_code, some .int, 18, 8, 232, 9138, 9137, 100, 1012),
   (⟨"ValueDaysModel", "draw", "(II)I"⟩, prog_13_method_124_code, some .int, 18, 10, 279, 9142, 9140, 9141, 1012),
   (⟨"ValueDaysModel", "reverse", "(I)I"⟩, prog_13_method_125_code, some .int, 18, 9, 256, 9146, 9144, 9145, 1012),
   (⟨"ValueDaysModel", "change", "(III)I"⟩, prog_13_method_126_code, some .int, 18, 9, 256, 9150, 9148, 9149, 1012),
   (⟨"ValueDaysModel", "close", "()I"⟩, prog_13_method_127_code, some .int, 18, 9, 256, 9155, 9153, 9154, 1012),
   (⟨"ValueDaysModel", "rerun", "()I"⟩, prog_13_method_128_code, some .int, 18, 9, 256, 9159, 9157, 9158, 1012),
   (⟨"ValueDaysModel", "image", "(I)I"⟩, prog_13_method_129_code, some .int, 18, 1, 25, 9163, 9161, 9162, 1012),
   (⟨"ValueDaysModel", "back", "(I)I"⟩, prog_13_method_130_code, some .int, 18, 9, 253, 9167, 9165, 9166, 1012),
   (⟨"ValueDaysModel", "undo", "()I"⟩, prog_13_method_131_code, some .int, 18, 9, 253, 9171, 9169, 9170, 1012),
   (⟨"ValueDaysModel", "anew", "()I"⟩, prog_13_method_132_code, some .int, 18, 9, 253, 9175, 9173, 9174, 1012),
   (⟨"ValueDaysLaw", "law", "([I)Z"⟩, code, some .boolean, 19, 12, 301, 0, 0, 0, 0)]]
noncomputable def mn (y : Nat) : mNR := nth (⟨"", "", ""⟩, .empty, none, 0, 0, 0, 0, 0, 0, 0) (nth [] mNN (y / 20)) (y % 20)
def mch : Nat → List Cond := fun k => match k with
  | 0 => k2_sels lw_privs
  | 1 => tables_1_1
  | 2 => tables_1_2
  | 3 => tables_1_3
  | 4 => tables_1_4
  | 5 => tables_1_5
  | 6 => tables_1_6
  | 7 => tables_1_7
  | 8 => tables_1_8
  | 9 => tables_1_9
  | _ => []
def mOW : List String := ["ValueDays", "java/lang/Object", "ValueDays$Tape", "ValueDays$Reader", "ValueDays$Script", "ValueDays$Tokens", "ValueDays$Ledger", "ValueDays$Terms", "ValueDays$Entries", "ValueDays$Course", "ValueDays$WhatIf", "ValueDays$PaidOff", "java/lang/String", "java/lang/StringLatin1", "jdk/internal/util/Preconditions", "java/lang/StringUTF16", "java/util/Arrays", "java/lang/Math", "ValueDaysModel", "ValueDaysLaw"]
/-- field links: owner, pool entry, class, slot, place -/
def mFL : List (Nat × Nat × Nat × Nat × Nat) := [(2, 11, 6, 0, 1034),
  (2, 15, 6, 1, 1035),
  (4, 9, 5, 0, 1054),
  (4, 13, 5, 1, 1055),
  (4, 17, 5, 2, 1056),
  (5, 9, 8, 0, 1071),
  (5, 15, 8, 1, 1072),
  (5, 19, 8, 2, 1073),
  (5, 25, 8, 3, 1074),
  (5, 22, 8, 4, 1075),
  (3, 22, 4, 0, 1087),
  (3, 31, 4, 1, 1088),
  (3, 12, 4, 2, 1089),
  (3, 35, 4, 3, 1090),
  (3, 18, 4, 4, 1091),
  (3, 63, 4, 5, 1092),
  (3, 66, 4, 6, 1093),
  (3, 69, 4, 7, 1094),
  (3, 72, 4, 8, 1095),
  (3, 75, 4, 9, 1096),
  (3, 79, 4, 10, 1097),
  (3, 82, 4, 11, 1098),
  (3, 85, 4, 12, 1099),
  (3, 88, 4, 13, 1100),
  (3, 91, 4, 14, 1101),
  (7, 15, 7, 0, 1150),
  (7, 18, 7, 1, 1151),
  (7, 22, 7, 2, 1152),
  (7, 25, 7, 3, 1153),
  (7, 28, 7, 4, 1154),
  (7, 32, 7, 5, 1155),
  (8, 11, 1, 0, 1175),
  (8, 15, 1, 1, 1176),
  (8, 19, 1, 2, 1177),
  (8, 22, 1, 3, 1178),
  (8, 25, 1, 4, 1179),
  (8, 28, 1, 5, 1180),
  (8, 31, 1, 6, 1181),
  (9, 15, 2, 0, 1198),
  (10, 15, 2, 0, 1199),
  (6, 12, 2, 0, 1200),
  (0, 123, 2, 0, 1201),
  (10, 22, 2, 1, 1202),
  (6, 21, 2, 1, 1203),
  (0, 63, 2, 1, 1204),
  (6, 25, 2, 2, 1205),
  (6, 29, 2, 3, 1206),
  (6, 32, 2, 4, 1207),
  (6, 36, 2, 5, 1208),
  (6, 39, 2, 6, 1209),
  (6, 42, 2, 7, 1210),
  (9, 9, 0, 0, 1234),
  (9, 21, 0, 1, 1235),
  (10, 9, 9, 0, 2007),
  (10, 21, 9, 1, 2008),
  (10, 26, 9, 2, 2009),
  (11, 21, 3, 0, 2023),
  (11, 11, 3, 1, 2024),
  (11, 17, 3, 2, 2025),
  (0, 12, 10, 0, 2033),
  (0, 23, 10, 1, 2034),
  (0, 30, 10, 2, 2035),
  (0, 34, 10, 3, 2036),
  (0, 41, 10, 4, 2037),
  (0, 50, 10, 5, 2038),
  (0, 57, 10, 6, 2039),
  (0, 70, 10, 7, 2040),
  (18, 11, 11, 1, 6213),
  (18, 15, 11, 2, 6214),
  (18, 18, 11, 3, 6215),
  (18, 21, 11, 4, 6216),
  (18, 25, 11, 5, 6217),
  (18, 28, 11, 6, 6218),
  (18, 105, 11, 7, 6219),
  (18, 31, 11, 8, 6220),
  (18, 175, 11, 9, 6221),
  (18, 34, 11, 10, 6222),
  (18, 37, 11, 11, 6223),
  (18, 40, 11, 12, 6224),
  (18, 114, 11, 13, 6225),
  (18, 43, 11, 14, 6226),
  (18, 46, 11, 15, 6227),
  (18, 50, 11, 16, 6228),
  (18, 53, 11, 17, 6229),
  (18, 56, 11, 18, 6230),
  (18, 108, 11, 19, 6231),
  (18, 111, 11, 20, 6232),
  (18, 59, 11, 21, 6233),
  (18, 117, 11, 22, 6234),
  (18, 63, 11, 23, 6235),
  (18, 66, 11, 24, 6236),
  (18, 69, 11, 25, 6237),
  (18, 197, 11, 26, 6238),
  (18, 73, 11, 27, 6239),
  (18, 200, 11, 28, 7000),
  (18, 203, 11, 29, 7001),
  (18, 209, 11, 30, 7002),
  (18, 212, 11, 31, 7003),
  (18, 223, 11, 32, 7004),
  (18, 227, 11, 33, 7005),
  (18, 76, 11, 34, 7006),
  (18, 285, 11, 35, 7007),
  (18, 291, 11, 36, 7008),
  (18, 79, 11, 37, 7009),
  (18, 82, 11, 38, 7010),
  (18, 85, 11, 39, 7011)]
/-- method links: owner, pool entry, method, place -/
def mML : List (Nat × Nat × Nat × Nat) := [(19, 13, 0, 2058),
  (0, 74, 1, 2062),
  (0, 78, 2, 2066),
  (0, 82, 3, 2070),
  (19, 18, 4, 2074),
  (0, 86, 5, 2078),
  (19, 23, 6, 2082),
  (0, 89, 7, 2086),
  (3, 38, 8, 2090),
  (3, 60, 9, 2094),
  (3, 41, 10, 2098),
  (5, 28, 11, 2102),
  (5, 31, 3, 2106),
  (5, 37, 12, 2107),
  (5, 41, 13, 2111),
  (5, 45, 14, 2114),
  (5, 48, 15, 2117),
  (3, 44, 3, 2121),
  (3, 50, 16, 2122),
  (3, 57, 17, 2126),
  (3, 54, 18, 2130),
  (3, 94, 19, 2134),
  (3, 97, 20, 2138),
  (3, 142, 21, 2143),
  (3, 102, 22, 2147),
  (5, 52, 23, 2151),
  (12, 335, 24, 2155),
  (5, 55, 25, 2161),
  (12, 492, 26, 2165),
  (12, 495, 27, 2169),
  (13, 9, 28, 2172),
  (12, 1059, 29, 2177),
  (12, 498, 30, 2180),
  (15, 67, 31, 2183),
  (15, 48, 32, 2186),
  (15, 414, 28, 2189),
  (15, 71, 33, 2190),
  (3, 172, 11, 2199),
  (3, 137, 34, 2200),
  (3, 181, 35, 2204),
  (3, 149, 36, 2209),
  (3, 175, 37, 2213),
  (3, 156, 38, 2219),
  (3, 178, 39, 2223),
  (4, 28, 40, 2227),
  (3, 106, 41, 2232),
  (3, 111, 42, 2239),
  (3, 116, 43, 3006),
  (3, 169, 44, 3010),
  (3, 121, 45, 3015),
  (3, 129, 46, 3021),
  (3, 134, 47, 3026),
  (0, 92, 48, 3030),
  (0, 95, 49, 3034),
  (0, 99, 50, 3038),
  (0, 103, 51, 3045),
  (4, 24, 52, 3049),
  (4, 20, 53, 3053),
  (0, 106, 54, 3057),
  (6, 45, 55, 3061),
  (7, 35, 56, 3065),
  (6, 48, 57, 3068),
  (6, 49, 58, 3072),
  (6, 55, 52, 3075),
  (6, 61, 53, 3076),
  (6, 65, 59, 3077),
  (6, 69, 60, 3081),
  (7, 41, 61, 3085),
  (6, 73, 62, 3095),
  (6, 77, 63, 3099),
  (6, 80, 64, 3103),
  (6, 98, 65, 3107),
  (6, 102, 66, 3111),
  (6, 167, 67, 3115),
  (6, 84, 68, 3121),
  (6, 106, 69, 3125),
  (6, 110, 70, 3129),
  (6, 142, 71, 3133),
  (6, 153, 72, 3137),
  (6, 157, 73, 3141),
  (7, 66, 74, 3145),
  (6, 114, 75, 3149),
  (6, 118, 76, 3157),
  (6, 87, 77, 3161),
  (6, 121, 78, 3165),
  (8, 39, 79, 3169),
  (8, 35, 80, 3173),
  (6, 90, 81, 3177),
  (6, 94, 82, 3181),
  (6, 125, 80, 3185),
  (6, 129, 83, 3186),
  (6, 132, 84, 3190),
  (0, 110, 19, 3194),
  (19, 28, 85, 3195),
  (0, 113, 86, 3199),
  (19, 32, 87, 3203),
  (0, 116, 88, 3207),
  (0, 119, 89, 3211),
  (0, 122, 90, 3215),
  (0, 127, 91, 3219),
  (0, 132, 92, 3223),
  (0, 135, 93, 3227),
  (0, 140, 94, 3231),
  (0, 143, 95, 3235),
  (19, 36, 96, 3239),
  (0, 146, 80, 4003),
  (0, 151, 97, 4005),
  (0, 155, 83, 4009),
  (0, 159, 84, 4010),
  (0, 162, 98, 4011),
  (0, 165, 99, 4015),
  (0, 168, 100, 4019),
  (19, 41, 101, 4023),
  (0, 171, 102, 4027),
  (0, 175, 103, 4031),
  (19, 45, 104, 4035),
  (0, 178, 105, 4039),
  (0, 181, 106, 4043),
  (0, 184, 107, 4047),
  (19, 50, 108, 4051),
  (19, 54, 109, 4055),
  (0, 188, 110, 4059),
  (19, 59, 111, 4063),
  (0, 191, 112, 4067),
  (7, 57, 113, 4071),
  (0, 195, 114, 4081),
  (0, 199, 115, 4085),
  (7, 63, 107, 4089),
  (0, 202, 116, 4090),
  (19, 63, 117, 4094),
  (0, 205, 72, 4098),
  (0, 208, 73, 4099),
  (19, 67, 118, 4100),
  (0, 211, 119, 4104),
  (0, 214, 120, 4108),
  (9, 22, 71, 4112),
  (9, 26, 88, 4113),
  (9, 30, 110, 4114),
  (9, 34, 72, 4115),
  (0, 217, 121, 4116),
  (9, 40, 73, 4120),
  (19, 71, 122, 4121),
  (0, 220, 123, 4125),
  (6, 135, 124, 4129),
  (19, 75, 125, 4133),
  (0, 223, 78, 4137),
  (19, 79, 126, 4138),
  (0, 226, 127, 4142),
  (19, 83, 128, 4146),
  (0, 229, 76, 4150),
  (19, 87, 129, 4151),
  (0, 232, 130, 4155),
  (0, 235, 131, 4159),
  (0, 238, 132, 4164),
  (8, 48, 131, 4168),
  (8, 52, 133, 4169),
  (0, 241, 133, 4173),
  (0, 245, 134, 4174),
  (8, 56, 135, 4178),
  (19, 91, 136, 4182),
  (0, 248, 137, 4186),
  (19, 116, 138, 4190),
  (0, 251, 139, 4194),
  (9, 50, 140, 4198),
  (9, 53, 141, 4202),
  (0, 254, 142, 4206),
  (19, 164, 143, 4210),
  (0, 257, 144, 4214),
  (9, 43, 112, 4218),
  (9, 46, 107, 4219),
  (19, 176, 145, 4220),
  (0, 260, 71, 4224),
  (0, 263, 135, 4225),
  (0, 267, 146, 4226),
  (19, 192, 147, 4230),
  (0, 271, 148, 4234),
  (19, 95, 149, 4238),
  (0, 274, 67, 5002),
  (0, 277, 150, 5003),
  (9, 57, 151, 5007),
  (19, 99, 152, 5011),
  (0, 280, 153, 5015),
  (9, 61, 67, 5019),
  (19, 103, 154, 5020),
  (0, 283, 155, 5024),
  (19, 108, 156, 5029),
  (0, 287, 157, 5033),
  (9, 70, 158, 5037),
  (19, 112, 159, 5041),
  (0, 290, 160, 5045),
  (19, 152, 161, 5049),
  (0, 293, 162, 5053),
  (9, 73, 163, 5057),
  (19, 156, 164, 5062),
  (0, 296, 165, 5066),
  (19, 180, 166, 5071),
  (0, 301, 167, 5077),
  (0, 305, 168, 5080),
  (19, 184, 169, 5084),
  (19, 120, 170, 5090),
  (0, 316, 171, 5094),
  (6, 138, 172, 5098),
  (19, 124, 173, 5102),
  (0, 319, 174, 5106),
  (10, 48, 89, 5110),
  (10, 52, 175, 5111),
  (10, 27, 176, 5115),
  (10, 31, 84, 5119),
  (10, 37, 83, 5120),
  (10, 41, 124, 5121),
  (10, 45, 123, 5122),
  (19, 128, 177, 5123),
  (0, 322, 178, 5127),
  (10, 65, 179, 5131),
  (10, 68, 66, 5136),
  (10, 72, 172, 5137),
  (10, 76, 171, 5138),
  (19, 132, 180, 5139),
  (0, 325, 181, 5143),
  (10, 80, 71, 5147),
  (10, 87, 88, 5149),
  (10, 93, 70, 5151),
  (10, 96, 75, 5152),
  (10, 99, 182, 5153),
  (10, 103, 72, 5157),
  (10, 108, 73, 5158),
  (19, 136, 183, 5159),
  (0, 328, 184, 5163),
  (10, 111, 94, 5167),
  (10, 114, 78, 5168),
  (19, 140, 185, 5169),
  (0, 331, 186, 5173),
  (19, 144, 187, 5177),
  (0, 334, 188, 5181),
  (10, 117, 189, 5185),
  (10, 121, 110, 5189),
  (10, 124, 190, 5190),
  (7, 70, 112, 5194),
  (19, 148, 191, 5195),
  (0, 337, 192, 5199),
  (10, 128, 193, 5203),
  (10, 131, 74, 5207),
  (19, 160, 194, 5208),
  (0, 340, 195, 5212),
  (19, 168, 196, 5218),
  (0, 343, 175, 5222),
  (19, 172, 197, 5223),
  (0, 346, 198, 5227),
  (10, 56, 93, 5231),
  (19, 188, 199, 5233),
  (0, 349, 200, 5237),
  (10, 137, 188, 6001),
  (19, 196, 201, 6002),
  (0, 352, 69, 6006),
  (0, 355, 202, 6007),
  (10, 143, 203, 6011),
  (19, 200, 204, 6015),
  (0, 358, 205, 6019),
  (19, 204, 206, 6023),
  (0, 361, 207, 6027),
  (10, 147, 69, 6031),
  (10, 140, 208, 6032),
  (10, 154, 209, 6036),
  (6, 176, 93, 6040),
  (6, 177, 79, 6041),
  (6, 180, 106, 6042),
  (10, 157, 210, 6043),
  (10, 160, 211, 6047),
  (10, 151, 212, 6051),
  (19, 208, 213, 6055),
  (19, 212, 214, 6059),
  (0, 364, 215, 6063),
  (19, 216, 216, 6067),
  (0, 367, 217, 6071),
  (0, 371, 208, 6075),
  (19, 221, 218, 6076),
  (0, 374, 219, 6080),
  (19, 225, 220, 6084),
  (0, 377, 221, 6088),
  (11, 29, 93, 6092),
  (11, 37, 83, 6093),
  (11, 50, 222, 6095),
  (11, 33, 103, 6100),
  (11, 54, 80, 6101),
  (11, 41, 223, 6102),
  (11, 25, 224, 6106),
  (11, 61, 84, 6111),
  (11, 67, 225, 6112),
  (0, 380, 223, 6116),
  (19, 229, 226, 6117),
  (0, 383, 227, 6121),
  (19, 233, 228, 6125),
  (0, 386, 229, 6129),
  (19, 237, 230, 6133),
  (0, 389, 231, 6137),
  (0, 395, 232, 6141),
  (0, 401, 233, 6145),
  (0, 412, 234, 6149),
  (0, 415, 53, 6153),
  (0, 416, 59, 6154),
  (19, 241, 235, 6155),
  (19, 245, 236, 6159),
  (0, 392, 237, 6163),
  (0, 398, 238, 6167),
  (19, 249, 239, 6171),
  (19, 254, 240, 6175),
  (19, 258, 241, 6179),
  (19, 262, 242, 6183),
  (0, 405, 243, 6187),
  (19, 266, 244, 6191),
  (19, 270, 245, 6195),
  (0, 409, 246, 6199),
  (19, 274, 247, 6203),
  (19, 17, 248, 7094),
  (19, 22, 249, 7098),
  (18, 101, 250, 7102),
  (19, 31, 251, 7105),
  (19, 27, 252, 7109),
  (18, 327, 253, 7113),
  (18, 191, 254, 7117),
  (18, 247, 255, 7121),
  (18, 206, 256, 7125),
  (18, 230, 257, 7135),
  (18, 330, 258, 7139),
  (18, 321, 259, 7143),
  (18, 254, 260, 7148),
  (18, 243, 261, 7152),
  (18, 234, 23, 7156),
  (18, 239, 25, 7157),
  (18, 250, 262, 7158),
  (18, 263, 263, 7163),
  (18, 257, 264, 7167),
  (18, 324, 265, 7173),
  (18, 294, 266, 7178),
  (18, 274, 267, 7184),
  (18, 297, 268, 7189),
  (18, 301, 269, 7196),
  (18, 97, 270, 7200),
  (18, 306, 271, 7205),
  (18, 288, 272, 7209),
  (18, 313, 273, 7215),
  (18, 318, 274, 7220),
  (18, 194, 275, 7224),
  (18, 179, 276, 7228),
  (18, 168, 277, 7232),
  (18, 182, 278, 7236),
  (18, 161, 279, 8000),
  (18, 155, 280, 8004),
  (18, 158, 281, 8008),
  (18, 145, 282, 8012),
  (18, 135, 283, 8016),
  (18, 127, 284, 8020),
  (18, 149, 285, 8027),
  (18, 152, 286, 8031),
  (18, 164, 287, 8038),
  (18, 185, 288, 8042),
  (18, 172, 289, 8046),
  (18, 188, 290, 8050),
  (18, 333, 291, 8054),
  (19, 35, 292, 8058),
  (18, 336, 293, 8062),
  (19, 40, 294, 8066),
  (18, 339, 295, 8070),
  (19, 44, 296, 8077),
  (18, 349, 297, 8081),
  (19, 49, 298, 8085),
  (18, 352, 299, 8089),
  (18, 355, 300, 8093),
  (19, 53, 301, 8097),
  (19, 58, 302, 8101),
  (19, 62, 303, 8105),
  (19, 66, 304, 8109),
  (19, 70, 305, 8113),
  (18, 358, 306, 8117),
  (19, 74, 307, 8121),
  (19, 78, 308, 8125),
  (19, 82, 309, 8129),
  (18, 361, 310, 8133),
  (19, 86, 311, 8137),
  (19, 90, 312, 8141),
  (19, 94, 313, 8146),
  (19, 98, 314, 8150),
  (18, 366, 315, 8154),
  (19, 102, 316, 8158),
  (19, 107, 317, 8162),
  (19, 111, 318, 8166),
  (18, 369, 319, 8170),
  (19, 115, 320, 8174),
  (19, 119, 321, 8178),
  (18, 372, 322, 8182),
  (19, 167, 323, 8185),
  (19, 179, 324, 8189),
  (19, 183, 325, 8194),
  (19, 187, 326, 8200),
  (18, 381, 317, 8204),
  (19, 195, 327, 8205),
  (19, 171, 328, 8209),
  (18, 385, 329, 8213),
  (19, 175, 330, 8217),
  (19, 123, 331, 8221),
  (18, 388, 332, 8225),
  (19, 127, 333, 8229),
  (19, 131, 334, 8233),
  (18, 391, 335, 8237),
  (19, 135, 336, 9001),
  (19, 139, 337, 9005),
  (18, 394, 338, 9009),
  (19, 143, 339, 9013),
  (19, 147, 340, 9017),
  (18, 402, 341, 9023),
  (19, 191, 342, 9027),
  (19, 151, 343, 9031),
  (19, 155, 344, 9035),
  (18, 407, 345, 9039),
  (19, 159, 346, 9045),
  (19, 163, 347, 9049),
  (18, 412, 348, 9053),
  (19, 199, 349, 9057),
  (19, 203, 350, 9061),
  (19, 207, 351, 9065),
  (18, 415, 352, 9069),
  (19, 211, 353, 9073),
  (19, 220, 354, 9078),
  (18, 422, 355, 9082),
  (18, 425, 356, 9087),
  (19, 224, 357, 9091),
  (19, 228, 358, 9095),
  (18, 432, 359, 9099),
  (18, 429, 360, 9103),
  (19, 232, 361, 9107),
  (19, 236, 362, 9111),
  (19, 215, 363, 9115),
  (18, 435, 364, 9119),
  (19, 240, 365, 9123),
  (18, 445, 366, 9127),
  (18, 438, 367, 9131),
  (18, 441, 368, 9135),
  (19, 244, 369, 9139),
  (19, 248, 370, 9143),
  (19, 253, 371, 9147),
  (19, 257, 372, 9152),
  (19, 261, 373, 9156),
  (19, 265, 374, 9160),
  (19, 269, 375, 9164),
  (19, 273, 376, 9168),
  (19, 277, 377, 9172)]
def mCI : List (Nat × Nat × Nat × Nat) := [(5, 51, 10, 2120), (3, 164, 24, 2237), (0, 299, 34, 5075), (0, 300, 24, 5076), (10, 135, 36, 5216), (10, 136, 24, 5217), (18, 226, 41, 7133), (18, 273, 24, 7183)]
def mCL : List (Nat × Nat × Nat × Nat) := [(6, 163, 1, 3155), (6, 165, 2, 3156), (0, 149, 3, 4004), (9, 76, 4, 5061), (0, 314, 5, 5089), (18, 215, 6, 7129), (18, 217, 7, 7130), (18, 219, 8, 7131), (18, 221, 9, 7132), (18, 139, 10, 8034), (18, 141, 2, 8036), (18, 143, 11, 8037), (18, 343, 12, 8074), (18, 345, 3, 8075), (18, 347, 13, 8076), (18, 364, 15, 8145), (18, 375, 16, 8193), (18, 377, 17, 8198), (18, 379, 5, 8199), (18, 398, 18, 9021), (18, 400, 19, 9022), (18, 405, 20, 9043), (18, 410, 4, 9044), (18, 418, 21, 9077), (18, 420, 22, 9086), (18, 449, 23, 9151)]
def mST : List (Nat × Nat × Nat) := [(3, 140, 0), (3, 146, 1), (3, 153, 2), (3, 154, 3), (3, 100, 4), (3, 162, 5), (3, 109, 6), (3, 165, 7), (3, 167, 8), (3, 114, 9), (3, 119, 10), (3, 125, 11), (3, 127, 12), (3, 132, 13), (18, 260, 0), (18, 262, 1), (18, 267, 2), (18, 269, 3), (18, 282, 4), (18, 271, 5), (18, 284, 6), (18, 278, 7), (18, 280, 8), (18, 300, 9), (18, 304, 10), (18, 309, 11), (18, 311, 12), (18, 316, 13)]
def mAC : List (Nat × Nat × Nat) := [(4, 32, 3042), (6, 170, 5135)]
/-- links of the texts' fields and of two statics: owner, pool entry, which, place -/
def mSF : List (Nat × Nat × Nat × Nat) := [(12, 38, 0, 2159), (12, 1053, 1, 2175), (12, 9, 10000, 9176), (12, 15, 10001, 9177)]
def mSW : Nat → String × String × String := fun k => match k with
  | 10000 => ("java/lang/String", "value", "[B")
  | 10001 => ("java/lang/String", "coder", "B")
  | 0 => ("java/lang/String", "COMPACT_STRINGS", "Z")
  | _ => ("jdk/internal/util/Preconditions", "SIOOBE_FORMATTER", "Ljava/util/function/BiFunction;")
/-- links of the library's max, min, abs: owner, pool entry, which, place -/
def mMM : List (Nat × Nat × Nat × Nat) := [(7, 45, 9003, 3089), (7, 51, 9002, 3092), (6, 145, 9003, 3119), (6, 150, 9002, 3120), (6, 160, 9006, 3152), (7, 54, 9005, 4075), (7, 61, 9004, 4078), (8, 42, 9004, 4163), (9, 64, 9005, 5028), (9, 78, 9004, 5070), (0, 308, 9004, 5088), (10, 83, 9002, 5148), (10, 90, 9003, 5150), (10, 59, 9006, 5232), (11, 44, 9006, 6094), (11, 64, 9002, 6099), (11, 57, 9005, 6110), (18, 124, 9003, 7134), (18, 120, 9002, 8024), (18, 130, 9005, 8025), (18, 133, 9004, 8026), (18, 91, 9006, 8035)]
def mMN : Nat → Jvm.MethodName := fun k => match k with
  | 9002 => ⟨"java/lang/Math", "max", "(II)I"⟩
  | 9003 => ⟨"java/lang/Math", "min", "(II)I"⟩
  | 9004 => ⟨"java/lang/Math", "max", "(JJ)J"⟩
  | 9005 => ⟨"java/lang/Math", "min", "(JJ)J"⟩
  | 9006 => ⟨"java/lang/Math", "abs", "(J)J"⟩
  | _ => ⟨"", "", ""⟩
def mT : List Cond := lw_tbl.filter goodWord
def inT (h : Nat) (w : Cond) : Bool := goodWord w && decide ((mch (h / 1000))[h % 1000]? = some w)
theorem mch_mem {c : Nat} {w : Cond} (h : w ∈ mch c) : w ∈ lw_tbl := by
  have t : ∀ {x : Cond}, x ∈ tables_1 → x ∈ lw_tbl := fun h => List.mem_append_right _ h
  match c, h with
  | 0, h => exact List.mem_append_left _ h
  | 1, h => exact t (List.mem_append_left _ h)
  | 2, h => exact t (List.mem_append_right _ (List.mem_append_left _ h))
  | 3, h => exact t (List.mem_append_right _ (List.mem_append_right _ (List.mem_append_left _ h)))
  | 4, h => exact t (List.mem_append_right _ (List.mem_append_right _ (List.mem_append_right _ (List.mem_append_left _ h))))
  | 5, h => exact t (List.mem_append_right _ (List.mem_append_right _ (List.mem_append_right _ (List.mem_append_right _ (List.mem_append_left _ h)))))
  | 6, h => exact t (List.mem_append_right _ (List.mem_append_right _ (List.mem_append_right _ (List.mem_append_right _ (List.mem_append_right _ (List.mem_append_left _ h))))))
  | 7, h => exact t (List.mem_append_right _ (List.mem_append_right _ (List.mem_append_right _ (List.mem_append_right _ (List.mem_append_right _ (List.mem_append_right _ (List.mem_append_left _ h)))))))
  | 8, h => exact t (List.mem_append_right _ (List.mem_append_right _ (List.mem_append_right _ (List.mem_append_right _ (List.mem_append_right _ (List.mem_append_right _ (List.mem_append_right _ (List.mem_append_left _ h))))))))
  | 9, h => exact t (List.mem_append_right _ (List.mem_append_right _ (List.mem_append_right _ (List.mem_append_right _ (List.mem_append_right _ (List.mem_append_right _ (List.mem_append_right _ (List.mem_append_right _ h))))))))
theorem inT_mem {h : Nat} {w : Cond} (q : inT h w = true) : w ∈ mT := by
  unfold inT at q
  simp only [Bool.and_eq_true, decide_eq_true_eq] at q
  exact List.mem_filter.mpr ⟨mch_mem (List.mem_of_getElem? q.2), q.1⟩
theorem mT_good {w : Cond} (h : w ∈ mT) : (w.onTables && w.keeps) = true ∨ ∃ ty, w = .arrayClass ty := good_of_word (List.mem_filter.mp h).2
def rtc : Option FieldType → Nat
  | none => 0
  | some .int => 1
  | some .long => 2
  | some .boolean => 3
  | some .byte => 4
  | some .char => 5
  | some (.object _) => 6
  | some (.array _) => 6
  | _ => 9
noncomputable def mNm (y : Nat) : Jvm.MethodName := (mn y).1
noncomputable def mCd (y : Nat) : ByteArray := (mn y).2.1
noncomputable def mRt (y : Nat) : Option FieldType := (mn y).2.2.1
noncomputable def mOw (y : Nat) : Nat := (mn y).2.2.2.1
noncomputable def mRf (y : Nat) : Nat := (mn y).2.2.2.2.1
noncomputable def mRl (y : Nat) : Nat := (mn y).2.2.2.2.2.1
noncomputable def mMl (y : Nat) : Nat := (mr y).1
noncomputable def mRc (y : Nat) : Nat := (mr y).2.2.2.1
/-- a method's own words -/
noncomputable def okY (y : Nat) : Bool := inT (mn y).2.2.2.2.2.2.1 (.code (mNm y) (mCd y) (mMl y) (mRt y)) && (inT (mn y).2.2.2.2.2.2.2.2.2 (.initialized (mNm y).cls) && (decide (nth "" mOW (mOw y) = (mNm y).cls) && (Nat.beq (rtc (mRt y)) (mr y).2.1 && (decide ((mNm y).cls ≠ "java/lang/invoke/MethodHandle") && (decide ((mNm y).cls ≠ "java/lang/invoke/VarHandle") && (plainName (mNm y).cls && (match mRc y with
      | 0 => inT (mn y).2.2.2.2.2.2.2.1 (.static (mNm y)) && decide ((parseMethodDescriptor (mNm y).desc).map (fun d => d.parameters.length) = some (mr y).2.2.1)
      | c + 1 => inT (mn y).2.2.2.2.2.2.2.1 (.instanceMethod (mNm y)) && (inT (mn y).2.2.2.2.2.2.2.2.1 (.selects (mNm y).cls (mNm y) (mNm y)) && (decide ((parseMethodDescriptor (mNm y).desc).map (fun d => d.parameters.length + 1) = some (mr y).2.2.1) && (bif Nat.beq c 98 then decide ((mNm y).cls = "java/lang/String") else decide ((vwCl[c]?).map (fun q => q.1) = some (mNm y).cls))))))))))) 
def cndN : Jvm.ClassFile.Cond → Nat
  | .eq => 0
  | .ne => 1
  | .lt => 2
  | .ge => 3
  | .gt => 4
  | .le => 5
def any4 (l : List (Nat × Nat × Nat × Nat)) (a b c : Nat) : Bool := l.any (fun q => Nat.beq q.2.1 b && Nat.beq q.2.2.1 c && Nat.beq q.1 a)
def any5 (l : List (Nat × Nat × Nat × Nat × Nat)) (a b c d : Nat) : Bool := l.any (fun q => Nat.beq q.2.1 b && Nat.beq q.2.2.1 c && Nat.beq q.2.2.2.1 d && Nat.beq q.1 a)
def any3 (l : List (Nat × Nat × Nat)) (a b c : Nat) : Bool := l.any (fun q => Nat.beq q.2.1 b && Nat.beq q.2.2 c && Nat.beq q.1 a)
def swL (pc df : Int) : Int → List Int → List (Int32 × Nat)
  | _, [] => []
  | v, o :: l => if o = df then swL pc df (v + 1) l else (Int32.ofInt v, (pc + o).toNat) :: swL pc df (v + 1) l
noncomputable def okC (y ow n ax : Nat) : Bool := any4 mML ow n ax && (Nat.ble (mRf ax + 1) (mRf y) && Nat.ble (8 + (mMl ax + 11) + mRl ax) (mRl y))
def ilen : Jvm.ClassFile.Instr → Nat
  | .tableswitch _ _ _ _ => 0
  | .lookupswitch _ _ => 0
  | .iload _ => 2
  | .lload _ => 2
  | .aload _ => 2
  | .istore _ => 2
  | .lstore _ => 2
  | .astore _ => 2
  | .bipush _ => 2
  | .ldc _ => 2
  | .sipush _ => 3
  | .ldc_w _ => 3
  | .ldc2_w _ => 3
  | .iinc _ _ => 3
  | .goto _ => 3
  | .ifCond _ _ => 3
  | .if_icmp _ _ => 3
  | .ifnull _ => 3
  | .ifnonnull _ => 3
  | .getfield _ => 3
  | .putfield _ => 3
  | .getstatic _ => 3
  | .invokevirtual _ => 3
  | .invokestatic _ => 3
  | .invokespecial _ => 3
  | .new _ => 3
  | _ => 1
/-- what an instruction's operand stands for -/
noncomputable def okX (y pc : Nat) (i : Jvm.ClassFile.Instr) (tg ax : Nat) : Bool := match i with
        | .iconst n => decide (Int32.ofInt n = kI ax)
        | .bipush n => decide ((Int8.ofInt n).toInt32 = kI ax)
        | .sipush n => decide ((Int16.ofInt n).toInt32 = kI ax)
        | .ldc n => bif Nat.ble 1000 ax then (bif Nat.beq ax 9999 then true else any3 mST (mOw y) n (ax - 1000)) else any4 mCI (mOw y) n ax
        | .ldc_w n => bif Nat.ble 1000 ax then (bif Nat.beq ax 9999 then true else any3 mST (mOw y) n (ax - 1000)) else any4 mCI (mOw y) n ax
        | .lconst n => decide (Int64.ofNat n.val = kL ax)
        | .ldc2_w n => any4 mCL (mOw y) n ax
        | .iinc _ n => decide (Int32.ofInt n = kI ax)
        | .goto off => decide ((pc : Int) + off = (tg : Int))
        | .ifCond _ off => decide ((pc : Int) + off = (tg : Int))
        | .if_icmp _ off => decide ((pc : Int) + off = (tg : Int))
        | .ifnull off => decide ((pc : Int) + off = (tg : Int))
        | .ifnonnull off => decide ((pc : Int) + off = (tg : Int))
        | .getfield n => bif Nat.ble 10000 ax then any4 mSF (mOw y) n ax else any5 mFL (mOw y) n (ax / 64) tg && Nat.beq (ax / 64 * 64 + tg) ax
        | .getstatic n => bif Nat.ble ax 1 then any4 mSF (mOw y) n ax else true
        | .putfield n => any5 mFL (mOw y) n (ax / 64) tg && (Nat.beq (ax / 64 * 64 + tg) ax && decide ((vwCl[ax / 64]?).map (fun q => (q.2.1 tg).2.2.2) = some false))
        | .invokevirtual n => bif Nat.beq ax 9000 then true else okC y (mOw y) n ax && Nat.ble 1 (mRc ax)
        | .invokestatic n => bif Nat.beq ax 9000 then true else (bif Nat.ble 9001 ax then Nat.ble 1 (mRf y) && (Nat.ble 60 (mRl y) && (bif Nat.beq ax 9001 then mAC.any (fun q => Nat.beq q.2.1 n && Nat.beq q.1 (mOw y)) else any4 mMM (mOw y) n ax)) else okC y (mOw y) n ax && Nat.beq (mRc ax) 0)
        | .tableswitch d lo hi offs => decide ((pc : Int) + d = ((kS ax).2 : Int)) && (decide (swL pc d lo offs.toList = (kS ax).1) && (decide ((offs.size : Int) = hi - lo + 1) && (decide (-1000 ≤ lo) && (decide (hi ≤ 1000) && offs.toList.all (fun o => decide (0 ≤ (pc : Int) + o))))))
        | .lookupswitch d ps => decide ((pc : Int) + d = ((kS ax).2 : Int)) && (decide (ps.toList.map (fun q => (Int32.ofInt q.1, ((pc : Int) + q.2).toNat)) = (kS ax).1) && (ps.toList.all (fun q => decide (-1000 ≤ q.1) && (decide (q.1 ≤ 1000) && decide (0 ≤ (pc : Int) + q.2))) && (ps.toList.zip (ps.toList.drop 1)).all (fun (a, next) => a.1 < next.1)))
        | _ => true
def isLc : Jvm.ClassFile.Instr → Bool
  | .lcmp => true
  | _ => false
/-- an instruction's own row -/
noncomputable def okE (y pc : Nat) (e : mMI) : Bool := bif isLc e.1 then decide (decode (mCd y) pc = .ok (.lcmp, 1)) && (Nat.beq e.2.1 (pc + 4) && (match decode (mCd y) (pc + 1) with
        | .ok (.ifCond c off, 3) => decide (((pc + 1 : Nat) : Int) + off = (e.2.2.1 : Int)) && Nat.beq (cndN c) e.2.2.2
        | _ => false))
      else decide (decode (mCd y) pc = .ok (e.1, e.2.1 - pc)) && (Nat.ble (pc + 1) e.2.1 && ((Nat.beq (ilen e.1) 0 || Nat.beq (e.2.1 - pc) (ilen e.1)) && okX y pc e.1 e.2.2.1 e.2.2.2))
noncomputable def okM (y : Nat) : Bool := (mr y).2.2.2.2.2.2.all (fun l => l.all (fun q => okE y q.1 q.2))
end
section
/-! rows that a program decides: every method's words -/
set_option maxRecDepth 100000 in
theorem okY_g0 : (List.range' 0 20).all okY = true := by decide +kernel
set_option maxRecDepth 100000 in
theorem okY_g1 : (List.range' 20 20).all okY = true := by decide +kernel
set_option maxRecDepth 100000 in
theorem okY_g2 : (List.range' 40 20).all okY = true := by decide +kernel
set_option maxRecDepth 100000 in
theorem okY_g3 : (List.range' 60 20).all okY = true := by decide +kernel
set_option maxRecDepth 100000 in
theorem okY_g4 : (List.range' 80 20).all okY = true := by decide +kernel
set_option maxRecDepth 100000 in
theorem okY_g5 : (List.range' 100 20).all okY = true := by decide +kernel
set_option maxRecDepth 100000 in
theorem okY_g6 : (List.range' 120 20).all okY = true := by decide +kernel
set_option maxRecDepth 100000 in
theorem okY_g7 : (List.range' 140 20).all okY = true := by decide +kernel
set_option maxRecDepth 100000 in
theorem okY_g8 : (List.range' 160 20).all okY = true := by decide +kernel
set_option maxRecDepth 100000 in
theorem okY_g9 : (List.range' 180 20).all okY = true := by decide +kernel
set_option maxRecDepth 100000 in
theorem okY_g10 : (List.range' 200 20).all okY = true := by decide +kernel
set_option maxRecDepth 100000 in
theorem okY_g11 : (List.range' 220 20).all okY = true := by decide +kernel
set_option maxRecDepth 100000 in
theorem okY_g12 : (List.range' 240 20).all okY = true := by decide +kernel
set_option maxRecDepth 100000 in
theorem okY_g13 : (List.range' 260 20).all okY = true := by decide +kernel
set_option maxRecDepth 100000 in
theorem okY_g14 : (List.range' 280 20).all okY = true := by decide +kernel
set_option maxRecDepth 100000 in
theorem okY_g15 : (List.range' 300 20).all okY = true := by decide +kernel
set_option maxRecDepth 100000 in
theorem okY_g16 : (List.range' 320 20).all okY = true := by decide +kernel
set_option maxRecDepth 100000 in
theorem okY_g17 : (List.range' 340 20).all okY = true := by decide +kernel
set_option maxRecDepth 100000 in
theorem okY_g18 : (List.range' 360 18).all okY = true := by decide +kernel
theorem okY_all {y : Nat} (h : y < 378) : okY y = true := by
  by_cases h0 : y < 20
  · exact List.all_eq_true.mp okY_g0 y (List.mem_range'_1.mpr ⟨by omega, by omega⟩)
  by_cases h1 : y < 40
  · exact List.all_eq_true.mp okY_g1 y (List.mem_range'_1.mpr ⟨by omega, by omega⟩)
  by_cases h2 : y < 60
  · exact List.all_eq_true.mp okY_g2 y (List.mem_range'_1.mpr ⟨by omega, by omega⟩)
  by_cases h3 : y < 80
  · exact List.all_eq_true.mp okY_g3 y (List.mem_range'_1.mpr ⟨by omega, by omega⟩)
  by_cases h4 : y < 100
  · exact List.all_eq_true.mp okY_g4 y (List.mem_range'_1.mpr ⟨by omega, by omega⟩)
  by_cases h5 : y < 120
  · exact List.all_eq_true.mp okY_g5 y (List.mem_range'_1.mpr ⟨by omega, by omega⟩)
  by_cases h6 : y < 140
  · exact List.all_eq_true.mp okY_g6 y (List.mem_range'_1.mpr ⟨by omega, by omega⟩)
  by_cases h7 : y < 160
  · exact List.all_eq_true.mp okY_g7 y (List.mem_range'_1.mpr ⟨by omega, by omega⟩)
  by_cases h8 : y < 180
  · exact List.all_eq_true.mp okY_g8 y (List.mem_range'_1.mpr ⟨by omega, by omega⟩)
  by_cases h9 : y < 200
  · exact List.all_eq_true.mp okY_g9 y (List.mem_range'_1.mpr ⟨by omega, by omega⟩)
  by_cases h10 : y < 220
  · exact List.all_eq_true.mp okY_g10 y (List.mem_range'_1.mpr ⟨by omega, by omega⟩)
  by_cases h11 : y < 240
  · exact List.all_eq_true.mp okY_g11 y (List.mem_range'_1.mpr ⟨by omega, by omega⟩)
  by_cases h12 : y < 260
  · exact List.all_eq_true.mp okY_g12 y (List.mem_range'_1.mpr ⟨by omega, by omega⟩)
  by_cases h13 : y < 280
  · exact List.all_eq_true.mp okY_g13 y (List.mem_range'_1.mpr ⟨by omega, by omega⟩)
  by_cases h14 : y < 300
  · exact List.all_eq_true.mp okY_g14 y (List.mem_range'_1.mpr ⟨by omega, by omega⟩)
  by_cases h15 : y < 320
  · exact List.all_eq_true.mp okY_g15 y (List.mem_range'_1.mpr ⟨by omega, by omega⟩)
  by_cases h16 : y < 340
  · exact List.all_eq_true.mp okY_g16 y (List.mem_range'_1.mpr ⟨by omega, by omega⟩)
  by_cases h17 : y < 360
  · exact List.all_eq_true.mp okY_g17 y (List.mem_range'_1.mpr ⟨by omega, by omega⟩)
  by_cases h18 : y < 378
  · exact List.all_eq_true.mp okY_g18 y (List.mem_range'_1.mpr ⟨by omega, by omega⟩)
  omega
end
section
/-! rows that a program decides: every instruction's row -/
set_option maxRecDepth 100000 in
theorem okM_g0 : (List.range' 0 10).all okM = true := by decide +kernel
set_option maxRecDepth 100000 in
theorem okM_g1 : (List.range' 10 10).all okM = true := by decide +kernel
set_option maxRecDepth 100000 in
theorem okM_g2 : (List.range' 20 10).all okM = true := by decide +kernel
set_option maxRecDepth 100000 in
theorem okM_g3 : (List.range' 30 10).all okM = true := by decide +kernel
set_option maxRecDepth 100000 in
theorem okM_g4 : (List.range' 40 10).all okM = true := by decide +kernel
set_option maxRecDepth 100000 in
theorem okM_g5 : (List.range' 50 10).all okM = true := by decide +kernel
set_option maxRecDepth 100000 in
theorem okM_g6 : (List.range' 60 10).all okM = true := by decide +kernel
set_option maxRecDepth 100000 in
theorem okM_g7 : (List.range' 70 10).all okM = true := by decide +kernel
set_option maxRecDepth 100000 in
theorem okM_g8 : (List.range' 80 10).all okM = true := by decide +kernel
set_option maxRecDepth 100000 in
theorem okM_g9 : (List.range' 90 10).all okM = true := by decide +kernel
set_option maxRecDepth 100000 in
theorem okM_g10 : (List.range' 100 10).all okM = true := by decide +kernel
set_option maxRecDepth 100000 in
theorem okM_g11 : (List.range' 110 10).all okM = true := by decide +kernel
set_option maxRecDepth 100000 in
theorem okM_g12 : (List.range' 120 10).all okM = true := by decide +kernel
end
section
/-! rows that a program decides: every instruction's row -/
set_option maxRecDepth 100000 in
theorem okM_g13 : (List.range' 130 10).all okM = true := by decide +kernel
set_option maxRecDepth 100000 in
theorem okM_g14 : (List.range' 140 10).all okM = true := by decide +kernel
set_option maxRecDepth 100000 in
theorem okM_g15 : (List.range' 150 10).all okM = true := by decide +kernel
set_option maxRecDepth 100000 in
theorem okM_g16 : (List.range' 160 10).all okM = true := by decide +kernel
set_option maxRecDepth 100000 in
theorem okM_g17 : (List.range' 170 10).all okM = true := by decide +kernel
set_option maxRecDepth 100000 in
theorem okM_g18 : (List.range' 180 10).all okM = true := by decide +kernel
set_option maxRecDepth 100000 in
theorem okM_g19 : (List.range' 190 10).all okM = true := by decide +kernel
set_option maxRecDepth 100000 in
theorem okM_g20 : (List.range' 200 10).all okM = true := by decide +kernel
set_option maxRecDepth 100000 in
theorem okM_g21 : (List.range' 210 10).all okM = true := by decide +kernel
set_option maxRecDepth 100000 in
theorem okM_g22 : (List.range' 220 10).all okM = true := by decide +kernel
set_option maxRecDepth 100000 in
theorem okM_g23 : (List.range' 230 10).all okM = true := by decide +kernel
set_option maxRecDepth 100000 in
theorem okM_g24 : (List.range' 240 10).all okM = true := by decide +kernel
set_option maxRecDepth 100000 in
theorem okM_g25 : (List.range' 250 10).all okM = true := by decide +kernel
end
section
/-! rows that a program decides: every instruction's row -/
set_option maxRecDepth 100000 in
theorem okM_g26 : (List.range' 260 10).all okM = true := by decide +kernel
set_option maxRecDepth 100000 in
theorem okM_g27 : (List.range' 270 10).all okM = true := by decide +kernel
set_option maxRecDepth 100000 in
theorem okM_g28 : (List.range' 280 10).all okM = true := by decide +kernel
set_option maxRecDepth 100000 in
theorem okM_g29 : (List.range' 290 10).all okM = true := by decide +kernel
set_option maxRecDepth 100000 in
theorem okM_g30 : (List.range' 300 10).all okM = true := by decide +kernel
set_option maxRecDepth 100000 in
theorem okM_g31 : (List.range' 310 10).all okM = true := by decide +kernel
set_option maxRecDepth 100000 in
theorem okM_g32 : (List.range' 320 10).all okM = true := by decide +kernel
set_option maxRecDepth 100000 in
theorem okM_g33 : (List.range' 330 10).all okM = true := by decide +kernel
set_option maxRecDepth 100000 in
theorem okM_g34 : (List.range' 340 10).all okM = true := by decide +kernel
set_option maxRecDepth 100000 in
theorem okM_g35 : (List.range' 350 10).all okM = true := by decide +kernel
set_option maxRecDepth 100000 in
theorem okM_g36 : (List.range' 360 10).all okM = true := by decide +kernel
set_option maxRecDepth 100000 in
theorem okM_g37 : (List.range' 370 8).all okM = true := by decide +kernel
theorem okM_all {y : Nat} (h : y < 378) : okM y = true := by
  by_cases h0 : y < 10
  · exact List.all_eq_true.mp okM_g0 y (List.mem_range'_1.mpr ⟨by omega, by omega⟩)
  by_cases h1 : y < 20
  · exact List.all_eq_true.mp okM_g1 y (List.mem_range'_1.mpr ⟨by omega, by omega⟩)
  by_cases h2 : y < 30
  · exact List.all_eq_true.mp okM_g2 y (List.mem_range'_1.mpr ⟨by omega, by omega⟩)
  by_cases h3 : y < 40
  · exact List.all_eq_true.mp okM_g3 y (List.mem_range'_1.mpr ⟨by omega, by omega⟩)
  by_cases h4 : y < 50
  · exact List.all_eq_true.mp okM_g4 y (List.mem_range'_1.mpr ⟨by omega, by omega⟩)
  by_cases h5 : y < 60
  · exact List.all_eq_true.mp okM_g5 y (List.mem_range'_1.mpr ⟨by omega, by omega⟩)
  by_cases h6 : y < 70
  · exact List.all_eq_true.mp okM_g6 y (List.mem_range'_1.mpr ⟨by omega, by omega⟩)
  by_cases h7 : y < 80
  · exact List.all_eq_true.mp okM_g7 y (List.mem_range'_1.mpr ⟨by omega, by omega⟩)
  by_cases h8 : y < 90
  · exact List.all_eq_true.mp okM_g8 y (List.mem_range'_1.mpr ⟨by omega, by omega⟩)
  by_cases h9 : y < 100
  · exact List.all_eq_true.mp okM_g9 y (List.mem_range'_1.mpr ⟨by omega, by omega⟩)
  by_cases h10 : y < 110
  · exact List.all_eq_true.mp okM_g10 y (List.mem_range'_1.mpr ⟨by omega, by omega⟩)
  by_cases h11 : y < 120
  · exact List.all_eq_true.mp okM_g11 y (List.mem_range'_1.mpr ⟨by omega, by omega⟩)
  by_cases h12 : y < 130
  · exact List.all_eq_true.mp okM_g12 y (List.mem_range'_1.mpr ⟨by omega, by omega⟩)
  by_cases h13 : y < 140
  · exact List.all_eq_true.mp okM_g13 y (List.mem_range'_1.mpr ⟨by omega, by omega⟩)
  by_cases h14 : y < 150
  · exact List.all_eq_true.mp okM_g14 y (List.mem_range'_1.mpr ⟨by omega, by omega⟩)
  by_cases h15 : y < 160
  · exact List.all_eq_true.mp okM_g15 y (List.mem_range'_1.mpr ⟨by omega, by omega⟩)
  by_cases h16 : y < 170
  · exact List.all_eq_true.mp okM_g16 y (List.mem_range'_1.mpr ⟨by omega, by omega⟩)
  by_cases h17 : y < 180
  · exact List.all_eq_true.mp okM_g17 y (List.mem_range'_1.mpr ⟨by omega, by omega⟩)
  by_cases h18 : y < 190
  · exact List.all_eq_true.mp okM_g18 y (List.mem_range'_1.mpr ⟨by omega, by omega⟩)
  by_cases h19 : y < 200
  · exact List.all_eq_true.mp okM_g19 y (List.mem_range'_1.mpr ⟨by omega, by omega⟩)
  by_cases h20 : y < 210
  · exact List.all_eq_true.mp okM_g20 y (List.mem_range'_1.mpr ⟨by omega, by omega⟩)
  by_cases h21 : y < 220
  · exact List.all_eq_true.mp okM_g21 y (List.mem_range'_1.mpr ⟨by omega, by omega⟩)
  by_cases h22 : y < 230
  · exact List.all_eq_true.mp okM_g22 y (List.mem_range'_1.mpr ⟨by omega, by omega⟩)
  by_cases h23 : y < 240
  · exact List.all_eq_true.mp okM_g23 y (List.mem_range'_1.mpr ⟨by omega, by omega⟩)
  by_cases h24 : y < 250
  · exact List.all_eq_true.mp okM_g24 y (List.mem_range'_1.mpr ⟨by omega, by omega⟩)
  by_cases h25 : y < 260
  · exact List.all_eq_true.mp okM_g25 y (List.mem_range'_1.mpr ⟨by omega, by omega⟩)
  by_cases h26 : y < 270
  · exact List.all_eq_true.mp okM_g26 y (List.mem_range'_1.mpr ⟨by omega, by omega⟩)
  by_cases h27 : y < 280
  · exact List.all_eq_true.mp okM_g27 y (List.mem_range'_1.mpr ⟨by omega, by omega⟩)
  by_cases h28 : y < 290
  · exact List.all_eq_true.mp okM_g28 y (List.mem_range'_1.mpr ⟨by omega, by omega⟩)
  by_cases h29 : y < 300
  · exact List.all_eq_true.mp okM_g29 y (List.mem_range'_1.mpr ⟨by omega, by omega⟩)
  by_cases h30 : y < 310
  · exact List.all_eq_true.mp okM_g30 y (List.mem_range'_1.mpr ⟨by omega, by omega⟩)
  by_cases h31 : y < 320
  · exact List.all_eq_true.mp okM_g31 y (List.mem_range'_1.mpr ⟨by omega, by omega⟩)
  by_cases h32 : y < 330
  · exact List.all_eq_true.mp okM_g32 y (List.mem_range'_1.mpr ⟨by omega, by omega⟩)
  by_cases h33 : y < 340
  · exact List.all_eq_true.mp okM_g33 y (List.mem_range'_1.mpr ⟨by omega, by omega⟩)
  by_cases h34 : y < 350
  · exact List.all_eq_true.mp okM_g34 y (List.mem_range'_1.mpr ⟨by omega, by omega⟩)
  by_cases h35 : y < 360
  · exact List.all_eq_true.mp okM_g35 y (List.mem_range'_1.mpr ⟨by omega, by omega⟩)
  by_cases h36 : y < 370
  · exact List.all_eq_true.mp okM_g36 y (List.mem_range'_1.mpr ⟨by omega, by omega⟩)
  by_cases h37 : y < 378
  · exact List.all_eq_true.mp okM_g37 y (List.mem_range'_1.mpr ⟨by omega, by omega⟩)
  omega
set_option maxRecDepth 100000 in
theorem mFL_r : mFL.all (fun q => match vwCl[q.2.2.1]? with
  | some (C, T, N) => Nat.blt q.2.2.2.1 N && inT q.2.2.2.2 (.fieldLink (nth "" mOW q.1) q.2.1 C (T q.2.2.2.1).2.1 (T q.2.2.2.1).2.2.1) && decide ((T q.2.2.2.1).1 = C)
  | none => false) = true := by decide +kernel
set_option maxRecDepth 100000 in
theorem mML_r : mML.all (fun q => Nat.blt q.2.2.1 378 && inT q.2.2.2 (.methodLink (nth "" mOW q.1) q.2.1 (mn q.2.2.1).1)) = true := by decide +kernel
set_option maxRecDepth 100000 in
theorem mCI_r : mCI.all (fun q => inT q.2.2.2 (.constant (nth "" mOW q.1) q.2.1 (kI q.2.2.1))) = true := by decide +kernel
set_option maxRecDepth 100000 in
theorem mCL_r : mCL.all (fun q => inT q.2.2.2 (.constantLong (nth "" mOW q.1) q.2.1 (kL q.2.2.1))) = true := by decide +kernel
set_option maxRecDepth 100000 in
theorem mAC_r : mAC.all (fun q => inT q.2.2 (.methodLink (nth "" mOW q.1) q.2.1 arraycopyName)) = true := by decide +kernel
set_option maxRecDepth 100000 in
theorem mMM_r : mMM.all (fun q => inT q.2.2.2 (.methodLink (nth "" mOW q.1) q.2.1 (mMN q.2.2.1))) = true := by decide +kernel
set_option maxRecDepth 100000 in
theorem mSF_r : mSF.all (fun q => inT q.2.2.2 (.fieldLink (nth "" mOW q.1) q.2.1 (mSW q.2.2.1).1 (mSW q.2.2.1).2.1 (mSW q.2.2.1).2.2)) = true := by decide +kernel
end
section
/-! the small machine: a Prop that runs by reduction. I: int fields, A: int (byte, boolean) arrays, B: long arrays, P: reference fields.
Values: .ref k is the cell k of the store; .retAddr 0 the law's script (its ints: row 900 of A, its length: field (900, 0) of I), .retAddr (1 + i) the text i, .retAddr (101 + i) its bytes, .retAddr 999 a formatter; .float 0 a place that holds nothing -/
abbrev mI : Type := Nat → Nat → Int32
abbrev mB : Type := Nat → Nat → Int64
abbrev mP : Type := Nat → Nat → Option Nat
abbrev mR : Type := Option Value → mI → mI → mB → mP → Prop
abbrev mJ : Type := Nat → Nat → List Value → List Value → mI → mI → mB → mP → mR → Prop
abbrev mK : Type := Nat → List Value → List Value → mI → mI → mB → mP → Prop
abbrev mC : Type := Nat → List Value → mI → mI → mB → mP → mR → Prop
def up2 {α : Type} (f : Nat → Nat → α) (k j : Nat) (v : α) : Nat → Nat → α := fun a c => if a = k ∧ c = j then v else f a c
def up1 {α : Type} (f : Nat → Nat → α) (k : Nat) (g : Nat → α) : Nat → Nat → α := fun a c => if a = k then g c else f a c
/-- which methods go in when called -/
def inlL : List (List Bool) := [[false, false, false, true, true, true, false, false, false, true, true, false, false, false, false, false, false, true, false, true],
  [false, false, false, true, true, true, true, true, true, true, true, true, true, false, false, true, false, true, false, true],
  [false, false, false, false, false, false, false, false, true, true, true, true, false, false, false, false, false, true, false, false],
  [true, false, true, false, true, false, false, true, false, false, false, true, false, true, false, false, false, false, false, false],
  [false, false, true, false, false, true, true, false, true, true, true, true, true, true, true, true, false, false, true, true],
  [true, true, false, false, true, false, false, false, false, true, false, false, false, false, false, true, true, false, true, false],
  [false, false, true, true, true, true, false, false, true, false, false, false, true, false, true, false, true, false, true, true],
  [false, false, true, true, false, false, false, true, false, true, false, false, true, false, true, false, true, false, true, true],
  [false, true, true, false, true, true, true, false, false, true, true, true, false, true, false, true, true, true, false, true],
  [true, false, true, true, false, true, false, true, false, false, true, true, false, false, true, false, true, true, false, true],
  [false, true, false, true, true, false, true, true, false, false, false, true, false, false, true, false, true, false, true, false],
  [true, false, false, false, false, false, true, false, true, false, true, false, false, false, true, true, false, false, false, false],
  [false, false, true, true, false, false, true, true, false, true, false, true, false, true, false, false, false, false, false, false],
  [false, false, false, false, false, false, false, false, false, false, true, false, false, true, false, false, false, false, false, false],
  [false, false, false, false, false, false, false, false, false, false, false, false, false, false, false, false, false, false, true, false],
  [false, true, true, false, true, false, false, true, true, true, false, true, false, false, true, false, true, false, false, false],
  [false, false, false, false, false, false, true, false, true, false, false, true, false, false, true, false, false, false, false, false],
  [true, false, false, false, true, false, false, false, false, true, false, true, false, false, true, false, false, false, true, false],
  [false, false, true, false, false, true, false, false, false, true, false, false, true, true, false, false, true, true, false]]
def inl (y : Nat) : Bool := nth false (nth [] inlL (y / 20)) (y % 20)
def hasN (n : Nat) : List Nat → Bool
  | [] => false
  | a :: l => bif Nat.beq a n then true else hasN n l
def fetL (pc : Nat) (k : mMI → Prop) : List (Nat × mMI) → Prop
  | [] => False
  | (q, e) :: l => bif Nat.beq q pc then k e else fetL pc k l
def fet (ch : List (List (Nat × mMI))) (pc : Nat) (k : mMI → Prop) : Prop := fetL pc k (nth [] ch (pc / 16))
def popI (S : List Value) (k : Int32 → List Value → Prop) : Prop := match S with
  | .int x :: S => k x S
  | _ => False
def popL (S : List Value) (k : Int64 → List Value → Prop) : Prop := match S with
  | .long x :: S => k x S
  | _ => False
def popR (S : List Value) (k : Nat → List Value → Prop) : Prop := match S with
  | .ref x :: S => k x S
  | _ => False
def popV (S : List Value) (k : Value → List Value → Prop) : Prop := match S with
  | v :: S => k v S
  | [] => False
def isI (v : Value) (k : Int32 → Prop) : Prop := match v with
  | .int x => k x
  | _ => False
def isL (v : Value) (k : Int64 → Prop) : Prop := match v with
  | .long x => k x
  | _ => False
def isA (v : Value) (k : Value → Prop) : Prop := match v with
  | .ref x => k (.ref x)
  | .null => k .null
  | .retAddr x => bif Nat.beq x 999 then False else k (.retAddr x)
  | _ => False
def isN (v : Value) (k : Value → Prop) : Prop := match v with
  | .ref x => k (.ref x)
  | .null => k .null
  | _ => False
def ld (k : Value → Prop) : List Value → Nat → Prop
  | [], _ => False
  | v :: _, 0 => k v
  | _ :: L, n + 1 => ld k L n
/-- what a store at the next place leaves of a value: a long's first half is lost -/
def cut (v : Value) (k : Value → Prop) : Prop := match v with
  | .long _ => k (.float 0)
  | .double _ => k (.float 0)
  | v => k v
def sto (v : Value) : List Value → Nat → (List Value → Prop) → Prop
  | [], _, _ => False
  | _ :: L, 0, k => k (v :: L)
  | a :: _ :: L, 1, k => cut a (fun a => k (a :: v :: L))
  | a :: L, n + 2, k => sto v L (n + 1) (fun L => k (a :: L))
  | [_], 1, _ => False
def sto2 (v : Value) : List Value → Nat → (List Value → Prop) → Prop
  | _ :: _ :: L, 0, k => k (v :: .float 0 :: L)
  | a :: _ :: _ :: L, 1, k => cut a (fun a => k (a :: v :: .float 0 :: L))
  | a :: L, n + 2, k => sto2 v L (n + 1) (fun L => k (a :: L))
  | _, _, _ => False
def popN : Nat → List Value → List Value → (List Value → List Value → Prop) → Prop
  | 0, S, acc, k => k acc S
  | n + 1, v :: S, acc, k => popN n S (v :: acc) k
  | _ + 1, [], _, _ => False
def mkK : Nat → List Value → (List Value → Prop) → Prop
  | 0, [], k => k []
  | 0, _ :: _, _ => False
  | n + 1, [], k => mkK n [] (fun L => k (.float 0 :: L))
  | n + 1, v :: a, k => match v with
    | .long x => (match n with
      | 0 => False
      | n + 1 => mkK n a (fun L => k (.long x :: .float 0 :: L)))
    | .double _ => False
    | v => mkK n a (fun L => k (v :: L))
def catS : List Value → Nat
  | [] => 0
  | v :: S => (match v with
    | .long _ => 2
    | .double _ => 2
    | _ => 1) + catS S
def pushO (v : Option Value) (S : List Value) : List Value := match v with
  | some x => x :: S
  | none => S
def recv (rc : Nat) (args : List Value) (q : Prop) : Prop := match rc with
  | 0 => q
  | c + 1 => (match args with
    | .ref k :: _ => (match csh k with
      | some c' => bif Nat.beq c c' then q else False
      | none => False)
    | .retAddr n :: _ => bif Nat.beq c 98 && (Nat.ble 1 n && Nat.ble n 14) then q else False
    | _ => False)
def swP (x : Int32) (d : Nat) (k : Nat → Prop) : List (Int32 × Nat) → Prop
  | [] => k d
  | (v, t) :: l => (x = v → k t) ∧ (¬ x = v → swP x d k l)
def ret1 (ret : Nat) (x : Int32) (q : Prop) : Prop := match ret with
  | 1 => q
  | 3 => (x = 0 ∨ x = 1) ∧ q
  | 4 => narrow .byte (.int x) = .int x ∧ q
  | 5 => narrow .char (.int x) = .int x ∧ q
  | _ => False
/-- one instruction -/
noncomputable def st1 (C : mC) (ret : Nat) (e : mMI) (L S : List Value) (I A : mI) (B : mB) (P : mP) (K : mK) (R : mR) : Prop := match e with
  | (i, nx, tg, ax) => match i with
    | .iconst _ => kIc ax (fun x => K nx L (.int x :: S) I A B P)
    | .bipush _ => kIc ax (fun x => K nx L (.int x :: S) I A B P)
    | .sipush _ => kIc ax (fun x => K nx L (.int x :: S) I A B P)
    | .ldc _ => bif Nat.ble 1000 ax then (bif Nat.beq ax 9999 then False else K nx L (.retAddr (ax - 999) :: S) I A B P) else kIc ax (fun x => K nx L (.int x :: S) I A B P)
    | .ldc_w _ => bif Nat.ble 1000 ax then (bif Nat.beq ax 9999 then False else K nx L (.retAddr (ax - 999) :: S) I A B P) else kIc ax (fun x => K nx L (.int x :: S) I A B P)
    | .lconst _ => kLc ax (fun x => K nx L (.long x :: S) I A B P)
    | .ldc2_w _ => kLc ax (fun x => K nx L (.long x :: S) I A B P)
    | .aconst_null => K nx L (.null :: S) I A B P
    | .iload n => ld (fun v => isI v (fun x => K nx L (.int x :: S) I A B P)) L n
    | .iload_n n => ld (fun v => isI v (fun x => K nx L (.int x :: S) I A B P)) L n.val
    | .lload n => ld (fun v => isL v (fun x => K nx L (.long x :: S) I A B P)) L n
    | .lload_n n => ld (fun v => isL v (fun x => K nx L (.long x :: S) I A B P)) L n.val
    | .aload n => ld (fun v => isA v (fun x => K nx L (x :: S) I A B P)) L n
    | .aload_n n => ld (fun v => isA v (fun x => K nx L (x :: S) I A B P)) L n.val
    | .istore n => popI S (fun x S => sto (.int x) L n (fun L => K nx L S I A B P))
    | .istore_n n => popI S (fun x S => sto (.int x) L n.val (fun L => K nx L S I A B P))
    | .lstore n => popL S (fun x S => sto2 (.long x) L n (fun L => K nx L S I A B P))
    | .lstore_n n => popL S (fun x S => sto2 (.long x) L n.val (fun L => K nx L S I A B P))
    | .astore n => popV S (fun v S => isN v (fun v => sto v L n (fun L => K nx L S I A B P)))
    | .astore_n n => popV S (fun v S => isN v (fun v => sto v L n.val (fun L => K nx L S I A B P)))
    | .iinc n _ => kIc ax (fun d => ld (fun v => isI v (fun x => sto (.int (x + d)) L n (fun L => K nx L S I A B P))) L n)
    | .iadd => popI S (fun y S => popI S (fun x S => K nx L (.int (x + y) :: S) I A B P))
    | .isub => popI S (fun y S => popI S (fun x S => K nx L (.int (x - y) :: S) I A B P))
    | .imul => popI S (fun y S => popI S (fun x S => K nx L (.int (x * y) :: S) I A B P))
    | .iand => popI S (fun y S => popI S (fun x S => K nx L (.int (x &&& y) :: S) I A B P))
    | .ishr => popI S (fun y S => popI S (fun x S => K nx L (.int (x >>> (y &&& 31)) :: S) I A B P))
    | .idiv => popI S (fun y S => popI S (fun x S => ¬ y = 0 ∧ K nx L (.int (x / y) :: S) I A B P))
    | .irem => popI S (fun y S => popI S (fun x S => ¬ y = 0 ∧ K nx L (.int (x - x / y * y) :: S) I A B P))
    | .ladd => popL S (fun y S => popL S (fun x S => K nx L (.long (x + y) :: S) I A B P))
    | .lsub => popL S (fun y S => popL S (fun x S => K nx L (.long (x - y) :: S) I A B P))
    | .lmul => popL S (fun y S => popL S (fun x S => K nx L (.long (x * y) :: S) I A B P))
    | .ldiv => popL S (fun y S => popL S (fun x S => ¬ y = 0 ∧ K nx L (.long (x / y) :: S) I A B P))
    | .lrem => popL S (fun y S => popL S (fun x S => ¬ y = 0 ∧ K nx L (.long (x - x / y * y) :: S) I A B P))
    | .lneg => popL S (fun x S => K nx L (.long (-x) :: S) I A B P)
    | .i2l => popI S (fun x S => K nx L (.long x.toInt64 :: S) I A B P)
    | .l2i => popL S (fun x S => K nx L (.int x.toInt32 :: S) I A B P)
    | .i2b => popI S (fun x S => K nx L (.int x.toInt8.toInt32 :: S) I A B P)
    | .i2c => popI S (fun x S => K nx L (.int (x.toUInt32 % 65536).toInt32 :: S) I A B P)
    | .dup => popV S (fun v S => isA v (fun v => K nx L (v :: v :: S) I A B P))
    | .dup2 => popI S (fun x S => popR S (fun k S => K nx L (.int x :: .ref k :: .int x :: .ref k :: S) I A B P))
    | .pop => popI S (fun _ S => K nx L S I A B P)
    | .pop2 => popL S (fun _ S => K nx L S I A B P)
    | .goto _ => K tg L S I A B P
    | .ifCond c _ => popI S (fun x S => match c with
      | .eq => (x = 0 → K tg L S I A B P) ∧ (¬ x = 0 → K nx L S I A B P)
      | .ne => (¬ x = 0 → K tg L S I A B P) ∧ (x = 0 → K nx L S I A B P)
      | .lt => (x < 0 → K tg L S I A B P) ∧ (¬ x < 0 → K nx L S I A B P)
      | .ge => (0 ≤ x → K tg L S I A B P) ∧ (¬ 0 ≤ x → K nx L S I A B P)
      | .gt => (0 < x → K tg L S I A B P) ∧ (¬ 0 < x → K nx L S I A B P)
      | .le => (x ≤ 0 → K tg L S I A B P) ∧ (¬ x ≤ 0 → K nx L S I A B P))
    | .if_icmp c _ => popI S (fun y S => popI S (fun x S => match c with
      | .eq => (x = y → K tg L S I A B P) ∧ (¬ x = y → K nx L S I A B P)
      | .ne => (¬ x = y → K tg L S I A B P) ∧ (x = y → K nx L S I A B P)
      | .lt => (x < y → K tg L S I A B P) ∧ (¬ x < y → K nx L S I A B P)
      | .ge => (y ≤ x → K tg L S I A B P) ∧ (¬ y ≤ x → K nx L S I A B P)
      | .gt => (y < x → K tg L S I A B P) ∧ (¬ y < x → K nx L S I A B P)
      | .le => (x ≤ y → K tg L S I A B P) ∧ (¬ x ≤ y → K nx L S I A B P)))
    | .lcmp => popL S (fun y S => popL S (fun x S => match ax with
      | 0 => (x = y → K tg L S I A B P) ∧ (¬ x = y → K nx L S I A B P)
      | 1 => (¬ x = y → K tg L S I A B P) ∧ (x = y → K nx L S I A B P)
      | 2 => (x < y → K tg L S I A B P) ∧ (¬ x < y → K nx L S I A B P)
      | 3 => (y ≤ x → K tg L S I A B P) ∧ (¬ y ≤ x → K nx L S I A B P)
      | 4 => (y < x → K tg L S I A B P) ∧ (¬ y < x → K nx L S I A B P)
      | 5 => (x ≤ y → K tg L S I A B P) ∧ (¬ x ≤ y → K nx L S I A B P)
      | _ => False))
    | .ifnull _ => popV S (fun v S => match v with
      | .null => K tg L S I A B P
      | .ref _ => K nx L S I A B P
      | _ => False)
    | .ifnonnull _ => popV S (fun v S => match v with
      | .null => K nx L S I A B P
      | .ref _ => K tg L S I A B P
      | _ => False)
    | .tableswitch _ _ _ _ => popI S (fun x S => swP x (kS ax).2 (fun t => K t L S I A B P) (kS ax).1)
    | .lookupswitch _ _ => popI S (fun x S => swP x (kS ax).2 (fun t => K t L S I A B P) (kS ax).1)
    | .getstatic _ => (match ax with
      | 0 => K nx L (.int 1 :: S) I A B P
      | 1 => K nx L (.retAddr 999 :: S) I A B P
      | _ => False)
    | .getfield _ => popV S (fun v S => match v with
      | .ref k => (match csh k with
        | some c => bif Nat.beq c (ax / 64) then (match fsh ax with
          | 0 => K nx L (.int (I k tg) :: S) I A B P
          | 1 => (match P k tg with
            | some q => K nx L (.ref q :: S) I A B P
            | none => False)
          | 2 => K nx L (.int (I k tg) :: S) I A B P
          | _ => False) else False
        | none => False)
      | .retAddr n => bif Nat.ble 1 n && Nat.ble n 14 then (bif Nat.beq ax 10000 then K nx L (.retAddr (n + 100) :: S) I A B P else bif Nat.beq ax 10001 then K nx L (.int 0 :: S) I A B P else False) else False
      | _ => False)
    | .putfield _ => popV S (fun v S => popR S (fun k S => match csh k with
      | some c => bif Nat.beq c (ax / 64) then (match fsh ax with
        | 0 => isI v (fun x => K nx L S (up2 I k tg x) A B P)
        | 1 => (match v with
          | .ref q => K nx L S I A B (up2 P k tg (some q))
          | _ => False)
        | 2 => isI v (fun x => (x = 0 ∨ x = 1) ∧ K nx L S (up2 I k tg x) A B P)
        | _ => False) else False
      | none => False))
    | .arraylength => popV S (fun v S => match v with
      | .ref k => (match rsh k with
        | some (_, _, n) => K nx L (.int (Int32.ofNat n) :: S) I A B P
        | none => ∃ t n : Nat, ash k = some (t, n) ∧ K nx L (.int (Int32.ofNat n) :: S) I A B P)
      | .retAddr n => (match n with
        | 0 => K nx L (.int (I 900 0) :: S) I A B P
        | n => bif Nat.ble 101 n && Nat.ble n 114 then K nx L (.int (Int32.ofNat (tx (n - 101)).length) :: S) I A B P else False)
      | _ => False)
    | .iaload => popI S (fun i S => popV S (fun v S => match v with
      | .ref k => ∃ n : Nat, ash k = some (0, n) ∧ vp_in i n ∧ K nx L (.int (A k i.toNatClampNeg) :: S) I A B P
      | .retAddr 0 => vp_in i (I 900 0).toNatClampNeg ∧ K nx L (.int (A 900 i.toNatClampNeg) :: S) I A B P
      | _ => False))
    | .baload => popI S (fun i S => popV S (fun v S => match v with
      | .ref k => ∃ t n : Nat, ash k = some (t, n) ∧ (t = 2 ∨ t = 3) ∧ vp_in i n ∧ K nx L (.int (A k i.toNatClampNeg) :: S) I A B P
      | .retAddr n => bif Nat.ble 101 n && Nat.ble n 114 then vp_in i (tx (n - 101)).length ∧ K nx L (.int ((tx (n - 101)).getD i.toNatClampNeg 0) :: S) I A B P else False
      | _ => False))
    | .laload => popI S (fun i S => popR S (fun k S => ∃ n : Nat, ash k = some (1, n) ∧ vp_in i n ∧ K nx L (.long (B k i.toNatClampNeg) :: S) I A B P))
    | .aaload => popI S (fun i S => popR S (fun k S => ∃ o m n : Nat, rsh k = some (o, m, n) ∧ vp_in i n ∧ K nx L (.ref (o + m * i.toNatClampNeg) :: S) I A B P))
    | .iastore => popI S (fun x S => popI S (fun i S => popR S (fun k S => ∃ n : Nat, ash k = some (0, n) ∧ vp_in i n ∧ K nx L S I (up2 A k i.toNatClampNeg x) B P)))
    | .bastore => popI S (fun x S => popI S (fun i S => popR S (fun k S => ∃ t n : Nat, ash k = some (t, n) ∧ ((t = 2 ∧ x = x.toInt8.toInt32) ∨ (t = 3 ∧ (x = 0 ∨ x = 1))) ∧ vp_in i n ∧ K nx L S I (up2 A k i.toNatClampNeg x) B P)))
    | .lastore => popL S (fun x S => popI S (fun i S => popR S (fun k S => ∃ n : Nat, ash k = some (1, n) ∧ vp_in i n ∧ K nx L S I A (up2 B k i.toNatClampNeg x) P)))
    | .ireturn => (match S with
      | [.int x] => ret1 ret x (R (some (.int x)) I A B P)
      | _ => False)
    | .lreturn => (match S with
      | [.long x] => bif Nat.beq ret 2 then R (some (.long x)) I A B P else False
      | _ => False)
    | .areturn => (match S with
      | [.ref x] => bif Nat.beq ret 6 then R (some (.ref x)) I A B P else False
      | [.null] => bif Nat.beq ret 6 then R (some .null) I A B P else False
      | _ => False)
    | .return_ => (match S with
      | [] => bif Nat.beq ret 0 then R none I A B P else False
      | _ => False)
    | .invokevirtual _ => bif Nat.beq ax 9000 then False else (match mr ax with
      | (_, _, na, rc, _) => popN na S [] (fun args S => bif Nat.ble (catS S) 8 then recv rc args (C ax args I A B P (fun v I A B P => K nx L (pushO v S) I A B P)) else False))
    | .invokestatic _ => bif Nat.ble 9001 ax then (match ax with
      | 9001 => popI S (fun n S => popI S (fun dp S => popR S (fun d S => popI S (fun sp S => popR S (fun q S => bif Nat.ble (catS S) 8 then ∃ t n0 n1 : Nat, ash q = some (t, n0) ∧ ash d = some (t, n1) ∧ (t = 0 ∨ t = 1) ∧ ¬ sp < 0 ∧ ¬ dp < 0 ∧ ¬ n < 0 ∧ sp.toNatClampNeg + n.toNatClampNeg ≤ n0 ∧ dp.toNatClampNeg + n.toNatClampNeg ≤ n1 ∧
        (t = 0 → K nx L S I (up1 A d (va_cpy (A q) (A d) sp.toNatClampNeg dp.toNatClampNeg n.toNatClampNeg)) B P) ∧ (t = 1 → K nx L S I A (up1 B d (va_cpy (B q) (B d) sp.toNatClampNeg dp.toNatClampNeg n.toNatClampNeg)) P) else False)))))
      | 9002 => popI S (fun y S => popI S (fun x S => bif Nat.ble (catS S) 8 then K nx L (.int (if x < y then y else x) :: S) I A B P else False))
      | 9003 => popI S (fun y S => popI S (fun x S => bif Nat.ble (catS S) 8 then K nx L (.int (if y < x then y else x) :: S) I A B P else False))
      | 9004 => popL S (fun y S => popL S (fun x S => bif Nat.ble (catS S) 8 then K nx L (.long (if y < x then x else y) :: S) I A B P else False))
      | 9005 => popL S (fun y S => popL S (fun x S => bif Nat.ble (catS S) 8 then K nx L (.long (if y < x then y else x) :: S) I A B P else False))
      | 9006 => popL S (fun x S => bif Nat.ble (catS S) 8 then K nx L (.long (if 0 < x then x else -x) :: S) I A B P else False)
      | _ => False)
      else bif Nat.beq ax 9000 then False else (match mr ax with
      | (_, _, na, rc, _) => popN na S [] (fun args S => bif Nat.ble (catS S) 8 then recv rc args (C ax args I A B P (fun v I A B P => K nx L (pushO v S) I A B P)) else False))
    | _ => False
/-- up to n instructions; stops at J ahead of a loop's head, at the calls of methods that do not go in, and when n is used up -/
noncomputable def runP (J : mJ) : Nat → Nat → mRec → Nat → List Value → List Value → mI → mI → mB → mP → mR → Prop
  | 0, y, _, pc, L, S, I, A, B, P, R => J y pc L S I A B P R
  | n + 1, y, r, pc, L, S, I, A, B, P, R => match r with
    | (_, ret, _, _, _, hd, ch) => fet ch pc (fun e => st1
      (fun y' args I A B P R' => match mr y' with
        | (maxL, _, _, _, _, _, _) => mkK maxL args (fun L' => bif inl y' then runP J n y' (mr y') 0 L' [] I A B P R' else J y' 0 L' [] I A B P R'))
      ret e L S I A B P
      (fun pc' L' S' I A B P => bif hasN pc' hd then J y pc' L' S' I A B P R else runP J n y r pc' L' S' I A B P R) R)
/-- what is asked of a judgement: it holds wherever a run of the small machine leads to it -/
def mRules (J : mJ) : Prop := ∀ (n y pc : Nat) (L S : List Value) (I A : mI) (B : mB) (P : mP) (R : mR), runP J n y (mr y) pc L S I A B P R → J y pc L S I A B P R
end
section
/-! the store as a world of the kit's: cell k at b + k -/
def tr (b : Nat) (tS : Nat → Value) : Value → Value
  | .ref k => .ref (b + k)
  | .retAddr n => tS n
  | v => v
def rcd (k : Nat) : Nat := if k = 9 then 4 else 5
def nfl (c : Nat) : Nat := ((vwCl[c]?).map (fun q => q.2.2)).getD 0
def fv (b : Nat) (I : mI) (P : mP) (c k j : Nat) : Value := match fsh (c * 64 + j) with
  | 1 => va_rf ((P k j).map (fun q => b + q))
  | _ => .int (I k j)
def flds (b : Nat) (I : mI) (P : mP) (c k : Nat) : List Value := (List.range (nfl c)).map (fv b I P c k)
def ceE (b : Nat) (dA : Nat → ClassId) (I A : mI) (B : mB) (P : mP) (k : Nat) : va_E := match csh k with
  | some c => .inr (c, flds b I P c k)
  | none => match ash k with
    | some t => .inl (dA t.1, t.2, if t.1 = 1 then .inr (.inl (B k)) else .inl (A k))
    | none => match rsh k with
      | some r => .inl (dA (rcd k), r.2.2, .inr (.inr (.inr (.inr (fun i => some (b + (r.1 + r.2.1 * i)))))))
      | none => .inl (0, 0, .inl (fun _ => 0))
def wsl (b : Nat) (dA : Nat → ClassId) (I A : mI) (B : mB) (P : mP) : va_W := (List.range 65).map (fun k => (b + k, ceE b dA I A B P k))
theorem csh_in : ∀ k, k < 65 ∨ csh k = none := by
  intro k
  by_cases h : k < 65
  · exact Or.inl h
  · right
    unfold csh
    split <;> first | rfl | omega
theorem ash_in : ∀ k, k < 65 ∨ ash k = none := by
  intro k
  by_cases h : k < 65
  · exact Or.inl h
  · right
    unfold ash
    split <;> first | rfl | omega
theorem rsh_in : ∀ k, k < 65 ∨ rsh k = none := by
  intro k
  by_cases h : k < 65
  · exact Or.inl h
  · right
    unfold rsh
    split <;> first | rfl | omega
theorem csh_lt {k c : Nat} (h : csh k = some c) : k < 65 := (csh_in k).elim id (fun q => by rw [q] at h; cases h)
theorem ash_lt {k : Nat} {t : Nat × Nat} (h : ash k = some t) : k < 65 := (ash_in k).elim id (fun q => by rw [q] at h; cases h)
theorem rsh_lt {k : Nat} {t : Nat × Nat × Nat} (h : rsh k = some t) : k < 65 := (rsh_in k).elim id (fun q => by rw [q] at h; cases h)
theorem ash_cs_r : (List.range 65).all (fun k => (ash k).isNone || (csh k).isNone) = true := by decide +kernel
theorem rsh_cs_r : (List.range 65).all (fun k => (rsh k).isNone || ((csh k).isNone && (ash k).isNone)) = true := by decide +kernel
theorem ash_csh {k : Nat} {t : Nat × Nat} (h : ash k = some t) : csh k = none := by
  have h1 := List.all_eq_true.mp ash_cs_r k (List.mem_range.mpr (ash_lt h))
  simpa [h] using h1
theorem rsh_csh {k : Nat} {t : Nat × Nat × Nat} (h : rsh k = some t) : csh k = none ∧ ash k = none := by
  have h1 := List.all_eq_true.mp rsh_cs_r k (List.mem_range.mpr (rsh_lt h))
  simpa [h] using h1
theorem csh_c_r : (List.range 65).all (fun k => match csh k with
  | some c => Nat.blt c 12
  | none => true) = true := by decide +kernel
theorem csh_c {k c : Nat} (h : csh k = some c) : c < 12 := by
  have h1 := List.all_eq_true.mp csh_c_r k (List.mem_range.mpr (csh_lt h))
  rw [h] at h1
  exact Nat.le_of_ble_eq_true h1
theorem n900 {k c : Nat} (h : csh k = some c) : ¬ (900 : Nat) = k := fun q => by have := csh_lt h; omega
theorem n900a {k : Nat} {t : Nat × Nat} (h : ash k = some t) : ¬ (900 : Nat) = k := fun q => by have := ash_lt h; omega
section WL
variable {b : Nat} {dA : Nat → ClassId} {I A I' A' : mI} {B B' : mB} {P P' : mP}
theorem wsl_at {k : Nat} (h : k < 65) : (wsl b dA I A B P)[k]? = some (b + k, ceE b dA I A B P k) := by
  simp [wsl, h]
theorem ce_obj {k c : Nat} (h : csh k = some c) : ceE b dA I A B P k = .inr (c, flds b I P c k) := by simp [ceE, h]
theorem ce_arr {k : Nat} {t : Nat × Nat} (h : ash k = some t) : ceE b dA I A B P k = .inl (dA t.1, t.2, if t.1 = 1 then .inr (.inl (B k)) else .inl (A k)) := by simp [ceE, h, ash_csh h]
theorem ce_ref {k : Nat} {r : Nat × Nat × Nat} (h : rsh k = some r) : ceE b dA I A B P k = .inl (dA (rcd k), r.2.2, .inr (.inr (.inr (.inr (fun i => some (b + (r.1 + r.2.1 * i))))))) := by simp [ceE, h, rsh_csh h]
theorem ce_congr {k : Nat} (h1 : I' k = I k) (h2 : A' k = A k) (h3 : B' k = B k) (h4 : P' k = P k) : ceE b dA I' A' B' P' k = ceE b dA I A B P k := by
  have e : ∀ c, fv b I' P' c k = fv b I P c k := fun c => by
    funext j
    simp only [fv, h1, h4]
  simp only [ceE, flds, e, h2, h3]
theorem wsl_set {k : Nat} {E : va_E} (hk : k < 65) (h1 : ceE b dA I' A' B' P' k = E) (h2 : ∀ j, j ≠ k → ceE b dA I' A' B' P' j = ceE b dA I A B P j) : (wsl b dA I A B P).set k (b + k, E) = wsl b dA I' A' B' P' := by
  apply List.ext_getElem?
  intro i
  by_cases hi : i < 65
  · rw [wsl_at hi]
    by_cases hik : i = k
    · subst hik
      rw [List.getElem?_set_self (by simp [wsl, hi]), h1]
    · rw [List.getElem?_set_ne (fun q => hik q.symm), wsl_at hi, h2 i hik]
  · rw [List.getElem?_eq_none (by simp [wsl]; omega), List.getElem?_eq_none (by simp [wsl]; omega)]
theorem wsl_D {Af : Nat → Prop} (hA : ∀ q, b ≤ q → Af q) : va_D Af (wsl b dA I A B P) := by
  have key : ∀ (i : Nat) (q : Nat × va_E), (wsl b dA I A B P)[i]? = some q → q.1 = b + i := by
    intro i q h
    by_cases hi : i < 65
    · rw [wsl_at hi] at h
      cases h
      rfl
    · rw [List.getElem?_eq_none (by simp [wsl]; omega)] at h
      cases h
  refine ⟨fun i j p q h1 h2 e => ?_, fun k q h => ?_⟩
  · have e1 := key i p h1
    have e2 := key j q h2
    omega
  · rw [key k q h]
    exact hA _ (Nat.le_add_right b k)
theorem up2_row {α : Type} {f : Nat → Nat → α} {k j : Nat} {v : α} {i : Nat} (h : i ≠ k) : up2 f k j v i = f i := by
  funext c
  simp [up2, h]
theorem up1_row {α : Type} {f : Nat → Nat → α} {k : Nat} {g : Nat → α} {i : Nat} (h : i ≠ k) : up1 f k g i = f i := by
  funext c
  simp [up1, h]
theorem up1_self {α : Type} {f : Nat → Nat → α} {k : Nat} {g : Nat → α} : up1 f k g k = g := by
  funext c
  simp [up1]
theorem up2_self {α : Type} {f : Nat → Nat → α} {k j : Nat} {v : α} : up2 f k j v k = fun c => if c = j then v else f k c := by
  funext c
  simp [up2]
theorem flds_get {c k j : Nat} (hj : j < nfl c) : (flds b I P c k)[j]? = some (fv b I P c k j) := by
  simp [flds, hj]
theorem flds_len {c k : Nat} : (flds b I P c k).length = nfl c := by simp [flds]
theorem flds_setI {c k j : Nat} {x : Int32} (hf : fsh (c * 64 + j) = 0 ∨ fsh (c * 64 + j) = 2) (hj : j < nfl c) : flds b (up2 I k j x) P c k = (flds b I P c k).set j (.int x) := by
  apply List.ext_getElem?
  intro i
  by_cases hi : i < nfl c
  · rw [flds_get hi]
    by_cases hij : i = j
    · subst hij
      rw [List.getElem?_set_self (by rw [flds_len]; exact hi)]
      rcases hf with h | h <;> simp [fv, h, up2]
    · rw [List.getElem?_set_ne (fun q => hij q.symm), flds_get hi]
      simp [fv, up2, hij]
  · rw [List.getElem?_eq_none (by rw [flds_len]; omega), List.getElem?_eq_none (by rw [List.length_set, flds_len]; omega)]
theorem flds_setP {c k j q : Nat} (hf : fsh (c * 64 + j) = 1) (hj : j < nfl c) : flds b I (up2 P k j (some q)) c k = (flds b I P c k).set j (.ref (b + q)) := by
  apply List.ext_getElem?
  intro i
  by_cases hi : i < nfl c
  · rw [flds_get hi]
    by_cases hij : i = j
    · subst hij
      rw [List.getElem?_set_self (by rw [flds_len]; exact hi)]
      simp [fv, hf, up2, va_rf]
    · rw [List.getElem?_set_ne (fun q => hij q.symm), flds_get hi]
      simp [fv, up2, hij]
  · rw [List.getElem?_eq_none (by rw [flds_len]; omega), List.getElem?_eq_none (by rw [List.length_set, flds_len]; omega)]
theorem wsl_I {k c j : Nat} {x : Int32} (hc : csh k = some c) (hf : fsh (c * 64 + j) = 0 ∨ fsh (c * 64 + j) = 2) (hj : j < nfl c) : (wsl b dA I A B P).set k (b + k, .inr (c, (flds b I P c k).set j (.int x))) = wsl b dA (up2 I k j x) A B P :=
  wsl_set (csh_lt hc) (by rw [ce_obj hc, flds_setI hf hj]) (fun i hi => ce_congr (up2_row hi) rfl rfl rfl)
theorem wsl_P {k c j q : Nat} (hc : csh k = some c) (hf : fsh (c * 64 + j) = 1) (hj : j < nfl c) : (wsl b dA I A B P).set k (b + k, .inr (c, (flds b I P c k).set j (.ref (b + q)))) = wsl b dA I A B (up2 P k j (some q)) :=
  wsl_set (csh_lt hc) (by rw [ce_obj hc, flds_setP hf hj]) (fun i hi => ce_congr rfl rfl rfl (up2_row hi))
theorem wsl_A {k : Nat} {t : Nat × Nat} {g : Nat → Int32} (ha : ash k = some t) (ht : ¬ t.1 = 1) {A2 : mI} (h1 : A2 k = g) (h2 : ∀ i, i ≠ k → A2 i = A i) : (wsl b dA I A B P).set k (b + k, .inl (dA t.1, t.2, .inl g)) = wsl b dA I A2 B P :=
  wsl_set (ash_lt ha) (by rw [ce_arr ha, if_neg ht, h1]) (fun i hi => ce_congr rfl (h2 i hi) rfl rfl)
theorem wsl_B {k : Nat} {t : Nat × Nat} {g : Nat → Int64} (ha : ash k = some t) (ht : t.1 = 1) {B2 : mB} (h1 : B2 k = g) (h2 : ∀ i, i ≠ k → B2 i = B i) : (wsl b dA I A B P).set k (b + k, .inl (dA t.1, t.2, .inr (.inl g))) = wsl b dA I A B2 P :=
  wsl_set (ash_lt ha) (by rw [ce_arr ha, if_pos ht, h1]) (fun i hi => ce_congr rfl rfl (h2 i hi) rfl)
end WL
end
section
/-! the machine's own judgement, and that it obeys the small machine: part 1, words -/
def tys (dA : Nat → ClassId) : List (ClassId × FieldType) := [(dA 0, .int), (dA 1, .long), (dA 2, .byte), (dA 3, .boolean), (dA 4, .object "ValueDays$Script"), (dA 5, .array .int)]
def Af (b : Nat) : Nat → Prop := fun q => b ≤ q
def Lok (b : Nat) (tS : Nat → Value) (ls : Array Slot) (L : List Value) : Prop := ls.size = L.length ∧ lv_wf ls ∧ ∀ (j : Nat) (v : Value), L[j]? = some v → (∀ f, v ≠ .float f) → ls[j]? = some (.val (tr b tS v))
/-- what lies outside the store: the script, the texts, two statics -/
def Out (b : Nat) (tS : Nat → Value) (i9 : Int32) (a9 : Nat → Int32) (s : State) : Prop :=
  (∀ n, n ≠ 999 → ∃ a, tS n = .ref a) ∧
  (∃ sb : Nat, tS 0 = .ref sb ∧ sb < b ∧ va_X sb i9.toNatClampNeg a9 s s.heap ∧ Int32.ofNat i9.toNatClampNeg = i9) ∧
  (∃ adK adV : Nat → Nat, (∀ i, i < 14 → tS (1 + i) = .ref (adK i) ∧ tS (101 + i) = .ref (adV i)) ∧ vk_S 14 ((List.range 14).map (fun i => (tx i).length)) ((List.range 14).map tx) adK adV (Af b) s s.heap ∧ ∀ q ∈ mST, ∃ t, vk_R (nth "" mOW q.1) q.2.1 t (adK q.2.2) s) ∧
  va_Z "java/lang/String" "COMPACT_STRINGS" "Z" (.int 1) (Af b) s s.heap ∧
  va_Z "jdk/internal/util/Preconditions" "SIOOBE_FORMATTER" "Ljava/util/function/BiFunction;" (tS 999) (Af b) s s.heap ∧ (tS 999 = .null ∨ ∃ a, tS 999 = .ref a)
def Sx (b : Nat) (tS : Nat → Value) (D : va_G) (dA : Nat → ClassId) (i9 : Int32) (a9 : Nat → Int32) (s : State) : Prop := b ≤ s.heap.size ∧ va_K D vwCl (tys dA) s ∧ Out b tS i9 a9 s
def Wl (b : Nat) (D : va_G) (dA : Nat → ClassId) (i9 : Int32) (a9 : Nat → Int32) (I A : mI) (B : mB) (P : mP) (s : State) (H : Heap) (locs : List Loc) : Prop := va_P D vwCl (wsl b dA I A B P) H ∧ va_S (Af b) s.heap H locs ∧ I 900 0 = i9 ∧ A 900 = a9
def Cx (y : Nat) (p : Program) (RM : Room) (s : State) (m : MethodId) (args : Array Value) (c : Code) (cells slots : Nat) : Prop :=
  p.tables.exec = Jvm.exec ∧ c.code = mCd y ∧ c.maxLocals = mMl y ∧ s.vm.findClass (mNm y).cls = some m.cls ∧ (∀ w ∈ mT, w.before args s = true) ∧ mRf y ≤ RM.frames ∧ mRl y ≤ RM.locals ∧ cells ≤ RM.cells ∧ slots ≤ RM.slots
def RetAt (y pc : Nat) (v : Option Value) : Prop := match v with
  | none => decode (mCd y) pc = .ok (.return_, 1) ∧ mRt y = none
  | some (.int x) => decode (mCd y) pc = .ok (.ireturn, 1) ∧ ∃ ty, mRt y = some ty ∧ narrow ty (.int x) = .int x
  | some (.long _) => decode (mCd y) pc = .ok (.lreturn, 1) ∧ mRt y = some .long
  | some (.ref _) => decode (mCd y) pc = .ok (.areturn, 1) ∧ ∃ rt, mRt y = some rt ∧ ((∃ n, rt = .object n) ∨ ∃ t, rt = .array t)
  | some .null => decode (mCd y) pc = .ok (.areturn, 1) ∧ ∃ rt, mRt y = some rt ∧ ((∃ n, rt = .object n) ∨ ∃ t, rt = .array t)
  | _ => False
section SND
variable (l : Launch) (b : Nat) (tS : Nat → Value) (D : va_G) (dA : Nat → ClassId) (i9 : Int32) (a9 : Nat → Int32)
def RetC (y : Nat) (R : mR) (p : Program) (e : Env) (RM : Room) (s : State) (m : MethodId) (ar : Array Value) (below : List Frame) (meth : Method) (c : Code) (cells slots : Nat) (Q : State → Prop) : Prop :=
  ∀ (v : Option Value) (I A : mI) (B : mB) (P : mP) (H : Heap) (locs : List Loc) (pc : Nat) (ls : Array Slot), R v I A B P → Wl b D dA i9 a9 I A B P s H locs → RetAt y pc v → W p l e RM s m ar below meth c H locs cells slots Q (F0 m pc ls ((pushO v []).map (tr b tS)))
def mj : mJ := fun y pc L S I A B P R =>
  ∀ (p : Program) (e : Env) (RM : Room) (s : State) (m : MethodId) (ar : Array Value) (below : List Frame) (meth : Method) (c : Code) (H : Heap) (locs : List Loc) (cells slots : Nat) (Q : State → Prop) (ls : Array Slot),
    y < 379 → Cx y p RM s m ar c cells slots → Sx b tS D dA i9 a9 s → Wl b D dA i9 a9 I A B P s H locs → Lok b tS ls L → L.length = mMl y → RetC l b tS D dA i9 a9 y R p e RM s m ar below meth c cells slots Q →
    W p l e RM s m ar below meth c H locs cells slots Q (F0 m pc ls (S.map (tr b tS)))
end SND
/-! inversions -/
theorem popI_inv {S : List Value} {k : Int32 → List Value → Prop} (h : popI S k) : ∃ x S', S = .int x :: S' ∧ k x S' := by
  unfold popI at h
  split at h
  · exact ⟨_, _, rfl, h⟩
  · exact h.elim
theorem popL_inv {S : List Value} {k : Int64 → List Value → Prop} (h : popL S k) : ∃ x S', S = .long x :: S' ∧ k x S' := by
  unfold popL at h
  split at h
  · exact ⟨_, _, rfl, h⟩
  · exact h.elim
theorem popR_inv {S : List Value} {k : Nat → List Value → Prop} (h : popR S k) : ∃ x S', S = .ref x :: S' ∧ k x S' := by
  unfold popR at h
  split at h
  · exact ⟨_, _, rfl, h⟩
  · exact h.elim
theorem popV_inv {S : List Value} {k : Value → List Value → Prop} (h : popV S k) : ∃ x S', S = x :: S' ∧ k x S' := by
  unfold popV at h
  split at h
  · exact ⟨_, _, rfl, h⟩
  · exact h.elim
theorem isI_inv {v : Value} {k : Int32 → Prop} (h : isI v k) : ∃ x, v = .int x ∧ k x := by
  unfold isI at h
  split at h
  · exact ⟨_, rfl, h⟩
  · exact h.elim
theorem isL_inv {v : Value} {k : Int64 → Prop} (h : isL v k) : ∃ x, v = .long x ∧ k x := by
  unfold isL at h
  split at h
  · exact ⟨_, rfl, h⟩
  · exact h.elim
theorem isA_inv {v : Value} {k : Value → Prop} (h : isA v k) : ((∃ x, v = .ref x) ∨ v = .null ∨ (∃ x, v = .retAddr x ∧ x ≠ 999)) ∧ k v := by
  unfold isA at h
  split at h
  · exact ⟨Or.inl ⟨_, rfl⟩, h⟩
  · exact ⟨Or.inr (Or.inl rfl), h⟩
  · rename_i x
    cases hx : Nat.beq x 999 with
    | true => rw [hx] at h; exact h.elim
    | false => rw [hx] at h; exact ⟨Or.inr (Or.inr ⟨_, rfl, fun q => by rw [q] at hx; cases hx⟩), h⟩
  · exact h.elim
theorem isN_inv {v : Value} {k : Value → Prop} (h : isN v k) : ((∃ x, v = .ref x) ∨ v = .null) ∧ k v := by
  unfold isN at h
  split at h
  · exact ⟨Or.inl ⟨_, rfl⟩, h⟩
  · exact ⟨Or.inr rfl, h⟩
  · exact h.elim
theorem bif_inv {c : Bool} {p : Prop} (h : bif c then p else False) : c = true ∧ p := by
  cases c
  · exact h.elim
  · exact ⟨rfl, h⟩
theorem ld_inv {k : Value → Prop} : ∀ {L : List Value} {n : Nat}, ld k L n → ∃ v, L[n]? = some v ∧ k v
  | [], _, h => h.elim
  | v :: _, 0, h => ⟨v, rfl, h⟩
  | _ :: L, n + 1, h => by
    obtain ⟨v, h1, h2⟩ := ld_inv (L := L) (n := n) h
    exact ⟨v, by simpa using h1, h2⟩
theorem cut_inv {v : Value} {k : Value → Prop} (h : cut v k) : ∃ v', k v' ∧ (v' = .float 0 ∨ (v' = v ∧ v.category = 1)) := by
  unfold cut at h
  split at h
  · exact ⟨_, h, Or.inl rfl⟩
  · exact ⟨_, h, Or.inl rfl⟩
  · rename_i h1 h2
    refine ⟨_, h, Or.inr ⟨rfl, ?_⟩⟩
    cases v <;> first | rfl | exact absurd rfl (h1 _) | exact absurd rfl (h2 _)
/-- what a store of a value at place n leaves -/
def stoR (v : Value) (w n : Nat) (L L' : List Value) : Prop := L'.length = L.length ∧ n + w ≤ L.length ∧ L'[n]? = some v ∧ (w = 2 → L'[n + 1]? = some (.float 0)) ∧ ∀ j, j < n ∨ n + w ≤ j → L'[j]? = L[j]? ∧ (j + 1 = n → ∀ u, L[j]? = some u → u.category = 1) ∨ L'[j]? = some (.float 0)
theorem sto_inv {v : Value} : ∀ {L : List Value} {n : Nat} {k : List Value → Prop}, sto v L n k → ∃ L', k L' ∧ stoR v 1 n L L'
  | [], _, _, h => by simp [sto] at h
  | a :: L, 0, k, h => by
    have h : k (v :: L) := h
    refine ⟨_, h, by simp, by simp, by simp, by simp, fun j hj => Or.inl ⟨?_, fun e => by omega⟩⟩
    cases j with
    | zero => omega
    | succ j => simp
  | a :: a2 :: L, 1, k, h => by
    have h : cut a (fun a => k (a :: v :: L)) := h
    obtain ⟨a', h1, h2⟩ := cut_inv h
    refine ⟨_, h1, by simp, by simp, by simp, by simp, fun j hj => ?_⟩
    match j with
    | 0 =>
      rcases h2 with h2 | ⟨h2, h3⟩
      · exact Or.inr (by simp [h2])
      · exact Or.inl ⟨by simp [h2], fun _ u hu => by simp at hu; rw [← hu]; exact h3⟩
    | 1 => omega
    | j + 2 => exact Or.inl ⟨by simp, fun e => by omega⟩
  | [_], 1, _, h => by simp [sto] at h
  | a :: L, n + 2, k, h => by
    have h : sto v L (n + 1) (fun L => k (a :: L)) := by
      cases L <;> exact h
    obtain ⟨L', h1, r1, r2, r3, r4, r5⟩ := sto_inv h
    refine ⟨_, h1, by simp [r1], by simp; omega, by simpa using r3, by simp, fun j hj => ?_⟩
    cases j with
    | zero => exact Or.inl ⟨by simp, fun e => by omega⟩
    | succ j =>
      rcases r5 j (by omega) with ⟨q1, q2⟩ | q
      · exact Or.inl ⟨by simpa using q1, fun e u hu => q2 (by omega) u (by simpa using hu)⟩
      · exact Or.inr (by simpa using q)
theorem sto2_inv {v : Value} : ∀ {L : List Value} {n : Nat} {k : List Value → Prop}, sto2 v L n k → ∃ L', k L' ∧ stoR v 2 n L L'
  | [], 0, _, h => by simp [sto2] at h
  | [], 1, _, h => by simp [sto2] at h
  | [], _ + 2, _, h => by simp [sto2] at h
  | [_], 0, _, h => by simp [sto2] at h
  | [_], 1, _, h => by simp [sto2] at h
  | [_, _], 1, _, h => by simp [sto2] at h
  | a :: a2 :: L, 0, k, h => by
    have h : k (v :: .float 0 :: L) := h
    refine ⟨_, h, by simp, by simp, by simp, by simp, fun j hj => Or.inl ⟨?_, fun e => by omega⟩⟩
    match j with
    | 0 => omega
    | 1 => omega
    | j + 2 => simp
  | a :: a2 :: a3 :: L, 1, k, h => by
    have h : cut a (fun a => k (a :: v :: .float 0 :: L)) := h
    obtain ⟨a', h1, h2⟩ := cut_inv h
    refine ⟨_, h1, by simp, by simp, by simp, by simp, fun j hj => ?_⟩
    match j with
    | 0 =>
      rcases h2 with h2 | ⟨h2, h3⟩
      · exact Or.inr (by simp [h2])
      · exact Or.inl ⟨by simp [h2], fun _ u hu => by simp at hu; rw [← hu]; exact h3⟩
    | 1 => omega
    | 2 => omega
    | j + 3 => exact Or.inl ⟨by simp, fun e => by omega⟩
  | a :: L, n + 2, k, h => by
    have h : sto2 v L (n + 1) (fun L => k (a :: L)) := by
      match L, h with
      | [], h => exact h
      | [_], h => exact h
      | _ :: _ :: _, h => exact h
    obtain ⟨L', h1, r1, r2, r3, r4, r5⟩ := sto2_inv h
    refine ⟨_, h1, by simp [r1], by simp; omega, by simpa using r3, fun e => by simpa using r4 e, fun j hj => ?_⟩
    cases j with
    | zero => exact Or.inl ⟨by simp, fun e => by omega⟩
    | succ j =>
      rcases r5 j (by omega) with ⟨q1, q2⟩ | q
      · exact Or.inl ⟨by simpa using q1, fun e u hu => q2 (by omega) u (by simpa using hu)⟩
      · exact Or.inr (by simpa using q)
end
section
/-! the machine's own judgement obeys the small machine: part 2, an instruction a row (written by wip/whole/gen3.py) -/
section INS
variable {l : Launch} {b : Nat} {tS : Nat → Value} {D : va_G} {dA : Nat → ClassId} {i9 : Int32} {a9 : Nat → Int32} {y pc : Nat} {L S : List Value} {I A : mI} {B : mB} {P : mP} {R : mR}
def lokL (b : Nat) (tS : Nat → Value) (L : List Value) : List (Nat × Value) := (List.range L.length).filterMap (fun j => match (L[j]? : Option Value) with
  | some (Value.float _) => none
  | some v => some (j, tr b tS v)
  | none => none)
theorem lokL_mem {j : Nat} {v : Value} (h : L[j]? = some v) (hf : ∀ f, v ≠ .float f) : (j, tr b tS v) ∈ lokL b tS L := by
  refine List.mem_filterMap.mpr ⟨j, List.mem_range.mpr (List.getElem?_eq_some_iff.mp h).1, ?_⟩
  rw [h]
  cases v <;> first | rfl | exact absurd rfl (hf _)
theorem lok_has {ls : Array Slot} (lo : Lok b tS ls L) : lv_has ls L.length (lokL b tS L) := by
  refine ⟨lo.1, lo.2.1, fun q hq => ?_⟩
  obtain ⟨j, -, hj⟩ := List.mem_filterMap.mp hq
  cases hL : L[j]? with
  | none => rw [hL] at hj; cases hj
  | some v =>
    rw [hL] at hj
    have hv : ∀ f, v ≠ .float f := fun f q => by rw [q] at hj; cases hj
    have e : some (j, tr b tS v) = some q := by cases v <;> first | exact hj | exact absurd rfl (hv _)
    cases e
    exact lo.2.2 j v hL hv
theorem tr_cat (hc : ∀ n, (tS n).category = 1) (v : Value) : (tr b tS v).category = v.category := by
  cases v <;> first | rfl | exact hc _
theorem lok_sto {ls' : Array Slot} {nL n : Nat} {v : Value} {L' : List Value} (hc : ∀ n, (tS n).category = 1) (hn : L.length = nL) (h : stoR v 1 n L L') (hl : lv_has ls' nL ((n, tr b tS v) :: (lokL b tS L).filter (fun q => !(q.1 == n) && !(q.1 + 1 == n && q.2.category == 2)))) : Lok b tS ls' L' := by
  obtain ⟨r1, r2, r3, -, r5⟩ := h
  refine ⟨by rw [hl.1, r1, hn], hl.2.1, fun j u hj hf => ?_⟩
  by_cases e : j = n
  · subst e
    rw [r3] at hj
    cases hj
    exact hl.2.2 (j, tr b tS v) List.mem_cons_self
  · rcases r5 j (by omega) with ⟨q1, q2⟩ | q
    · rw [q1] at hj
      refine hl.2.2 (j, tr b tS u) (List.mem_cons_of_mem _ (List.mem_filter.mpr ⟨lokL_mem hj hf, ?_⟩))
      by_cases e2 : j + 1 = n
      · have := q2 e2 u hj
        simp [e, tr_cat hc, this]
      · simp [e, e2]
    · rw [q] at hj
      cases hj
      exact absurd rfl (hf 0)
theorem lok_sto2 {ls' : Array Slot} {nL n : Nat} {v : Value} {L' : List Value} (hc : ∀ n, (tS n).category = 1) (hn : L.length = nL) (h : stoR v 2 n L L') (hl : lv_has ls' nL ((n, tr b tS v) :: (lokL b tS L).filter (fun q => !(q.1 == n) && (!(q.1 == n + 1) && !(q.1 + 1 == n && q.2.category == 2))))) : Lok b tS ls' L' := by
  obtain ⟨r1, r2, r3, r4, r5⟩ := h
  refine ⟨by rw [hl.1, r1, hn], hl.2.1, fun j u hj hf => ?_⟩
  by_cases e : j = n
  · subst e
    rw [r3] at hj
    cases hj
    exact hl.2.2 (j, tr b tS v) List.mem_cons_self
  · by_cases e1 : j = n + 1
    · subst e1
      rw [r4 rfl] at hj
      cases hj
      exact absurd rfl (hf 0)
    · rcases r5 j (by omega) with ⟨q1, q2⟩ | q
      · rw [q1] at hj
        refine hl.2.2 (j, tr b tS u) (List.mem_cons_of_mem _ (List.mem_filter.mpr ⟨lokL_mem hj hf, ?_⟩))
        by_cases e2 : j + 1 = n
        · have := q2 e2 u hj
          simp [e, e1, tr_cat hc, this]
        · simp [e, e1, e2]
      · rw [q] at hj
        cases hj
        exact absurd rfl (hf 0)
theorem out_cat {s : State} (h : Out b tS i9 a9 s) : ∀ n, (tS n).category = 1 := by
  intro n
  by_cases e : n = 999
  · rw [e]
    rcases h.2.2.2.2.2 with q | ⟨a, q⟩ <;> rw [q] <;> rfl
  · obtain ⟨a, q⟩ := h.1 n e
    rw [q]
    rfl
theorem ms_iconst {n : Int} {v : Int32} (hd : decode (mCd y) pc = .ok (.iconst n, 1)) (hv : Int32.ofInt n = v) (h : mj l b tS D dA i9 a9 y (pc + 1) L (.int v :: S) I A B P R) : mj l b tS D dA i9 a9 y pc L S I A B P R := by
  intro p e RM s m ar below meth c H locs cells slots Q ls hy cx sx wl lo hll rk
  exact lv_iconst cx.1 cx.2.1 hd hv (h p e RM s m ar below meth c H locs cells slots Q ls hy cx sx wl lo hll rk)
theorem ms_bipush {n : Int} {v : Int32} (hd : decode (mCd y) pc = .ok (.bipush n, 2)) (hv : (Int8.ofInt n).toInt32 = v) (h : mj l b tS D dA i9 a9 y (pc + 2) L (.int v :: S) I A B P R) : mj l b tS D dA i9 a9 y pc L S I A B P R := by
  intro p e RM s m ar below meth c H locs cells slots Q ls hy cx sx wl lo hll rk
  exact lv_bipush cx.1 cx.2.1 hd hv (h p e RM s m ar below meth c H locs cells slots Q ls hy cx sx wl lo hll rk)
theorem ms_sipush {n : Int} {v : Int32} (hd : decode (mCd y) pc = .ok (.sipush n, 3)) (hv : (Int16.ofInt n).toInt32 = v) (h : mj l b tS D dA i9 a9 y (pc + 3) L (.int v :: S) I A B P R) : mj l b tS D dA i9 a9 y pc L S I A B P R := by
  intro p e RM s m ar below meth c H locs cells slots Q ls hy cx sx wl lo hll rk
  exact lv_sipush cx.1 cx.2.1 hd hv (h p e RM s m ar below meth c H locs cells slots Q ls hy cx sx wl lo hll rk)
theorem ms_lconst {n : Fin 2} {v : Int64} (hd : decode (mCd y) pc = .ok (.lconst n, 1)) (hv : Int64.ofNat (n : Nat) = v) (h : mj l b tS D dA i9 a9 y (pc + 1) L (.long v :: S) I A B P R) : mj l b tS D dA i9 a9 y pc L S I A B P R := by
  intro p e RM s m ar below meth c H locs cells slots Q ls hy cx sx wl lo hll rk
  exact lv_lconst cx.1 cx.2.1 hd hv (h p e RM s m ar below meth c H locs cells slots Q ls hy cx sx wl lo hll rk)
theorem ms_null (hd : decode (mCd y) pc = .ok (.aconst_null, 1)) (h : mj l b tS D dA i9 a9 y (pc + 1) L (.null :: S) I A B P R) : mj l b tS D dA i9 a9 y pc L S I A B P R := by
  intro p e RM s m ar below meth c H locs cells slots Q ls hy cx sx wl lo hll rk
  exact lv_null cx.1 cx.2.1 hd (h p e RM s m ar below meth c H locs cells slots Q ls hy cx sx wl lo hll rk)
theorem ms_ldc {n : Nat} {v : Int32} (hd : decode (mCd y) pc = .ok (.ldc n, 2)) (hw : Cond.constant (mNm y).cls n v ∈ mT) (h : mj l b tS D dA i9 a9 y (pc + 2) L (.int v :: S) I A B P R) : mj l b tS D dA i9 a9 y pc L S I A B P R := by
  intro p e RM s m ar below meth c H locs cells slots Q ls hy cx sx wl lo hll rk
  exact lv_ldc cx.1 cx.2.1 cx.2.2.2.1 (cx.2.2.2.2.1 _ hw) hd (h p e RM s m ar below meth c H locs cells slots Q ls hy cx sx wl lo hll rk)
theorem ms_ldcw {n : Nat} {v : Int32} (hd : decode (mCd y) pc = .ok (.ldc_w n, 3)) (hw : Cond.constant (mNm y).cls n v ∈ mT) (h : mj l b tS D dA i9 a9 y (pc + 3) L (.int v :: S) I A B P R) : mj l b tS D dA i9 a9 y pc L S I A B P R := by
  intro p e RM s m ar below meth c H locs cells slots Q ls hy cx sx wl lo hll rk
  exact lv_ldcw cx.1 cx.2.1 cx.2.2.2.1 (cx.2.2.2.2.1 _ hw) hd (h p e RM s m ar below meth c H locs cells slots Q ls hy cx sx wl lo hll rk)
theorem ms_ldc2 {n : Nat} {v : Int64} (hd : decode (mCd y) pc = .ok (.ldc2_w n, 3)) (hw : Cond.constantLong (mNm y).cls n v ∈ mT) (h : mj l b tS D dA i9 a9 y (pc + 3) L (.long v :: S) I A B P R) : mj l b tS D dA i9 a9 y pc L S I A B P R := by
  intro p e RM s m ar below meth c H locs cells slots Q ls hy cx sx wl lo hll rk
  exact lv_ldc2 cx.1 cx.2.1 cx.2.2.2.1 (cx.2.2.2.2.1 _ hw) hd (h p e RM s m ar below meth c H locs cells slots Q ls hy cx sx wl lo hll rk)
theorem ms_iload {n : Nat} {x : Int32} (hd : decode (mCd y) pc = .ok (.iload n, 2)) (hL : L[n]? = some (.int x)) (h : mj l b tS D dA i9 a9 y (pc + 2) L (.int x :: S) I A B P R) : mj l b tS D dA i9 a9 y pc L S I A B P R := by
  intro p e RM s m ar below meth c H locs cells slots Q ls hy cx sx wl lo hll rk
  exact lv_iload cx.1 cx.2.1 hd (lo.2.2 _ _ hL (fun f q => by cases q)) (h p e RM s m ar below meth c H locs cells slots Q ls hy cx sx wl lo hll rk)
theorem ms_iload_n {n : Fin 4} {x : Int32} (hd : decode (mCd y) pc = .ok (.iload_n n, 1)) (hL : L[n.val]? = some (.int x)) (h : mj l b tS D dA i9 a9 y (pc + 1) L (.int x :: S) I A B P R) : mj l b tS D dA i9 a9 y pc L S I A B P R := by
  intro p e RM s m ar below meth c H locs cells slots Q ls hy cx sx wl lo hll rk
  exact lv_iload_n cx.1 cx.2.1 hd rfl (lo.2.2 _ _ hL (fun f q => by cases q)) (h p e RM s m ar below meth c H locs cells slots Q ls hy cx sx wl lo hll rk)
theorem ms_lload {n : Nat} {x : Int64} (hd : decode (mCd y) pc = .ok (.lload n, 2)) (hL : L[n]? = some (.long x)) (h : mj l b tS D dA i9 a9 y (pc + 2) L (.long x :: S) I A B P R) : mj l b tS D dA i9 a9 y pc L S I A B P R := by
  intro p e RM s m ar below meth c H locs cells slots Q ls hy cx sx wl lo hll rk
  exact lv_lload cx.1 cx.2.1 hd (lo.2.2 _ _ hL (fun f q => by cases q)) (h p e RM s m ar below meth c H locs cells slots Q ls hy cx sx wl lo hll rk)
theorem ms_lload_n {n : Fin 4} {x : Int64} (hd : decode (mCd y) pc = .ok (.lload_n n, 1)) (hL : L[n.val]? = some (.long x)) (h : mj l b tS D dA i9 a9 y (pc + 1) L (.long x :: S) I A B P R) : mj l b tS D dA i9 a9 y pc L S I A B P R := by
  intro p e RM s m ar below meth c H locs cells slots Q ls hy cx sx wl lo hll rk
  exact lv_lload_n cx.1 cx.2.1 hd rfl (lo.2.2 _ _ hL (fun f q => by cases q)) (h p e RM s m ar below meth c H locs cells slots Q ls hy cx sx wl lo hll rk)
theorem ms_aload {n : Nat} {v : Value} (hd : decode (mCd y) pc = .ok (.aload n, 2)) (hL : L[n]? = some v) (hv : (∃ x, v = .ref x) ∨ v = .null ∨ (∃ x, v = .retAddr x ∧ x ≠ 999)) (h : mj l b tS D dA i9 a9 y (pc + 2) L (v :: S) I A B P R) : mj l b tS D dA i9 a9 y pc L S I A B P R := by
  intro p e RM s m ar below meth c H locs cells slots Q ls hy cx sx wl lo hll rk
  rcases hv with ⟨x, rfl⟩ | rfl | ⟨x, rfl, hx⟩
  · exact lv_aload cx.1 cx.2.1 hd (lo.2.2 _ _ hL (fun f q => by cases q)) (h p e RM s m ar below meth c H locs cells slots Q ls hy cx sx wl lo hll rk)
  · exact lv_aloadN cx.1 cx.2.1 hd (lo.2.2 _ _ hL (fun f q => by cases q)) (h p e RM s m ar below meth c H locs cells slots Q ls hy cx sx wl lo hll rk)
  · obtain ⟨a, ha⟩ := sx.2.2.1 x hx
    have hl : ls[n]? = some (.val (.ref a)) := by
      have := lo.2.2 _ _ hL (fun f q => by cases q)
      rwa [show tr b tS (.retAddr x) = .ref a from ha] at this
    refine lv_aload cx.1 cx.2.1 hd hl ?_
    have h1 := h p e RM s m ar below meth c H locs cells slots Q ls hy cx sx wl lo hll rk
    rwa [List.map_cons, show tr b tS (.retAddr x) = .ref a from ha] at h1
theorem ms_aload_n {n : Fin 4} {v : Value} (hd : decode (mCd y) pc = .ok (.aload_n n, 1)) (hL : L[n.val]? = some v) (hv : (∃ x, v = .ref x) ∨ v = .null ∨ (∃ x, v = .retAddr x ∧ x ≠ 999)) (h : mj l b tS D dA i9 a9 y (pc + 1) L (v :: S) I A B P R) : mj l b tS D dA i9 a9 y pc L S I A B P R := by
  intro p e RM s m ar below meth c H locs cells slots Q ls hy cx sx wl lo hll rk
  rcases hv with ⟨x, rfl⟩ | rfl | ⟨x, rfl, hx⟩
  · exact lv_aload_n cx.1 cx.2.1 hd rfl (lo.2.2 _ _ hL (fun f q => by cases q)) (h p e RM s m ar below meth c H locs cells slots Q ls hy cx sx wl lo hll rk)
  · exact lv_aload_nN cx.1 cx.2.1 hd rfl (lo.2.2 _ _ hL (fun f q => by cases q)) (h p e RM s m ar below meth c H locs cells slots Q ls hy cx sx wl lo hll rk)
  · obtain ⟨a, ha⟩ := sx.2.2.1 x hx
    have hl : ls[n.val]? = some (.val (.ref a)) := by
      have := lo.2.2 _ _ hL (fun f q => by cases q)
      rwa [show tr b tS (.retAddr x) = .ref a from ha] at this
    refine lv_aload_n cx.1 cx.2.1 hd rfl hl ?_
    have h1 := h p e RM s m ar below meth c H locs cells slots Q ls hy cx sx wl lo hll rk
    rwa [List.map_cons, show tr b tS (.retAddr x) = .ref a from ha] at h1
theorem ms_istore {n : Nat} {x : Int32} {L2 : List Value} (hd : decode (mCd y) pc = .ok (.istore n, 2)) (hs : stoR (.int x) 1 n L L2) (h : mj l b tS D dA i9 a9 y (pc + 2) L2 S I A B P R) : mj l b tS D dA i9 a9 y pc L (.int x :: S) I A B P R := by
  intro p e RM s m ar below meth c H locs cells slots Q ls hy cx sx wl lo hll rk
  refine lv_istore cx.1 cx.2.1 hd (lok_has lo) (by have := hs.2.1; omega) rfl (fun ls2 hl => ?_)
  exact h p e RM s m ar below meth c H locs cells slots Q ls2 hy cx sx wl (lok_sto (out_cat sx.2.2) rfl hs hl) (hs.1.trans hll) rk
theorem ms_istore_n {n : Fin 4} {x : Int32} {L2 : List Value} (hd : decode (mCd y) pc = .ok (.istore_n n, 1)) (hs : stoR (.int x) 1 n.val L L2) (h : mj l b tS D dA i9 a9 y (pc + 1) L2 S I A B P R) : mj l b tS D dA i9 a9 y pc L (.int x :: S) I A B P R := by
  intro p e RM s m ar below meth c H locs cells slots Q ls hy cx sx wl lo hll rk
  refine lv_istore_n cx.1 cx.2.1 hd rfl (lok_has lo) (by have := hs.2.1; omega) rfl (fun ls2 hl => ?_)
  exact h p e RM s m ar below meth c H locs cells slots Q ls2 hy cx sx wl (lok_sto (out_cat sx.2.2) rfl hs hl) (hs.1.trans hll) rk
theorem ms_lstore {n : Nat} {x : Int64} {L2 : List Value} (hd : decode (mCd y) pc = .ok (.lstore n, 2)) (hs : stoR (.long x) 2 n L L2) (h : mj l b tS D dA i9 a9 y (pc + 2) L2 S I A B P R) : mj l b tS D dA i9 a9 y pc L (.long x :: S) I A B P R := by
  intro p e RM s m ar below meth c H locs cells slots Q ls hy cx sx wl lo hll rk
  refine lv_lstore cx.1 cx.2.1 hd (lok_has lo) (by have := hs.2.1; omega) rfl (fun ls2 hl => ?_)
  exact h p e RM s m ar below meth c H locs cells slots Q ls2 hy cx sx wl (lok_sto2 (out_cat sx.2.2) rfl hs hl) (hs.1.trans hll) rk
theorem ms_lstore_n {n : Fin 4} {x : Int64} {L2 : List Value} (hd : decode (mCd y) pc = .ok (.lstore_n n, 1)) (hs : stoR (.long x) 2 n.val L L2) (h : mj l b tS D dA i9 a9 y (pc + 1) L2 S I A B P R) : mj l b tS D dA i9 a9 y pc L (.long x :: S) I A B P R := by
  intro p e RM s m ar below meth c H locs cells slots Q ls hy cx sx wl lo hll rk
  refine lv_lstore_n cx.1 cx.2.1 hd rfl (lok_has lo) (by have := hs.2.1; omega) rfl (fun ls2 hl => ?_)
  exact h p e RM s m ar below meth c H locs cells slots Q ls2 hy cx sx wl (lok_sto2 (out_cat sx.2.2) rfl hs hl) (hs.1.trans hll) rk
theorem ms_astore {n : Nat} {x : Nat} {L2 : List Value} (hd : decode (mCd y) pc = .ok (.astore n, 2)) (hs : stoR (.ref x) 1 n L L2) (h : mj l b tS D dA i9 a9 y (pc + 2) L2 S I A B P R) : mj l b tS D dA i9 a9 y pc L (.ref x :: S) I A B P R := by
  intro p e RM s m ar below meth c H locs cells slots Q ls hy cx sx wl lo hll rk
  refine lv_astore cx.1 cx.2.1 hd (lok_has lo) (by have := hs.2.1; omega) rfl (fun ls2 hl => ?_)
  exact h p e RM s m ar below meth c H locs cells slots Q ls2 hy cx sx wl (lok_sto (out_cat sx.2.2) rfl hs hl) (hs.1.trans hll) rk
theorem ms_astore_n {n : Fin 4} {x : Nat} {L2 : List Value} (hd : decode (mCd y) pc = .ok (.astore_n n, 1)) (hs : stoR (.ref x) 1 n.val L L2) (h : mj l b tS D dA i9 a9 y (pc + 1) L2 S I A B P R) : mj l b tS D dA i9 a9 y pc L (.ref x :: S) I A B P R := by
  intro p e RM s m ar below meth c H locs cells slots Q ls hy cx sx wl lo hll rk
  refine lv_astore_n cx.1 cx.2.1 hd rfl (lok_has lo) (by have := hs.2.1; omega) rfl (fun ls2 hl => ?_)
  exact h p e RM s m ar below meth c H locs cells slots Q ls2 hy cx sx wl (lok_sto (out_cat sx.2.2) rfl hs hl) (hs.1.trans hll) rk
theorem ms_astoreN {n : Nat} {L2 : List Value} (hd : decode (mCd y) pc = .ok (.astore n, 2)) (hs : stoR .null 1 n L L2) (h : mj l b tS D dA i9 a9 y (pc + 2) L2 S I A B P R) : mj l b tS D dA i9 a9 y pc L (.null :: S) I A B P R := by
  intro p e RM s m ar below meth c H locs cells slots Q ls hy cx sx wl lo hll rk
  refine lv_astoreN cx.1 cx.2.1 hd (lok_has lo) (by have := hs.2.1; omega) rfl (fun ls2 hl => ?_)
  exact h p e RM s m ar below meth c H locs cells slots Q ls2 hy cx sx wl (lok_sto (out_cat sx.2.2) rfl hs hl) (hs.1.trans hll) rk
theorem ms_astore_nN {n : Fin 4} {L2 : List Value} (hd : decode (mCd y) pc = .ok (.astore_n n, 1)) (hs : stoR .null 1 n.val L L2) (h : mj l b tS D dA i9 a9 y (pc + 1) L2 S I A B P R) : mj l b tS D dA i9 a9 y pc L (.null :: S) I A B P R := by
  intro p e RM s m ar below meth c H locs cells slots Q ls hy cx sx wl lo hll rk
  refine lv_astore_nN cx.1 cx.2.1 hd rfl (lok_has lo) (by have := hs.2.1; omega) rfl (fun ls2 hl => ?_)
  exact h p e RM s m ar below meth c H locs cells slots Q ls2 hy cx sx wl (lok_sto (out_cat sx.2.2) rfl hs hl) (hs.1.trans hll) rk
theorem ms_iinc {n : Nat} {d : Int} {x v : Int32} {L2 : List Value} (hd : decode (mCd y) pc = .ok (.iinc n d, 3)) (hL : L[n]? = some (.int x)) (hv : x + Int32.ofInt d = v) (hs : stoR (.int v) 1 n L L2) (h : mj l b tS D dA i9 a9 y (pc + 3) L2 S I A B P R) : mj l b tS D dA i9 a9 y pc L S I A B P R := by
  intro p e RM s m ar below meth c H locs cells slots Q ls hy cx sx wl lo hll rk
  obtain ⟨k, hk⟩ := List.getElem?_of_mem (lokL_mem (b := b) (tS := tS) hL (fun f q => by cases q))
  refine lv_iinc (k := k) (v := v) cx.1 cx.2.1 hd (lok_has lo) hk hv (by have := hs.2.1; omega) rfl (fun ls2 hl => ?_)
  exact h p e RM s m ar below meth c H locs cells slots Q ls2 hy cx sx wl (lok_sto (out_cat sx.2.2) rfl hs hl) (hs.1.trans hll) rk
theorem ms_iadd {x z : Int32} (hd : decode (mCd y) pc = .ok (.iadd, 1)) (h : mj l b tS D dA i9 a9 y (pc + 1) L (.int (x + z) :: S) I A B P R) : mj l b tS D dA i9 a9 y pc L (.int z :: .int x :: S) I A B P R := by
  intro p e RM s m ar below meth c H locs cells slots Q ls hy cx sx wl lo hll rk
  exact lv_iadd cx.1 cx.2.1 hd (h p e RM s m ar below meth c H locs cells slots Q ls hy cx sx wl lo hll rk)
theorem ms_isub {x z : Int32} (hd : decode (mCd y) pc = .ok (.isub, 1)) (h : mj l b tS D dA i9 a9 y (pc + 1) L (.int (x - z) :: S) I A B P R) : mj l b tS D dA i9 a9 y pc L (.int z :: .int x :: S) I A B P R := by
  intro p e RM s m ar below meth c H locs cells slots Q ls hy cx sx wl lo hll rk
  exact lv_isub cx.1 cx.2.1 hd (h p e RM s m ar below meth c H locs cells slots Q ls hy cx sx wl lo hll rk)
theorem ms_imul {x z : Int32} (hd : decode (mCd y) pc = .ok (.imul, 1)) (h : mj l b tS D dA i9 a9 y (pc + 1) L (.int (x * z) :: S) I A B P R) : mj l b tS D dA i9 a9 y pc L (.int z :: .int x :: S) I A B P R := by
  intro p e RM s m ar below meth c H locs cells slots Q ls hy cx sx wl lo hll rk
  exact lv_imul cx.1 cx.2.1 hd (h p e RM s m ar below meth c H locs cells slots Q ls hy cx sx wl lo hll rk)
theorem ms_iand {x z : Int32} (hd : decode (mCd y) pc = .ok (.iand, 1)) (h : mj l b tS D dA i9 a9 y (pc + 1) L (.int (x &&& z) :: S) I A B P R) : mj l b tS D dA i9 a9 y pc L (.int z :: .int x :: S) I A B P R := by
  intro p e RM s m ar below meth c H locs cells slots Q ls hy cx sx wl lo hll rk
  exact lv_iand cx.1 cx.2.1 hd (h p e RM s m ar below meth c H locs cells slots Q ls hy cx sx wl lo hll rk)
theorem ms_ishr {x z : Int32} (hd : decode (mCd y) pc = .ok (.ishr, 1)) (h : mj l b tS D dA i9 a9 y (pc + 1) L (.int (x >>> (z &&& 31)) :: S) I A B P R) : mj l b tS D dA i9 a9 y pc L (.int z :: .int x :: S) I A B P R := by
  intro p e RM s m ar below meth c H locs cells slots Q ls hy cx sx wl lo hll rk
  exact lv_ishr cx.1 cx.2.1 hd (h p e RM s m ar below meth c H locs cells slots Q ls hy cx sx wl lo hll rk)
theorem ms_idiv {x z : Int32} (hd : decode (mCd y) pc = .ok (.idiv, 1)) (hn : ¬ z = 0) (h : mj l b tS D dA i9 a9 y (pc + 1) L (.int (x / z) :: S) I A B P R) : mj l b tS D dA i9 a9 y pc L (.int z :: .int x :: S) I A B P R := by
  intro p e RM s m ar below meth c H locs cells slots Q ls hy cx sx wl lo hll rk
  exact lv_idiv cx.1 cx.2.1 hd hn (h p e RM s m ar below meth c H locs cells slots Q ls hy cx sx wl lo hll rk)
theorem ms_irem {x z : Int32} (hd : decode (mCd y) pc = .ok (.irem, 1)) (hn : ¬ z = 0) (h : mj l b tS D dA i9 a9 y (pc + 1) L (.int (x - x / z * z) :: S) I A B P R) : mj l b tS D dA i9 a9 y pc L (.int z :: .int x :: S) I A B P R := by
  intro p e RM s m ar below meth c H locs cells slots Q ls hy cx sx wl lo hll rk
  exact lv_irem cx.1 cx.2.1 hd hn (h p e RM s m ar below meth c H locs cells slots Q ls hy cx sx wl lo hll rk)
theorem ms_ladd {x z : Int64} (hd : decode (mCd y) pc = .ok (.ladd, 1)) (h : mj l b tS D dA i9 a9 y (pc + 1) L (.long (x + z) :: S) I A B P R) : mj l b tS D dA i9 a9 y pc L (.long z :: .long x :: S) I A B P R := by
  intro p e RM s m ar below meth c H locs cells slots Q ls hy cx sx wl lo hll rk
  exact lv_ladd cx.1 cx.2.1 hd (h p e RM s m ar below meth c H locs cells slots Q ls hy cx sx wl lo hll rk)
theorem ms_lsub {x z : Int64} (hd : decode (mCd y) pc = .ok (.lsub, 1)) (h : mj l b tS D dA i9 a9 y (pc + 1) L (.long (x - z) :: S) I A B P R) : mj l b tS D dA i9 a9 y pc L (.long z :: .long x :: S) I A B P R := by
  intro p e RM s m ar below meth c H locs cells slots Q ls hy cx sx wl lo hll rk
  exact lv_lsub cx.1 cx.2.1 hd (h p e RM s m ar below meth c H locs cells slots Q ls hy cx sx wl lo hll rk)
theorem ms_lmul {x z : Int64} (hd : decode (mCd y) pc = .ok (.lmul, 1)) (h : mj l b tS D dA i9 a9 y (pc + 1) L (.long (x * z) :: S) I A B P R) : mj l b tS D dA i9 a9 y pc L (.long z :: .long x :: S) I A B P R := by
  intro p e RM s m ar below meth c H locs cells slots Q ls hy cx sx wl lo hll rk
  exact lv_lmul cx.1 cx.2.1 hd (h p e RM s m ar below meth c H locs cells slots Q ls hy cx sx wl lo hll rk)
theorem ms_ldiv {x z : Int64} (hd : decode (mCd y) pc = .ok (.ldiv, 1)) (hn : ¬ z = 0) (h : mj l b tS D dA i9 a9 y (pc + 1) L (.long (x / z) :: S) I A B P R) : mj l b tS D dA i9 a9 y pc L (.long z :: .long x :: S) I A B P R := by
  intro p e RM s m ar below meth c H locs cells slots Q ls hy cx sx wl lo hll rk
  exact lv_ldiv cx.1 cx.2.1 hd hn (h p e RM s m ar below meth c H locs cells slots Q ls hy cx sx wl lo hll rk)
theorem ms_lrem {x z : Int64} (hd : decode (mCd y) pc = .ok (.lrem, 1)) (hn : ¬ z = 0) (h : mj l b tS D dA i9 a9 y (pc + 1) L (.long (x - x / z * z) :: S) I A B P R) : mj l b tS D dA i9 a9 y pc L (.long z :: .long x :: S) I A B P R := by
  intro p e RM s m ar below meth c H locs cells slots Q ls hy cx sx wl lo hll rk
  exact lv_lrem cx.1 cx.2.1 hd hn (h p e RM s m ar below meth c H locs cells slots Q ls hy cx sx wl lo hll rk)
theorem ms_lneg {x : Int64} (hd : decode (mCd y) pc = .ok (.lneg, 1)) (h : mj l b tS D dA i9 a9 y (pc + 1) L (.long (-x) :: S) I A B P R) : mj l b tS D dA i9 a9 y pc L (.long x :: S) I A B P R := by
  intro p e RM s m ar below meth c H locs cells slots Q ls hy cx sx wl lo hll rk
  exact lv_lneg cx.1 cx.2.1 hd (h p e RM s m ar below meth c H locs cells slots Q ls hy cx sx wl lo hll rk)
theorem ms_i2l {x : Int32} (hd : decode (mCd y) pc = .ok (.i2l, 1)) (h : mj l b tS D dA i9 a9 y (pc + 1) L (.long x.toInt64 :: S) I A B P R) : mj l b tS D dA i9 a9 y pc L (.int x :: S) I A B P R := by
  intro p e RM s m ar below meth c H locs cells slots Q ls hy cx sx wl lo hll rk
  exact lv_i2l cx.1 cx.2.1 hd rfl (h p e RM s m ar below meth c H locs cells slots Q ls hy cx sx wl lo hll rk)
theorem ms_l2i {x : Int64} (hd : decode (mCd y) pc = .ok (.l2i, 1)) (h : mj l b tS D dA i9 a9 y (pc + 1) L (.int x.toInt32 :: S) I A B P R) : mj l b tS D dA i9 a9 y pc L (.long x :: S) I A B P R := by
  intro p e RM s m ar below meth c H locs cells slots Q ls hy cx sx wl lo hll rk
  exact lv_l2i cx.1 cx.2.1 hd rfl (h p e RM s m ar below meth c H locs cells slots Q ls hy cx sx wl lo hll rk)
theorem ms_i2b {x : Int32} (hd : decode (mCd y) pc = .ok (.i2b, 1)) (h : mj l b tS D dA i9 a9 y (pc + 1) L (.int x.toInt8.toInt32 :: S) I A B P R) : mj l b tS D dA i9 a9 y pc L (.int x :: S) I A B P R := by
  intro p e RM s m ar below meth c H locs cells slots Q ls hy cx sx wl lo hll rk
  exact lv_i2b cx.1 cx.2.1 hd rfl (h p e RM s m ar below meth c H locs cells slots Q ls hy cx sx wl lo hll rk)
theorem ms_i2c {x : Int32} (hd : decode (mCd y) pc = .ok (.i2c, 1)) (h : mj l b tS D dA i9 a9 y (pc + 1) L (.int (x.toUInt32 % 65536).toInt32 :: S) I A B P R) : mj l b tS D dA i9 a9 y pc L (.int x :: S) I A B P R := by
  intro p e RM s m ar below meth c H locs cells slots Q ls hy cx sx wl lo hll rk
  exact lv_i2c cx.1 cx.2.1 hd rfl (h p e RM s m ar below meth c H locs cells slots Q ls hy cx sx wl lo hll rk)
theorem ms_dup {v : Value} (hd : decode (mCd y) pc = .ok (.dup, 1)) (hv : v.category = 1) (h : mj l b tS D dA i9 a9 y (pc + 1) L (v :: v :: S) I A B P R) : mj l b tS D dA i9 a9 y pc L (v :: S) I A B P R := by
  intro p e RM s m ar below meth c H locs cells slots Q ls hy cx sx wl lo hll rk
  exact lv_dup cx.1 cx.2.1 hd ((tr_cat (out_cat sx.2.2) v).trans hv) (h p e RM s m ar below meth c H locs cells slots Q ls hy cx sx wl lo hll rk)
theorem ms_dup2 {x : Int32} {k : Nat} (hd : decode (mCd y) pc = .ok (.dup2, 1)) (h : mj l b tS D dA i9 a9 y (pc + 1) L (.int x :: .ref k :: .int x :: .ref k :: S) I A B P R) : mj l b tS D dA i9 a9 y pc L (.int x :: .ref k :: S) I A B P R := by
  intro p e RM s m ar below meth c H locs cells slots Q ls hy cx sx wl lo hll rk
  exact lv_dup2_11 cx.1 cx.2.1 hd rfl rfl (h p e RM s m ar below meth c H locs cells slots Q ls hy cx sx wl lo hll rk)
theorem ms_pop {x : Int32} (hd : decode (mCd y) pc = .ok (.pop, 1)) (h : mj l b tS D dA i9 a9 y (pc + 1) L S I A B P R) : mj l b tS D dA i9 a9 y pc L (.int x :: S) I A B P R := by
  intro p e RM s m ar below meth c H locs cells slots Q ls hy cx sx wl lo hll rk
  exact lv_pop cx.1 cx.2.1 hd rfl (h p e RM s m ar below meth c H locs cells slots Q ls hy cx sx wl lo hll rk)
theorem ms_pop2 {x : Int64} (hd : decode (mCd y) pc = .ok (.pop2, 1)) (h : mj l b tS D dA i9 a9 y (pc + 1) L S I A B P R) : mj l b tS D dA i9 a9 y pc L (.long x :: S) I A B P R := by
  intro p e RM s m ar below meth c H locs cells slots Q ls hy cx sx wl lo hll rk
  exact lv_pop2_2 cx.1 cx.2.1 hd rfl (h p e RM s m ar below meth c H locs cells slots Q ls hy cx sx wl lo hll rk)
theorem ms_goto {off : Int} {tg : Nat} (hd : decode (mCd y) pc = .ok (.goto off, 3)) (ht : (pc : Int) + off = (tg : Int)) (h : mj l b tS D dA i9 a9 y tg L S I A B P R) : mj l b tS D dA i9 a9 y pc L S I A B P R := by
  intro p e RM s m ar below meth c H locs cells slots Q ls hy cx sx wl lo hll rk
  exact lv_goto cx.1 cx.2.1 hd ht (h p e RM s m ar below meth c H locs cells slots Q ls hy cx sx wl lo hll rk)
theorem ms_if_eq {x : Int32} {off : Int} {tg : Nat} (hd : decode (mCd y) pc = .ok (.ifCond .eq off, 3)) (ht : (pc : Int) + off = (tg : Int)) (h : (x = 0 → mj l b tS D dA i9 a9 y tg L S I A B P R) ∧ (¬ x = 0 → mj l b tS D dA i9 a9 y (pc + 3) L S I A B P R)) : mj l b tS D dA i9 a9 y pc L (.int x :: S) I A B P R := by
  intro p e RM s m ar below meth c H locs cells slots Q ls hy cx sx wl lo hll rk
  exact lv_if_eq cx.1 cx.2.1 hd ht (fun q => h.1 q p e RM s m ar below meth c H locs cells slots Q ls hy cx sx wl lo hll rk) (fun q => h.2 q p e RM s m ar below meth c H locs cells slots Q ls hy cx sx wl lo hll rk)
theorem ms_icmp_eq {x z : Int32} {off : Int} {tg : Nat} (hd : decode (mCd y) pc = .ok (.if_icmp .eq off, 3)) (ht : (pc : Int) + off = (tg : Int)) (h : (x = z → mj l b tS D dA i9 a9 y tg L S I A B P R) ∧ (¬ x = z → mj l b tS D dA i9 a9 y (pc + 3) L S I A B P R)) : mj l b tS D dA i9 a9 y pc L (.int z :: .int x :: S) I A B P R := by
  intro p e RM s m ar below meth c H locs cells slots Q ls hy cx sx wl lo hll rk
  exact lv_icmp_eq cx.1 cx.2.1 hd ht (fun q => h.1 q p e RM s m ar below meth c H locs cells slots Q ls hy cx sx wl lo hll rk) (fun q => h.2 q p e RM s m ar below meth c H locs cells slots Q ls hy cx sx wl lo hll rk)
theorem ms_if_ne {x : Int32} {off : Int} {tg : Nat} (hd : decode (mCd y) pc = .ok (.ifCond .ne off, 3)) (ht : (pc : Int) + off = (tg : Int)) (h : (¬ x = 0 → mj l b tS D dA i9 a9 y tg L S I A B P R) ∧ (x = 0 → mj l b tS D dA i9 a9 y (pc + 3) L S I A B P R)) : mj l b tS D dA i9 a9 y pc L (.int x :: S) I A B P R := by
  intro p e RM s m ar below meth c H locs cells slots Q ls hy cx sx wl lo hll rk
  exact lv_if_ne cx.1 cx.2.1 hd ht (fun q => h.1 q p e RM s m ar below meth c H locs cells slots Q ls hy cx sx wl lo hll rk) (fun q => h.2 q p e RM s m ar below meth c H locs cells slots Q ls hy cx sx wl lo hll rk)
theorem ms_icmp_ne {x z : Int32} {off : Int} {tg : Nat} (hd : decode (mCd y) pc = .ok (.if_icmp .ne off, 3)) (ht : (pc : Int) + off = (tg : Int)) (h : (¬ x = z → mj l b tS D dA i9 a9 y tg L S I A B P R) ∧ (x = z → mj l b tS D dA i9 a9 y (pc + 3) L S I A B P R)) : mj l b tS D dA i9 a9 y pc L (.int z :: .int x :: S) I A B P R := by
  intro p e RM s m ar below meth c H locs cells slots Q ls hy cx sx wl lo hll rk
  exact lv_icmp_ne cx.1 cx.2.1 hd ht (fun q => h.1 q p e RM s m ar below meth c H locs cells slots Q ls hy cx sx wl lo hll rk) (fun q => h.2 q p e RM s m ar below meth c H locs cells slots Q ls hy cx sx wl lo hll rk)
theorem ms_if_lt {x : Int32} {off : Int} {tg : Nat} (hd : decode (mCd y) pc = .ok (.ifCond .lt off, 3)) (ht : (pc : Int) + off = (tg : Int)) (h : (x < 0 → mj l b tS D dA i9 a9 y tg L S I A B P R) ∧ (¬ x < 0 → mj l b tS D dA i9 a9 y (pc + 3) L S I A B P R)) : mj l b tS D dA i9 a9 y pc L (.int x :: S) I A B P R := by
  intro p e RM s m ar below meth c H locs cells slots Q ls hy cx sx wl lo hll rk
  exact lv_if_lt cx.1 cx.2.1 hd ht (fun q => h.1 q p e RM s m ar below meth c H locs cells slots Q ls hy cx sx wl lo hll rk) (fun q => h.2 q p e RM s m ar below meth c H locs cells slots Q ls hy cx sx wl lo hll rk)
theorem ms_icmp_lt {x z : Int32} {off : Int} {tg : Nat} (hd : decode (mCd y) pc = .ok (.if_icmp .lt off, 3)) (ht : (pc : Int) + off = (tg : Int)) (h : (x < z → mj l b tS D dA i9 a9 y tg L S I A B P R) ∧ (¬ x < z → mj l b tS D dA i9 a9 y (pc + 3) L S I A B P R)) : mj l b tS D dA i9 a9 y pc L (.int z :: .int x :: S) I A B P R := by
  intro p e RM s m ar below meth c H locs cells slots Q ls hy cx sx wl lo hll rk
  exact lv_icmp_lt cx.1 cx.2.1 hd ht (fun q => h.1 q p e RM s m ar below meth c H locs cells slots Q ls hy cx sx wl lo hll rk) (fun q => h.2 q p e RM s m ar below meth c H locs cells slots Q ls hy cx sx wl lo hll rk)
theorem ms_if_ge {x : Int32} {off : Int} {tg : Nat} (hd : decode (mCd y) pc = .ok (.ifCond .ge off, 3)) (ht : (pc : Int) + off = (tg : Int)) (h : (0 ≤ x → mj l b tS D dA i9 a9 y tg L S I A B P R) ∧ (¬ 0 ≤ x → mj l b tS D dA i9 a9 y (pc + 3) L S I A B P R)) : mj l b tS D dA i9 a9 y pc L (.int x :: S) I A B P R := by
  intro p e RM s m ar below meth c H locs cells slots Q ls hy cx sx wl lo hll rk
  exact lv_if_ge cx.1 cx.2.1 hd ht (fun q => h.1 q p e RM s m ar below meth c H locs cells slots Q ls hy cx sx wl lo hll rk) (fun q => h.2 q p e RM s m ar below meth c H locs cells slots Q ls hy cx sx wl lo hll rk)
theorem ms_icmp_ge {x z : Int32} {off : Int} {tg : Nat} (hd : decode (mCd y) pc = .ok (.if_icmp .ge off, 3)) (ht : (pc : Int) + off = (tg : Int)) (h : (z ≤ x → mj l b tS D dA i9 a9 y tg L S I A B P R) ∧ (¬ z ≤ x → mj l b tS D dA i9 a9 y (pc + 3) L S I A B P R)) : mj l b tS D dA i9 a9 y pc L (.int z :: .int x :: S) I A B P R := by
  intro p e RM s m ar below meth c H locs cells slots Q ls hy cx sx wl lo hll rk
  exact lv_icmp_ge cx.1 cx.2.1 hd ht (fun q => h.1 q p e RM s m ar below meth c H locs cells slots Q ls hy cx sx wl lo hll rk) (fun q => h.2 q p e RM s m ar below meth c H locs cells slots Q ls hy cx sx wl lo hll rk)
theorem ms_if_gt {x : Int32} {off : Int} {tg : Nat} (hd : decode (mCd y) pc = .ok (.ifCond .gt off, 3)) (ht : (pc : Int) + off = (tg : Int)) (h : (0 < x → mj l b tS D dA i9 a9 y tg L S I A B P R) ∧ (¬ 0 < x → mj l b tS D dA i9 a9 y (pc + 3) L S I A B P R)) : mj l b tS D dA i9 a9 y pc L (.int x :: S) I A B P R := by
  intro p e RM s m ar below meth c H locs cells slots Q ls hy cx sx wl lo hll rk
  exact lv_if_gt cx.1 cx.2.1 hd ht (fun q => h.1 q p e RM s m ar below meth c H locs cells slots Q ls hy cx sx wl lo hll rk) (fun q => h.2 q p e RM s m ar below meth c H locs cells slots Q ls hy cx sx wl lo hll rk)
theorem ms_icmp_gt {x z : Int32} {off : Int} {tg : Nat} (hd : decode (mCd y) pc = .ok (.if_icmp .gt off, 3)) (ht : (pc : Int) + off = (tg : Int)) (h : (z < x → mj l b tS D dA i9 a9 y tg L S I A B P R) ∧ (¬ z < x → mj l b tS D dA i9 a9 y (pc + 3) L S I A B P R)) : mj l b tS D dA i9 a9 y pc L (.int z :: .int x :: S) I A B P R := by
  intro p e RM s m ar below meth c H locs cells slots Q ls hy cx sx wl lo hll rk
  exact lv_icmp_gt cx.1 cx.2.1 hd ht (fun q => h.1 q p e RM s m ar below meth c H locs cells slots Q ls hy cx sx wl lo hll rk) (fun q => h.2 q p e RM s m ar below meth c H locs cells slots Q ls hy cx sx wl lo hll rk)
theorem ms_if_le {x : Int32} {off : Int} {tg : Nat} (hd : decode (mCd y) pc = .ok (.ifCond .le off, 3)) (ht : (pc : Int) + off = (tg : Int)) (h : (x ≤ 0 → mj l b tS D dA i9 a9 y tg L S I A B P R) ∧ (¬ x ≤ 0 → mj l b tS D dA i9 a9 y (pc + 3) L S I A B P R)) : mj l b tS D dA i9 a9 y pc L (.int x :: S) I A B P R := by
  intro p e RM s m ar below meth c H locs cells slots Q ls hy cx sx wl lo hll rk
  exact lv_if_le cx.1 cx.2.1 hd ht (fun q => h.1 q p e RM s m ar below meth c H locs cells slots Q ls hy cx sx wl lo hll rk) (fun q => h.2 q p e RM s m ar below meth c H locs cells slots Q ls hy cx sx wl lo hll rk)
theorem ms_icmp_le {x z : Int32} {off : Int} {tg : Nat} (hd : decode (mCd y) pc = .ok (.if_icmp .le off, 3)) (ht : (pc : Int) + off = (tg : Int)) (h : (x ≤ z → mj l b tS D dA i9 a9 y tg L S I A B P R) ∧ (¬ x ≤ z → mj l b tS D dA i9 a9 y (pc + 3) L S I A B P R)) : mj l b tS D dA i9 a9 y pc L (.int z :: .int x :: S) I A B P R := by
  intro p e RM s m ar below meth c H locs cells slots Q ls hy cx sx wl lo hll rk
  exact lv_icmp_le cx.1 cx.2.1 hd ht (fun q => h.1 q p e RM s m ar below meth c H locs cells slots Q ls hy cx sx wl lo hll rk) (fun q => h.2 q p e RM s m ar below meth c H locs cells slots Q ls hy cx sx wl lo hll rk)
theorem lgc_eq (x z : Int64) : lg_cmp x z = 0 ↔ x = z := by
  unfold lg_cmp
  by_cases h1 : z < x
  · simp [h1]
    exact fun q => by rw [q] at h1; exact absurd h1 Int64.lt_irrefl
  · by_cases h2 : x = z <;> simp [h1, h2]
theorem lgc_lt (x z : Int64) : lg_cmp x z < 0 ↔ x < z := by
  have h0 : ¬ (1 : Int32) < 0 := by decide
  have h3 : ¬ (0 : Int32) < 0 := by decide
  have h4 : (-1 : Int32) < 0 := by decide
  unfold lg_cmp
  by_cases h1 : z < x
  · simp only [h1, if_true]
    exact ⟨fun q => absurd q h0, fun q => absurd (Int64.lt_trans h1 q) Int64.lt_irrefl⟩
  · by_cases h2 : x = z
    · subst h2
      simp only [h1, if_false, if_true]
      exact ⟨fun q => absurd q h3, fun q => absurd q (by simp)⟩
    · simp only [h1, h2, if_false]
      refine ⟨fun _ => ?_, fun _ => h4⟩
      have := Int64.not_lt.mp h1
      exact Int64.lt_of_le_of_ne this h2
theorem lgc_gt (x z : Int64) : 0 < lg_cmp x z ↔ z < x := by
  have h0 : (0 : Int32) < 1 := by decide
  have h3 : ¬ (0 : Int32) < 0 := by decide
  have h4 : ¬ (0 : Int32) < -1 := by decide
  unfold lg_cmp
  by_cases h1 : z < x
  · simp only [h1, if_true]
    exact ⟨fun _ => trivial, fun _ => h0⟩
  · by_cases h2 : x = z
    · subst h2
      simp only [h1, if_false, if_true]
      exact ⟨fun q => absurd q h3, fun q => q.elim⟩
    · simp only [h1, h2, if_false]
      exact ⟨fun q => absurd q h4, fun q => q.elim⟩
theorem lgc_ge (x z : Int64) : 0 ≤ lg_cmp x z ↔ z ≤ x := by
  rw [← Int32.not_lt, lgc_lt, Int64.not_lt]
theorem lgc_le (x z : Int64) : lg_cmp x z ≤ 0 ↔ x ≤ z := by
  rw [← Int32.not_lt, lgc_gt, Int64.not_lt]
theorem ms_lcmp_eq {x z : Int64} {off : Int} {tg : Nat} (hd0 : decode (mCd y) pc = .ok (.lcmp, 1)) (hd : decode (mCd y) (pc + 1) = .ok (.ifCond .eq off, 3)) (ht : ((pc + 1 : Nat) : Int) + off = (tg : Int)) (h : (x = z → mj l b tS D dA i9 a9 y tg L S I A B P R) ∧ (¬ x = z → mj l b tS D dA i9 a9 y (pc + 4) L S I A B P R)) : mj l b tS D dA i9 a9 y pc L (.long z :: .long x :: S) I A B P R := by
  intro p e RM s m ar below meth c H locs cells slots Q ls hy cx sx wl lo hll rk
  refine W.lcmp cx.1 cx.2.1 hd0 ?_
  exact lv_if_eq cx.1 cx.2.1 hd ht (fun q => h.1 ((lgc_eq x z).mp q) p e RM s m ar below meth c H locs cells slots Q ls hy cx sx wl lo hll rk) (fun q => h.2 (fun e => q ((lgc_eq x z).mpr e)) p e RM s m ar below meth c H locs cells slots Q ls hy cx sx wl lo hll rk)
theorem ms_lcmp_ne {x z : Int64} {off : Int} {tg : Nat} (hd0 : decode (mCd y) pc = .ok (.lcmp, 1)) (hd : decode (mCd y) (pc + 1) = .ok (.ifCond .ne off, 3)) (ht : ((pc + 1 : Nat) : Int) + off = (tg : Int)) (h : (¬ x = z → mj l b tS D dA i9 a9 y tg L S I A B P R) ∧ (x = z → mj l b tS D dA i9 a9 y (pc + 4) L S I A B P R)) : mj l b tS D dA i9 a9 y pc L (.long z :: .long x :: S) I A B P R := by
  intro p e RM s m ar below meth c H locs cells slots Q ls hy cx sx wl lo hll rk
  refine W.lcmp cx.1 cx.2.1 hd0 ?_
  exact lv_if_ne cx.1 cx.2.1 hd ht (fun q => h.1 (fun e => q ((lgc_eq x z).mpr e)) p e RM s m ar below meth c H locs cells slots Q ls hy cx sx wl lo hll rk) (fun q => h.2 ((lgc_eq x z).mp q) p e RM s m ar below meth c H locs cells slots Q ls hy cx sx wl lo hll rk)
theorem ms_lcmp_lt {x z : Int64} {off : Int} {tg : Nat} (hd0 : decode (mCd y) pc = .ok (.lcmp, 1)) (hd : decode (mCd y) (pc + 1) = .ok (.ifCond .lt off, 3)) (ht : ((pc + 1 : Nat) : Int) + off = (tg : Int)) (h : (x < z → mj l b tS D dA i9 a9 y tg L S I A B P R) ∧ (¬ x < z → mj l b tS D dA i9 a9 y (pc + 4) L S I A B P R)) : mj l b tS D dA i9 a9 y pc L (.long z :: .long x :: S) I A B P R := by
  intro p e RM s m ar below meth c H locs cells slots Q ls hy cx sx wl lo hll rk
  refine W.lcmp cx.1 cx.2.1 hd0 ?_
  exact lv_if_lt cx.1 cx.2.1 hd ht (fun q => h.1 ((lgc_lt x z).mp q) p e RM s m ar below meth c H locs cells slots Q ls hy cx sx wl lo hll rk) (fun q => h.2 (fun e => q ((lgc_lt x z).mpr e)) p e RM s m ar below meth c H locs cells slots Q ls hy cx sx wl lo hll rk)
theorem ms_lcmp_ge {x z : Int64} {off : Int} {tg : Nat} (hd0 : decode (mCd y) pc = .ok (.lcmp, 1)) (hd : decode (mCd y) (pc + 1) = .ok (.ifCond .ge off, 3)) (ht : ((pc + 1 : Nat) : Int) + off = (tg : Int)) (h : (z ≤ x → mj l b tS D dA i9 a9 y tg L S I A B P R) ∧ (¬ z ≤ x → mj l b tS D dA i9 a9 y (pc + 4) L S I A B P R)) : mj l b tS D dA i9 a9 y pc L (.long z :: .long x :: S) I A B P R := by
  intro p e RM s m ar below meth c H locs cells slots Q ls hy cx sx wl lo hll rk
  refine W.lcmp cx.1 cx.2.1 hd0 ?_
  exact lv_if_ge cx.1 cx.2.1 hd ht (fun q => h.1 ((lgc_ge x z).mp q) p e RM s m ar below meth c H locs cells slots Q ls hy cx sx wl lo hll rk) (fun q => h.2 (fun e => q ((lgc_ge x z).mpr e)) p e RM s m ar below meth c H locs cells slots Q ls hy cx sx wl lo hll rk)
theorem ms_lcmp_gt {x z : Int64} {off : Int} {tg : Nat} (hd0 : decode (mCd y) pc = .ok (.lcmp, 1)) (hd : decode (mCd y) (pc + 1) = .ok (.ifCond .gt off, 3)) (ht : ((pc + 1 : Nat) : Int) + off = (tg : Int)) (h : (z < x → mj l b tS D dA i9 a9 y tg L S I A B P R) ∧ (¬ z < x → mj l b tS D dA i9 a9 y (pc + 4) L S I A B P R)) : mj l b tS D dA i9 a9 y pc L (.long z :: .long x :: S) I A B P R := by
  intro p e RM s m ar below meth c H locs cells slots Q ls hy cx sx wl lo hll rk
  refine W.lcmp cx.1 cx.2.1 hd0 ?_
  exact lv_if_gt cx.1 cx.2.1 hd ht (fun q => h.1 ((lgc_gt x z).mp q) p e RM s m ar below meth c H locs cells slots Q ls hy cx sx wl lo hll rk) (fun q => h.2 (fun e => q ((lgc_gt x z).mpr e)) p e RM s m ar below meth c H locs cells slots Q ls hy cx sx wl lo hll rk)
theorem ms_lcmp_le {x z : Int64} {off : Int} {tg : Nat} (hd0 : decode (mCd y) pc = .ok (.lcmp, 1)) (hd : decode (mCd y) (pc + 1) = .ok (.ifCond .le off, 3)) (ht : ((pc + 1 : Nat) : Int) + off = (tg : Int)) (h : (x ≤ z → mj l b tS D dA i9 a9 y tg L S I A B P R) ∧ (¬ x ≤ z → mj l b tS D dA i9 a9 y (pc + 4) L S I A B P R)) : mj l b tS D dA i9 a9 y pc L (.long z :: .long x :: S) I A B P R := by
  intro p e RM s m ar below meth c H locs cells slots Q ls hy cx sx wl lo hll rk
  refine W.lcmp cx.1 cx.2.1 hd0 ?_
  exact lv_if_le cx.1 cx.2.1 hd ht (fun q => h.1 ((lgc_le x z).mp q) p e RM s m ar below meth c H locs cells slots Q ls hy cx sx wl lo hll rk) (fun q => h.2 (fun e => q ((lgc_le x z).mpr e)) p e RM s m ar below meth c H locs cells slots Q ls hy cx sx wl lo hll rk)
theorem ms_ifnull {k : Nat} {off : Int} (hd : decode (mCd y) pc = .ok (.ifnull off, 3)) (h : mj l b tS D dA i9 a9 y (pc + 3) L S I A B P R) : mj l b tS D dA i9 a9 y pc L (.ref k :: S) I A B P R := by
  intro p e RM s m ar below meth c H locs cells slots Q ls hy cx sx wl lo hll rk
  exact lv_ifnull cx.1 cx.2.1 hd (h p e RM s m ar below meth c H locs cells slots Q ls hy cx sx wl lo hll rk)
theorem ms_ifnullN {off : Int} {tg : Nat} (hd : decode (mCd y) pc = .ok (.ifnull off, 3)) (ht : (pc : Int) + off = (tg : Int)) (h : mj l b tS D dA i9 a9 y tg L S I A B P R) : mj l b tS D dA i9 a9 y pc L (.null :: S) I A B P R := by
  intro p e RM s m ar below meth c H locs cells slots Q ls hy cx sx wl lo hll rk
  exact lv_ifnullN cx.1 cx.2.1 hd ht (h p e RM s m ar below meth c H locs cells slots Q ls hy cx sx wl lo hll rk)
theorem ms_ifnonnull {k : Nat} {off : Int} {tg : Nat} (hd : decode (mCd y) pc = .ok (.ifnonnull off, 3)) (ht : (pc : Int) + off = (tg : Int)) (h : mj l b tS D dA i9 a9 y tg L S I A B P R) : mj l b tS D dA i9 a9 y pc L (.ref k :: S) I A B P R := by
  intro p e RM s m ar below meth c H locs cells slots Q ls hy cx sx wl lo hll rk
  exact lv_ifnonnull cx.1 cx.2.1 hd ht (h p e RM s m ar below meth c H locs cells slots Q ls hy cx sx wl lo hll rk)
theorem ms_ifnonnullN {off : Int} (hd : decode (mCd y) pc = .ok (.ifnonnull off, 3)) (h : mj l b tS D dA i9 a9 y (pc + 3) L S I A B P R) : mj l b tS D dA i9 a9 y pc L (.null :: S) I A B P R := by
  intro p e RM s m ar below meth c H locs cells slots Q ls hy cx sx wl lo hll rk
  exact lv_ifnonnullN cx.1 cx.2.1 hd (h p e RM s m ar below meth c H locs cells slots Q ls hy cx sx wl lo hll rk)
end INS
end
section
/-! the machine's own judgement obeys the small machine: part 3, fields and arrays (written by wip/whole/gen4.py) -/
theorem uws_in : ∀ q ∈ vwCl, ∀ w ∈ u_ws q.1 q.2.1 q.2.2, w ∈ mT := by
  have h : ∀ q ∈ vwCl, ∀ w ∈ u_ws q.1 q.2.1 q.2.2, w ∈ lw_tbl ∧ goodWord w = true := by
    intro q hq
    simp only [vwCl, List.mem_cons, List.not_mem_nil, or_false] at hq
    rcases hq with rfl | rfl | rfl | rfl | rfl | rfl | rfl | rfl | rfl | rfl | rfl | rfl <;> decide +kernel
  exact fun q hq w hw => List.mem_filter.mpr (h q hq w hw)
def fkd : Option FieldType → Nat
  | some .int => 0
  | some .boolean => 2
  | some (.object _) => 1
  | some (.array _) => 1
  | _ => 9
theorem fsh_r : (List.range 12).all (fun c => match vwCl[c]? with
  | some q => (List.range q.2.2).all (fun j => Nat.beq (fkd (parseFieldDescriptor (q.2.1 j).2.2.1)) (fsh (c * 64 + j)))
  | none => true) = true := by decide +kernel
theorem cls_ty {c : Nat} {q : vw_C} (h : vwCl[c]? = some q) : (∃ ty0 : Nat → FieldType, ∀ k, k < q.2.2 → parseFieldDescriptor (q.2.1 k).2.2.1 = some (ty0 k)) ∧ ∀ a, a < q.2.2 → ∀ b, b < q.2.2 → a ≠ b → (q.2.1 a).2.1 ≠ (q.2.1 b).2.1 := by
  match c, h with
  | 0, h => cases h; exact ⟨⟨tyX0, tyX0_ok⟩, nmX0⟩
  | 1, h => cases h; exact ⟨⟨tyX1, tyX1_ok⟩, nmX1⟩
  | 2, h => cases h; exact ⟨⟨tyX2, tyX2_ok⟩, nmX2⟩
  | 3, h => cases h; exact ⟨⟨tyX3, tyX3_ok⟩, nmX3⟩
  | 4, h => cases h; exact ⟨⟨tyX4, tyX4_ok⟩, nmX4⟩
  | 5, h => cases h; exact ⟨⟨tyX5, tyX5_ok⟩, nmX5⟩
  | 6, h => cases h; exact ⟨⟨tyX6, tyX6_ok⟩, nmX6⟩
  | 7, h => cases h; exact ⟨⟨tyX7, tyX7_ok⟩, nmX7⟩
  | 8, h => cases h; exact ⟨⟨tyX8, tyX8_ok⟩, nmX8⟩
  | 9, h => cases h; exact ⟨⟨tyX9, tyX9_ok⟩, nmX9⟩
  | 10, h => cases h; exact ⟨⟨tyX10, tyX10_ok⟩, nmX10⟩
  | 11, h => cases h; exact ⟨⟨tyX11, tyX11_ok⟩, nmX11⟩
theorem vw_lt {c : Nat} {q : vw_C} (h : vwCl[c]? = some q) : c < 12 := (List.getElem?_eq_some_iff.mp h).1
theorem nfl_of {c : Nat} {q : vw_C} (h : vwCl[c]? = some q) : nfl c = q.2.2 := by simp only [nfl, h, Option.map_some, Option.getD_some]
theorem fsh_of {c j : Nat} {q : vw_C} (h : vwCl[c]? = some q) (hj : j < q.2.2) : fkd (parseFieldDescriptor (q.2.1 j).2.2.1) = fsh (c * 64 + j) := by
  have h1 := List.all_eq_true.mp fsh_r c (List.mem_range.mpr (vw_lt h))
  rw [h] at h1
  exact Nat.eq_of_beq_eq_true (List.all_eq_true.mp h1 j (List.mem_range.mpr hj))
/-- a field's link -/
def FL (y n c j : Nat) : Prop := ∃ q : vw_C, vwCl[c]? = some q ∧ j < q.2.2 ∧ (q.2.1 j).1 = q.1 ∧ Cond.fieldLink (mNm y).cls n q.1 (q.2.1 j).2.1 (q.2.1 j).2.2.1 ∈ mT
section INS2
variable {l : Launch} {b : Nat} {tS : Nat → Value} {D : va_G} {dA : Nat → ClassId} {i9 : Int32} {a9 : Nat → Int32} {y pc : Nat} {L S : List Value} {I A : mI} {B : mB} {P : mP} {R : mR}
theorem Wl_D {s : State} {H : Heap} {locs : List Loc} (_wl : Wl b D dA i9 a9 I A B P s H locs) : va_D (Af b) (wsl b dA I A B P) := wsl_D (fun _ h => h)
theorem ms_getI {n k ci j : Nat} (hd : decode (mCd y) pc = .ok (.getfield n, 3)) (hw : FL y n ci j) (hc : csh k = some ci) (hf : fsh (ci * 64 + j) = 0 ∨ fsh (ci * 64 + j) = 2) (h : mj l b tS D dA i9 a9 y (pc + 3) L (.int (I k j) :: S) I A B P R) : mj l b tS D dA i9 a9 y pc L (.ref k :: S) I A B P R := by
  intro p e RM s m ar below meth c H locs cells slots Q ls hy cx sx wl lo hll rk
  obtain ⟨⟨C, T, N⟩, h1, h2, h3, h4⟩ := hw
  refine va_get (C := C) (T := T) (N := N) (ref := C) (index := n) (ci := ci) cx.1 cx.2.1 cx.2.2.2.2.1 (uws_in _ (List.mem_of_getElem? h1)) cx.2.2.2.1 sx.2.1 wl.1 k (fs := flds b I P ci k) (by rw [wsl_at (csh_lt hc), ce_obj hc]) h1 j h2 (cx.2.2.2.2.1 _ h4) (fun x q => by rw [h3] at q; exact q) (v := .int (I k j)) ?_ hd (h p e RM s m ar below meth c H locs cells slots Q ls hy cx sx wl lo hll rk)
  rw [flds_get (by rw [nfl_of h1]; exact h2)]
  rcases hf with hf | hf <;> simp [fv, hf]
theorem ms_getP {n k ci j q : Nat} (hd : decode (mCd y) pc = .ok (.getfield n, 3)) (hw : FL y n ci j) (hc : csh k = some ci) (hf : fsh (ci * 64 + j) = 1) (hq : P k j = some q) (h : mj l b tS D dA i9 a9 y (pc + 3) L (.ref q :: S) I A B P R) : mj l b tS D dA i9 a9 y pc L (.ref k :: S) I A B P R := by
  intro p e RM s m ar below meth c H locs cells slots Q ls hy cx sx wl lo hll rk
  obtain ⟨⟨C, T, N⟩, h1, h2, h3, h4⟩ := hw
  refine va_get (C := C) (T := T) (N := N) (ref := C) (index := n) (ci := ci) cx.1 cx.2.1 cx.2.2.2.2.1 (uws_in _ (List.mem_of_getElem? h1)) cx.2.2.2.1 sx.2.1 wl.1 k (fs := flds b I P ci k) (by rw [wsl_at (csh_lt hc), ce_obj hc]) h1 j h2 (cx.2.2.2.2.1 _ h4) (fun x q => by rw [h3] at q; exact q) (v := .ref (b + q)) ?_ hd (h p e RM s m ar below meth c H locs cells slots Q ls hy cx sx wl lo hll rk)
  rw [flds_get (by rw [nfl_of h1]; exact h2)]
  simp [fv, hf, hq, va_rf]
theorem ms_putI {n k ci j : Nat} {x : Int32} (hd : decode (mCd y) pc = .ok (.putfield n, 3)) (hw : FL y n ci j) (hfin : (vwCl[ci]?).map (fun q => (q.2.1 j).2.2.2) = some false) (hc : csh k = some ci) (hf : fsh (ci * 64 + j) = 0) (h : mj l b tS D dA i9 a9 y (pc + 3) L S (up2 I k j x) A B P R) : mj l b tS D dA i9 a9 y pc L (.int x :: .ref k :: S) I A B P R := by
  intro p e RM s m ar below meth c H locs cells slots Q ls hy cx sx wl lo hll rk
  obtain ⟨⟨C, T, N⟩, h1, h2, h3, h4⟩ := hw
  obtain ⟨⟨ty0, hty⟩, hnm⟩ := cls_ty h1
  have hk1 := fsh_of h1 h2
  have hfn : (T j).2.2.2 = false := by
    have := hfin
    rw [h1] at this
    exact Option.some.inj this
  have hpd : parseFieldDescriptor (T j).2.2.1 = some .int := by
    rw [hf] at hk1
    revert hk1
    generalize parseFieldDescriptor (T j).2.2.1 = z
    intro hk1
    match z, hk1 with
    | some .int, _ => rfl
  refine va_put (C := C) (T := T) (N := N) (ref := C) (index := n) (ci := ci) cx.1 cx.2.1 cx.2.2.2.2.1 (uws_in _ (List.mem_of_getElem? h1)) ty0 hty hnm cx.2.2.2.1 sx.2.1 wl.1 (Wl_D wl) wl.2.1 k (fs := flds b I P ci k) (by rw [wsl_at (csh_lt hc), ce_obj hc]) h1 j h2 (cx.2.2.2.2.1 _ h4) (fun x q => by rw [h3] at q; exact q) hfn hpd (v := .int x) rfl rfl (by rw [flds_len, nfl_of h1]; exact h2) hd (fun H1 locs1 hP1 hD1 hS1 => ?_)
  rw [wsl_I hc (Or.inl hf) (by rw [nfl_of h1]; exact h2)] at hP1
  exact h p e RM s m ar below meth c H1 locs1 cells slots Q ls hy cx sx ⟨hP1, hS1, by rw [up2_row (n900 hc)]; exact wl.2.2.1, wl.2.2.2⟩ lo hll rk
theorem ms_putZ {n k ci j : Nat} {x : Int32} (hd : decode (mCd y) pc = .ok (.putfield n, 3)) (hw : FL y n ci j) (hfin : (vwCl[ci]?).map (fun q => (q.2.1 j).2.2.2) = some false) (hc : csh k = some ci) (hf : fsh (ci * 64 + j) = 2) (hx : x = 0 ∨ x = 1) (h : mj l b tS D dA i9 a9 y (pc + 3) L S (up2 I k j x) A B P R) : mj l b tS D dA i9 a9 y pc L (.int x :: .ref k :: S) I A B P R := by
  intro p e RM s m ar below meth c H locs cells slots Q ls hy cx sx wl lo hll rk
  obtain ⟨⟨C, T, N⟩, h1, h2, h3, h4⟩ := hw
  obtain ⟨⟨ty0, hty⟩, hnm⟩ := cls_ty h1
  have hk1 := fsh_of h1 h2
  have hfn : (T j).2.2.2 = false := by
    have := hfin
    rw [h1] at this
    exact Option.some.inj this
  have hpd : parseFieldDescriptor (T j).2.2.1 = some .boolean := by
    rw [hf] at hk1
    revert hk1
    generalize parseFieldDescriptor (T j).2.2.1 = z
    intro hk1
    match z, hk1 with
    | some .boolean, _ => rfl
  refine va_put (C := C) (T := T) (N := N) (ref := C) (index := n) (ci := ci) cx.1 cx.2.1 cx.2.2.2.2.1 (uws_in _ (List.mem_of_getElem? h1)) ty0 hty hnm cx.2.2.2.1 sx.2.1 wl.1 (Wl_D wl) wl.2.1 k (fs := flds b I P ci k) (by rw [wsl_at (csh_lt hc), ce_obj hc]) h1 j h2 (cx.2.2.2.2.1 _ h4) (fun x q => by rw [h3] at q; exact q) hfn hpd (v := .int x) (by rcases hx with rfl | rfl <;> decide) (by rcases hx with rfl | rfl <;> decide) (by rw [flds_len, nfl_of h1]; exact h2) hd (fun H1 locs1 hP1 hD1 hS1 => ?_)
  rw [wsl_I hc (Or.inr hf) (by rw [nfl_of h1]; exact h2)] at hP1
  exact h p e RM s m ar below meth c H1 locs1 cells slots Q ls hy cx sx ⟨hP1, hS1, by rw [up2_row (n900 hc)]; exact wl.2.2.1, wl.2.2.2⟩ lo hll rk
theorem ms_putP {n k ci j q : Nat} (hd : decode (mCd y) pc = .ok (.putfield n, 3)) (hw : FL y n ci j) (hfin : (vwCl[ci]?).map (fun q => (q.2.1 j).2.2.2) = some false) (hc : csh k = some ci) (hf : fsh (ci * 64 + j) = 1) (h : mj l b tS D dA i9 a9 y (pc + 3) L S I A B (up2 P k j (some q)) R) : mj l b tS D dA i9 a9 y pc L (.ref q :: .ref k :: S) I A B P R := by
  intro p e RM s m ar below meth c H locs cells slots Q ls hy cx sx wl lo hll rk
  obtain ⟨⟨C, T, N⟩, h1, h2, h3, h4⟩ := hw
  obtain ⟨⟨ty0, hty⟩, hnm⟩ := cls_ty h1
  have hk1 := fsh_of h1 h2
  have hfn : (T j).2.2.2 = false := by
    have := hfin
    rw [h1] at this
    exact Option.some.inj this
  have hpd : ∃ ty, parseFieldDescriptor (T j).2.2.1 = some ty ∧ narrow ty (.ref (b + q)) = .ref (b + q) ∧ fits ty (.ref (b + q)) = true := by
    rw [hf] at hk1
    revert hk1
    generalize parseFieldDescriptor (T j).2.2.1 = z
    intro hk1
    match z, hk1 with
    | some (.object _), _ => exact ⟨_, rfl, rfl, rfl⟩
    | some (.array _), _ => exact ⟨_, rfl, rfl, rfl⟩
  obtain ⟨ty, hp1, hp2, hp3⟩ := hpd
  refine va_put (C := C) (T := T) (N := N) (ref := C) (index := n) (ci := ci) cx.1 cx.2.1 cx.2.2.2.2.1 (uws_in _ (List.mem_of_getElem? h1)) ty0 hty hnm cx.2.2.2.1 sx.2.1 wl.1 (Wl_D wl) wl.2.1 k (fs := flds b I P ci k) (by rw [wsl_at (csh_lt hc), ce_obj hc]) h1 j h2 (cx.2.2.2.2.1 _ h4) (fun x q => by rw [h3] at q; exact q) hfn hp1 (v := .ref (b + q)) hp2 hp3 (by rw [flds_len, nfl_of h1]; exact h2) hd (fun H1 locs1 hP1 hD1 hS1 => ?_)
  rw [wsl_P hc hf (by rw [nfl_of h1]; exact h2)] at hP1
  exact h p e RM s m ar below meth c H1 locs1 cells slots Q ls hy cx sx ⟨hP1, hS1, wl.2.2.1, wl.2.2.2⟩ lo hll rk
theorem ms_iald {k n : Nat} {i : Int32} (hd : decode (mCd y) pc = .ok (.iaload, 1)) (ha : ash k = some (0, n)) (hin : vp_in i n) (h : mj l b tS D dA i9 a9 y (pc + 1) L (.int (A k i.toNatClampNeg) :: S) I A B P R) : mj l b tS D dA i9 a9 y pc L (.int i :: .ref k :: S) I A B P R := by
  intro p e RM s m ar below meth c H locs cells slots Q ls hy cx sx wl lo hll rk
  exact va_iald cx.1 cx.2.1 sx.2.1 wl.1 k 0 (by rw [wsl_at (ash_lt ha), ce_arr ha]; rfl) rfl hin hd (h p e RM s m ar below meth c H locs cells slots Q ls hy cx sx wl lo hll rk)
theorem ms_bald {k n : Nat} {i : Int32} (hd : decode (mCd y) pc = .ok (.baload, 1)) (ha : ash k = some (2, n)) (hin : vp_in i n) (h : mj l b tS D dA i9 a9 y (pc + 1) L (.int (A k i.toNatClampNeg) :: S) I A B P R) : mj l b tS D dA i9 a9 y pc L (.int i :: .ref k :: S) I A B P R := by
  intro p e RM s m ar below meth c H locs cells slots Q ls hy cx sx wl lo hll rk
  exact va_bald cx.1 cx.2.1 sx.2.1 wl.1 k 2 (by rw [wsl_at (ash_lt ha), ce_arr ha]; rfl) rfl hin hd (h p e RM s m ar below meth c H locs cells slots Q ls hy cx sx wl lo hll rk)
theorem ms_zald {k n : Nat} {i : Int32} (hd : decode (mCd y) pc = .ok (.baload, 1)) (ha : ash k = some (3, n)) (hin : vp_in i n) (h : mj l b tS D dA i9 a9 y (pc + 1) L (.int (A k i.toNatClampNeg) :: S) I A B P R) : mj l b tS D dA i9 a9 y pc L (.int i :: .ref k :: S) I A B P R := by
  intro p e RM s m ar below meth c H locs cells slots Q ls hy cx sx wl lo hll rk
  exact va_zald cx.1 cx.2.1 sx.2.1 wl.1 k 3 (by rw [wsl_at (ash_lt ha), ce_arr ha]; rfl) rfl hin hd (h p e RM s m ar below meth c H locs cells slots Q ls hy cx sx wl lo hll rk)
theorem ms_lald {k n : Nat} {i : Int32} (hd : decode (mCd y) pc = .ok (.laload, 1)) (ha : ash k = some (1, n)) (hin : vp_in i n) (h : mj l b tS D dA i9 a9 y (pc + 1) L (.long (B k i.toNatClampNeg) :: S) I A B P R) : mj l b tS D dA i9 a9 y pc L (.int i :: .ref k :: S) I A B P R := by
  intro p e RM s m ar below meth c H locs cells slots Q ls hy cx sx wl lo hll rk
  exact va_lald cx.1 cx.2.1 sx.2.1 wl.1 k 1 (by rw [wsl_at (ash_lt ha), ce_arr ha]; rfl) rfl hin hd (h p e RM s m ar below meth c H locs cells slots Q ls hy cx sx wl lo hll rk)
theorem ms_iast {k n : Nat} {i x : Int32} (hd : decode (mCd y) pc = .ok (.iastore, 1)) (ha : ash k = some (0, n)) (hin : vp_in i n) (h : mj l b tS D dA i9 a9 y (pc + 1) L S I (up2 A k i.toNatClampNeg x) B P R) : mj l b tS D dA i9 a9 y pc L (.int x :: .int i :: .ref k :: S) I A B P R := by
  intro p e RM s m ar below meth c H locs cells slots Q ls hy cx sx wl lo hll rk
  refine va_iast cx.1 cx.2.1 sx.2.1 wl.1 (Wl_D wl) wl.2.1 k 0 (by rw [wsl_at (ash_lt ha), ce_arr ha]; rfl) rfl hin hd (fun H1 locs1 hP1 hD1 hS1 => ?_)
  rw [wsl_A (A2 := up2 A k i.toNatClampNeg x) ha (by simp) (by funext z; simp [up2, upd]) (fun z hz => up2_row hz)] at hP1
  exact h p e RM s m ar below meth c H1 locs1 cells slots Q ls hy cx sx ⟨hP1, hS1, wl.2.2.1, by rw [up2_row (n900a ha)]; exact wl.2.2.2⟩ lo hll rk
theorem ms_last {k n : Nat} {i : Int32} {x : Int64} (hd : decode (mCd y) pc = .ok (.lastore, 1)) (ha : ash k = some (1, n)) (hin : vp_in i n) (h : mj l b tS D dA i9 a9 y (pc + 1) L S I A (up2 B k i.toNatClampNeg x) P R) : mj l b tS D dA i9 a9 y pc L (.long x :: .int i :: .ref k :: S) I A B P R := by
  intro p e RM s m ar below meth c H locs cells slots Q ls hy cx sx wl lo hll rk
  refine va_last cx.1 cx.2.1 sx.2.1 wl.1 (Wl_D wl) wl.2.1 k 1 (by rw [wsl_at (ash_lt ha), ce_arr ha]; rfl) rfl hin hd (fun H1 locs1 hP1 hD1 hS1 => ?_)
  rw [wsl_B (B2 := up2 B k i.toNatClampNeg x) ha rfl (by funext z; simp [up2, vp_updL]) (fun z hz => up2_row hz)] at hP1
  exact h p e RM s m ar below meth c H1 locs1 cells slots Q ls hy cx sx ⟨hP1, hS1, wl.2.2.1, wl.2.2.2⟩ lo hll rk
theorem ms_bast {k n : Nat} {i x : Int32} (hd : decode (mCd y) pc = .ok (.bastore, 1)) (ha : ash k = some (2, n)) (hx : x = x.toInt8.toInt32) (hin : vp_in i n) (h : mj l b tS D dA i9 a9 y (pc + 1) L S I (up2 A k i.toNatClampNeg x) B P R) : mj l b tS D dA i9 a9 y pc L (.int x :: .int i :: .ref k :: S) I A B P R := by
  intro p e RM s m ar below meth c H locs cells slots Q ls hy cx sx wl lo hll rk
  refine va_bast cx.1 cx.2.1 sx.2.1 wl.1 (Wl_D wl) wl.2.1 k 2 (by rw [wsl_at (ash_lt ha), ce_arr ha]; rfl) rfl hin hd (fun H1 locs1 hP1 hD1 hS1 => ?_)
  rw [vp_nar_byte, ← hx, wsl_A (A2 := up2 A k i.toNatClampNeg x) ha (by simp) (by funext z; simp [up2, upd]) (fun z hz => up2_row hz)] at hP1
  exact h p e RM s m ar below meth c H1 locs1 cells slots Q ls hy cx sx ⟨hP1, hS1, wl.2.2.1, by rw [up2_row (n900a ha)]; exact wl.2.2.2⟩ lo hll rk
theorem ms_zast {k n : Nat} {i x : Int32} (hd : decode (mCd y) pc = .ok (.bastore, 1)) (ha : ash k = some (3, n)) (hx : x = 0 ∨ x = 1) (hin : vp_in i n) (h : mj l b tS D dA i9 a9 y (pc + 1) L S I (up2 A k i.toNatClampNeg x) B P R) : mj l b tS D dA i9 a9 y pc L (.int x :: .int i :: .ref k :: S) I A B P R := by
  intro p e RM s m ar below meth c H locs cells slots Q ls hy cx sx wl lo hll rk
  have hx2 : vp_nar .boolean x = x := by rcases hx with rfl | rfl <;> decide
  refine va_zast cx.1 cx.2.1 sx.2.1 wl.1 (Wl_D wl) wl.2.1 k 3 (by rw [wsl_at (ash_lt ha), ce_arr ha]; rfl) rfl hin hd (fun H1 locs1 hP1 hD1 hS1 => ?_)
  rw [hx2, wsl_A (A2 := up2 A k i.toNatClampNeg x) ha (by simp) (by funext z; simp [up2, upd]) (fun z hz => up2_row hz)] at hP1
  exact h p e RM s m ar below meth c H1 locs1 cells slots Q ls hy cx sx ⟨hP1, hS1, wl.2.2.1, by rw [up2_row (n900a ha)]; exact wl.2.2.2⟩ lo hll rk
theorem rsh_2 {k : Nat} {r : Nat × Nat × Nat} (h : rsh k = some r) : k = 9 ∨ k = 18 := by
  have h1 : (List.range 65).all (fun k => (rsh k).isNone || (Nat.beq k 9 || Nat.beq k 18)) = true := by decide +kernel
  have h2 := List.all_eq_true.mp h1 k (List.mem_range.mpr (rsh_lt h))
  rw [h] at h2
  simp at h2
  exact h2
theorem ms_aald {k : Nat} {r : Nat × Nat × Nat} {i : Int32} (hd : decode (mCd y) pc = .ok (.aaload, 1)) (hr : rsh k = some r) (hin : vp_in i r.2.2) (h : mj l b tS D dA i9 a9 y (pc + 1) L (.ref (r.1 + r.2.1 * i.toNatClampNeg) :: S) I A B P R) : mj l b tS D dA i9 a9 y pc L (.int i :: .ref k :: S) I A B P R := by
  intro p e RM s m ar below meth c H locs cells slots Q ls hy cx sx wl lo hll rk
  have hlt : i.toNatClampNeg < r.2.2 := Nat.not_le.mp fun q => hin (Or.inr q)
  have hP := wl.1 k _ (by rw [wsl_at (rsh_lt hr), ce_ref hr])
  rcases rsh_2 hr with rfl | rfl
  · exact W.aald (v := va_rf (some (b + (r.1 + r.2.1 * i.toNatClampNeg)))) (ty := .object "ValueDays$Script") cx.1 cx.2.1 hP ((sx.2.1.2 4 _ rfl).1 r.2.2 (fun j => va_rf (some (b + (r.1 + r.2.1 * j))))) rfl (fun q => by cases q) (by show ¬ (i < 0 ∨ (arrV _ _ _).slots.size ≤ _); rw [arrV_size]; exact hin) (by show (arrV _ _ _).slots[_]? = _; rw [arrV_read _ _ hlt]) rfl rfl hd (h p e RM s m ar below meth c H locs cells slots Q ls hy cx sx wl lo hll rk)
  · exact W.aald (v := va_rf (some (b + (r.1 + r.2.1 * i.toNatClampNeg)))) (ty := .array .int) cx.1 cx.2.1 hP ((sx.2.1.2 5 _ rfl).1 r.2.2 (fun j => va_rf (some (b + (r.1 + r.2.1 * j))))) rfl (fun q => by cases q) (by show ¬ (i < 0 ∨ (arrV _ _ _).slots.size ≤ _); rw [arrV_size]; exact hin) (by show (arrV _ _ _).slots[_]? = _; rw [arrV_read _ _ hlt]) rfl rfl hd (h p e RM s m ar below meth c H locs cells slots Q ls hy cx sx wl lo hll rk)
theorem tys_at {t : Nat} (h : t < 6) : ∃ ty, (tys dA)[t]? = some (dA t, ty) := by
  match t, h with
  | 0, _ => exact ⟨_, rfl⟩
  | 1, _ => exact ⟨_, rfl⟩
  | 2, _ => exact ⟨_, rfl⟩
  | 3, _ => exact ⟨_, rfl⟩
  | 4, _ => exact ⟨_, rfl⟩
  | 5, _ => exact ⟨_, rfl⟩
theorem ash_t {k : Nat} {t : Nat × Nat} (h : ash k = some t) : t.1 < 4 := by
  have h1 : (List.range 65).all (fun k => match ash k with
    | some t => Nat.blt t.1 4
    | none => true) = true := by decide +kernel
  have h2 := List.all_eq_true.mp h1 k (List.mem_range.mpr (ash_lt h))
  rw [h] at h2
  exact Nat.le_of_ble_eq_true h2
theorem ms_alen {k : Nat} {t : Nat × Nat} (hd : decode (mCd y) pc = .ok (.arraylength, 1)) (ha : ash k = some t) (h : mj l b tS D dA i9 a9 y (pc + 1) L (.int (Int32.ofNat t.2) :: S) I A B P R) : mj l b tS D dA i9 a9 y pc L (.ref k :: S) I A B P R := by
  intro p e RM s m ar below meth c H locs cells slots Q ls hy cx sx wl lo hll rk
  obtain ⟨ty, hty⟩ := tys_at (dA := dA) (Nat.lt_of_lt_of_le (ash_t ha) (Nat.le_of_ble_eq_true rfl))
  exact va_alen (x := (t.2, if t.1 = 1 then .inr (.inl (B k)) else .inl (A k))) cx.1 cx.2.1 sx.2.1 wl.1 k t.1 (by rw [wsl_at (ash_lt ha), ce_arr ha]) hty rfl hd (h p e RM s m ar below meth c H locs cells slots Q ls hy cx sx wl lo hll rk)
theorem ms_rlen {k : Nat} {r : Nat × Nat × Nat} (hd : decode (mCd y) pc = .ok (.arraylength, 1)) (hr : rsh k = some r) (h : mj l b tS D dA i9 a9 y (pc + 1) L (.int (Int32.ofNat r.2.2) :: S) I A B P R) : mj l b tS D dA i9 a9 y pc L (.ref k :: S) I A B P R := by
  intro p e RM s m ar below meth c H locs cells slots Q ls hy cx sx wl lo hll rk
  have hrc : rcd k < 6 := by unfold rcd; split <;> omega
  obtain ⟨ty, hty⟩ := tys_at (dA := dA) hrc
  exact va_alen (x := (r.2.2, .inr (.inr (.inr (.inr (fun i => some (b + (r.1 + r.2.1 * i)))))))) cx.1 cx.2.1 sx.2.1 wl.1 k (rcd k) (by rw [wsl_at (rsh_lt hr), ce_ref hr]) hty rfl hd (h p e RM s m ar below meth c H locs cells slots Q ls hy cx sx wl lo hll rk)
theorem ms_sld {i : Int32} (hd : decode (mCd y) pc = .ok (.iaload, 1)) (hin : vp_in i (I 900 0).toNatClampNeg) (h : mj l b tS D dA i9 a9 y (pc + 1) L (.int (A 900 i.toNatClampNeg) :: S) I A B P R) : mj l b tS D dA i9 a9 y pc L (.int i :: .retAddr 0 :: S) I A B P R := by
  intro p e RM s m ar below meth c H locs cells slots Q ls hy cx sx wl lo hll rk
  obtain ⟨sb, h1, h2, h3, h4⟩ := sx.2.2.2.1
  rw [wl.2.2.1] at hin
  have h5 := h p e RM s m ar below meth c H locs cells slots Q ls hy cx sx wl lo hll rk
  rw [wl.2.2.2] at h5
  rw [List.map_cons, List.map_cons, show tr b tS (.retAddr 0) = .ref sb from h1]
  exact va_sld cx.1 cx.2.1 h3 (by have := sx.1; omega) (show ¬ b ≤ sb by omega) wl.2.1 hin hd h5
theorem ms_slen (hd : decode (mCd y) pc = .ok (.arraylength, 1)) (h : mj l b tS D dA i9 a9 y (pc + 1) L (.int (I 900 0) :: S) I A B P R) : mj l b tS D dA i9 a9 y pc L (.retAddr 0 :: S) I A B P R := by
  intro p e RM s m ar below meth c H locs cells slots Q ls hy cx sx wl lo hll rk
  obtain ⟨sb, h1, h2, h3, h4⟩ := sx.2.2.2.1
  have h5 := h p e RM s m ar below meth c H locs cells slots Q ls hy cx sx wl lo hll rk
  rw [wl.2.2.1, List.map_cons, show tr b tS (.int i9) = .int i9 from rfl, ← h4] at h5
  rw [List.map_cons, show tr b tS (.retAddr 0) = .ref sb from h1]
  exact va_slen cx.1 cx.2.1 h3 (by have := sx.1; omega) (show ¬ b ≤ sb by omega) wl.2.1 hd h5
end INS2
end
section
/-! the machine's own judgement obeys the small machine: part 4, calls -/
theorem lgs1 {v : Value} {vs : List Value} (h : v.category = 1) : (lg_sl (v :: vs)).length = (lg_sl vs).length + 1 := by
  simp [lg_sl, h]
theorem lgs2 {v : Value} {vs : List Value} (h : v.category = 2) : (lg_sl (v :: vs)).length = (lg_sl vs).length + 2 := by
  simp [lg_sl, h]
theorem lva1 {v : Value} {vs : List Value} {i : Nat} (h : v.category = 1) : lv_args i (v :: vs) = (i, v) :: lv_args (i + 1) vs := by
  simp [lv_args, h]
theorem lva2 {v : Value} {vs : List Value} {i : Nat} (h : v.category = 2) : lv_args i (v :: vs) = (i, v) :: lv_args (i + 2) vs := by
  simp [lv_args, h]
theorem mkK_inv : ∀ {n : Nat} {args : List Value} (k : List Value → Prop), mkK n args k → ∃ L, k L ∧ L.length = n ∧ ∀ (b : Nat) (tS : Nat → Value), (∀ n, (tS n).category = 1) → (lg_sl (args.map (tr b tS))).length ≤ n ∧ ∀ (i j : Nat) (v : Value), L[j]? = some v → (∀ f, v ≠ .float f) → (i + j, tr b tS v) ∈ lv_args i (args.map (tr b tS))
  | 0, [], k, h => ⟨[], h, rfl, fun b tS hc => ⟨by simp [lg_sl], fun i j v hj => by simp at hj⟩⟩
  | 0, _ :: _, k, h => by simp [mkK] at h
  | n + 1, [], k, h => by
    obtain ⟨L, h1, h2, h3⟩ := mkK_inv (n := n) (args := []) (fun L => k (.float 0 :: L)) h
    refine ⟨_, h1, by simp [h2], fun b tS hc => ⟨by simp [lg_sl], fun i j v hj hf => ?_⟩⟩
    cases j with
    | zero =>
      simp at hj
      exact absurd hj.symm (hf 0)
    | succ j =>
      have := (h3 b tS hc).2 i j v (by simpa using hj) hf
      simp [lv_args] at this
  | n + 1, v :: a, k, h => by
    rcases lv_cat v with hcat | hcat
    · have h : mkK n a (fun L => k (v :: L)) := by
        cases v <;> first | exact h | (simp [Value.category] at hcat; done)
      obtain ⟨L, h1, h2, h3⟩ := mkK_inv (n := n) (args := a) (fun L => k (v :: L)) h
      refine ⟨_, h1, by simp [h2], fun b tS hc => ?_⟩
      have hcv : (tr b tS v).category = 1 := (tr_cat hc v).trans hcat
      refine ⟨?_, fun i j u hj hf => ?_⟩
      · rw [List.map_cons, lgs1 hcv]
        have := (h3 b tS hc).1
        omega
      · rw [List.map_cons, lva1 hcv]
        cases j with
        | zero =>
          have e : v = u := by simpa using hj
          subst e
          exact List.mem_cons_self
        | succ j =>
          have := (h3 b tS hc).2 (i + 1) j u (by simpa using hj) hf
          rw [show i + (j + 1) = i + 1 + j by omega]
          exact List.mem_cons_of_mem _ this
    · cases v with
      | long x =>
        cases n with
        | zero => exact h.elim
        | succ n =>
          have h : mkK n a (fun L => k (.long x :: .float 0 :: L)) := h
          obtain ⟨L, h1, h2, h3⟩ := mkK_inv (n := n) (args := a) (fun L => k (.long x :: .float 0 :: L)) h
          refine ⟨_, h1, by simp [h2], fun b tS hc => ?_⟩
          have hcv : (tr b tS (.long x)).category = 2 := rfl
          refine ⟨?_, fun i j u hj hf => ?_⟩
          · rw [List.map_cons, lgs2 hcv]
            have := (h3 b tS hc).1
            omega
          · rw [List.map_cons, lva2 hcv]
            match j, hj with
            | 0, hj =>
              have e : Value.long x = u := by simpa using hj
              subst e
              exact List.mem_cons_self
            | 1, hj =>
              have e : Value.float 0 = u := by simpa using hj
              exact absurd e.symm (hf 0)
            | j + 2, hj =>
              have := (h3 b tS hc).2 (i + 2) j u (by simpa using hj) hf
              rw [show i + (j + 2) = i + 2 + j by omega]
              exact List.mem_cons_of_mem _ this
      | double x => exact h.elim
      | _ => simp [Value.category] at hcat
theorem popN_inv {k : List Value → List Value → Prop} : ∀ {n : Nat} {S acc : List Value}, popN n S acc k → ∃ (as S' : List Value), S = as.reverse ++ S' ∧ as.length = n ∧ k (as ++ acc) S'
  | 0, S, acc, h => ⟨[], S, rfl, rfl, h⟩
  | n + 1, v :: S, acc, h => by
    obtain ⟨as, S', h1, h2, h3⟩ := popN_inv (n := n) (S := S) (acc := v :: acc) h
    exact ⟨as ++ [v], S', by simp [h1], by simp [h2], by simpa using h3⟩
  | _ + 1, [], _, h => h.elim
theorem catS_eq : ∀ (S : List Value), catS S = (S.map fun v => v.category).sum
  | [] => rfl
  | v :: S => by
    rw [List.map_cons, List.sum_cons, ← catS_eq S]
    cases v <;> rfl
section CAL
variable {l : Launch} {b : Nat} {tS : Nat → Value} {D : va_G} {dA : Nat → ClassId} {i9 : Int32} {a9 : Nat → Int32} {y pc : Nat} {L S : List Value} {I A : mI} {B : mB} {P : mP} {R : mR}
theorem Sx_moved {u U : State} (h : Sx b tS D dA i9 a9 u) (hW : u.WarmedH U.vm) (hz : u.heap.size ≤ U.heap.size) (hh : ∀ q : Nat, q < u.heap.size → ¬ Af b q → U.heap[q]? = u.heap[q]?) : Sx b tS D dA i9 a9 U := by
  have hvm : u.vm.Alike U.vm := hW.alike
  obtain ⟨h1, h2, o1, ⟨sb, o2, o3, o4, o5⟩, ⟨adK, adV, o6, o7, o8⟩, o9, o10, o11⟩ := h
  refine ⟨by omega, va_K.moved hvm h2, o1, ⟨sb, o2, o3, ?_, o5⟩, ⟨adK, adV, o6, ?_, fun q hq => ?_⟩, ?_, ?_, o11⟩
  · exact (va_X.moved hvm o4).kept (hh sb (by omega) (show ¬ b ≤ sb by omega))
  · exact (vk_S.moved hvm o7).kept hh
  · obtain ⟨t, ht⟩ := o8 q hq
    exact ⟨t, ht.warm hW⟩
  · exact (va_Z.moved hvm o9).kept hh
  · exact (va_Z.moved hvm o10).kept hh
/-- a method's start and end, in the small machine's words -/
def mPc (b : Nat) (tS : Nat → Value) (D : va_G) (dA : Nat → ClassId) (i9 : Int32) (a9 : Nat → Int32) (args : List Value) (I A : mI) (B : mB) (P : mP) : Array Value → State → Prop := va_Pc (args.map (tr b tS)) (fun U => va_P D vwCl (wsl b dA I A B P) U.heap ∧ Sx b tS D dA i9 a9 U ∧ I 900 0 = i9 ∧ A 900 = a9)
def mQc (b : Nat) (tS : Nat → Value) (D : va_G) (dA : Nat → ClassId) (i9 : Int32) (a9 : Nat → Int32) (R : mR) : Array Value → State → Outcome → State → Prop := fun _ st oc t => (∃ (v : Option Value) (I A : mI) (B : mB) (P : mP), R v I A B P ∧ oc = .returned (v.map (tr b tS)) ∧ va_P D vwCl (wsl b dA I A B P) t.heap ∧ I 900 0 = i9 ∧ A 900 = a9) ∧ va_F (Af b) st t
theorem mPc_blind {args : List Value} : FrameBlind (mPc b tS D dA i9 a9 args I A B P) := by
  intro a U g mk ⟨h0, h1, h2, h3, h4⟩
  exact ⟨h0, h1, Sx_moved (U := U.calling g mk a) h2 (State.WarmedH.refl U) (Nat.le_refl _) (fun _ _ _ => rfl), h3, h4⟩
noncomputable def mRm (y : Nat) : Room := { frames := mRf y, cells := 0, slots := 0, locals := mRl y }
theorem okY_parts {y : Nat} (h : okY y = true) : Cond.code (mNm y) (mCd y) (mMl y) (mRt y) ∈ mT ∧ Cond.initialized (mNm y).cls ∈ mT ∧ nth "" mOW (mOw y) = (mNm y).cls ∧ rtc (mRt y) = (mr y).2.1 ∧ (mNm y).cls ≠ "java/lang/invoke/MethodHandle" ∧ (mNm y).cls ≠ "java/lang/invoke/VarHandle" ∧ plainName (mNm y).cls = true ∧ ((mRc y = 0 → Cond.static (mNm y) ∈ mT ∧ (parseMethodDescriptor (mNm y).desc).map (fun d => d.parameters.length) = some (mr y).2.2.1) ∧ ∀ c, mRc y = c + 1 → Cond.instanceMethod (mNm y) ∈ mT ∧ Cond.selects (mNm y).cls (mNm y) (mNm y) ∈ mT ∧ (parseMethodDescriptor (mNm y).desc).map (fun d => d.parameters.length + 1) = some (mr y).2.2.1 ∧ (c = 98 → (mNm y).cls = "java/lang/String") ∧ (c ≠ 98 → (vwCl[c]?).map (fun q => q.1) = some (mNm y).cls)) := by
  unfold okY at h
  simp only [Bool.and_eq_true, decide_eq_true_eq] at h
  obtain ⟨h1, h2, h3, h4, h5, h6, h7, h8⟩ := h
  refine ⟨inT_mem h1, inT_mem h2, h3, Nat.eq_of_beq_eq_true h4, h5, h6, h7, fun e => ?_, fun c e => ?_⟩
  · rw [e] at h8
    simp only [Bool.and_eq_true, decide_eq_true_eq] at h8
    exact ⟨inT_mem h8.1, h8.2⟩
  · rw [e] at h8
    simp only [Bool.and_eq_true, decide_eq_true_eq] at h8
    obtain ⟨g1, g2, g3, g4⟩ := h8
    refine ⟨inT_mem g1, inT_mem g2, g3, fun e2 => ?_, fun e2 => ?_⟩
    · subst e2
      exact of_decide_eq_true g4
    · have : Nat.beq c 98 = false := by
        cases hb : Nat.beq c 98 with
        | true => exact absurd (Nat.eq_of_beq_eq_true hb) e2
        | false => rfl
      rw [this] at g4
      exact of_decide_eq_true g4
theorem met_of {args L0 : List Value} (hy : y < 378) (hlen : L0.length = mMl y) (hsl : ∀ (tS : Nat → Value), (∀ n, (tS n).category = 1) → (lg_sl (args.map (tr b tS))).length ≤ mMl y ∧ ∀ (i j : Nat) (v : Value), L0[j]? = some v → (∀ f, v ≠ .float f) → (i + j, tr b tS v) ∈ lv_args i (args.map (tr b tS)))
    (h : mj l b tS D dA i9 a9 y 0 L0 [] I A B P R) : Met l (mNm y) (.code (mNm y) (mCd y) (mMl y) (mRt y) :: mT) (mRm y) (mPc b tS D dA i9 a9 args I A B P) (mQc b tS D dA i9 a9 R) 0 0 (Af b) := by
  have hok := okY_parts (okY_all hy)
  refine Met.ofW (cc := mCd y) (maxL := mMl y) (ret := mRt y) hok.2.2.2.2.2.2.1 rfl ?_
  intro p e s m ar below meth c s₁ Bd hml hv
  obtain ⟨rfl, hP, hSx, h1, h2⟩ := hv
  have hx := Bd.exec
  have hb := Bd.bytes
  have hr := Bd.returns
  have hts := atoms_spec (ws := .code (mNm y) (mCd y) (mMl y) (mRt y) :: mT) Bd.pre
  have hown : s.vm.findClass (mNm y).cls = some m.cls := findClass_of_methodNamed Bd.named
  have hlocks := Bd.notSynchronized
  obtain ⟨hs1, hs2⟩ := hsl tS (out_cat hSx.2.2)
  have hl := lv_entry (args.map (tr b tS)) hs1
  rw [lg_entry_eq]
  refine h p e _ s m _ below meth c s.heap [] 0 0 _ _ (by omega) ⟨hx, hb, hml, hown, fun w hw => hts w (List.mem_cons_of_mem _ hw), Nat.le_refl _, Nat.le_refl _, Nat.zero_le _, Nat.zero_le _⟩ hSx ⟨hP, va_S.rf, h1, h2⟩ ⟨by rw [hl.1, hlen], hl.2.1, fun j v hj hf => ?_⟩ hlen ?_
  · have := hl.2.2 _ (hs2 0 j v hj hf)
    simpa using this
  · intro v I2 A2 B2 P2 H locs pc ls hR wl hat
    have hq : ∀ (t : State), t.heap = H → s.WarmedH t.vm → mQc b tS D dA i9 a9 R (List.map (tr b tS) args).toArray s (.returned (v.map (tr b tS))) t := fun t ht hW => ⟨⟨v, I2, A2, B2, P2, hR, rfl, by rw [ht]; exact wl.1, wl.2.2.1, wl.2.2.2⟩, wl.2.1.F ht⟩
    match v, hat with
    | none, hat => exact W.vret hx hb (hr.trans hat.2) hq wl.2.1.2.2 hat.1
    | some (.int x), hat =>
      obtain ⟨hd, ty, ht, hn⟩ := hat
      exact W.zret hx hb (hr.trans ht) hn hq wl.2.1.2.2 hd
    | some (.long x), hat => exact W.lret hx hb (hr.trans hat.2) hq wl.2.1.2.2 hat.1
    | some (.ref x), hat =>
      obtain ⟨hd, rt, ht, hrt⟩ := hat
      exact W.aret hx hb (hr.trans ht) hrt (Or.inr ⟨_, rfl⟩) hq wl.2.1.2.2 hd
    | some .null, hat =>
      obtain ⟨hd, rt, ht, hrt⟩ := hat
      exact W.aret hx hb (hr.trans ht) hrt (Or.inl rfl) hq wl.2.1.2.2 hd
end CAL
end
section
/-! the machine's own judgement obeys the small machine: part 5, calls made (written by wip/whole/gen5.py) -/
section CAL2
variable {l : Launch} {b : Nat} {tS : Nat → Value} {D : va_G} {dA : Nat → ClassId} {i9 : Int32} {a9 : Nat → Int32} {y pc : Nat} {L S : List Value} {I A : mI} {B : mB} {P : mP} {R : mR}
theorem goodT : GoodIn mT mT := fun _ h => ⟨h, mT_good h⟩
theorem goodC {y : Nat} (h : Cond.code (mNm y) (mCd y) (mMl y) (mRt y) ∈ mT) : GoodIn mT (.code (mNm y) (mCd y) (mMl y) (mRt y) :: mT) := fun w hw => by
  rcases List.mem_cons.mp hw with rfl | hw
  · exact ⟨h, mT_good h⟩
  · exact goodT w hw
/-- behind a call: its answer, its world -/
theorem ms_back {p : Program} {e : Env} {RM : Room} {s : State} {m : MethodId} {ar : Array Value} {below : List Frame} {meth : Method} {c : Code} {H : Heap} {locs : List Loc} {cells slots : Nat} {Q : State → Prop} {ls : Array Slot} {st0 : List Value} {a : Array Value} {R' : mR}
    (hr : va_Run p l e RM s m ar below meth c H locs cells slots 0 0 (F0 m pc ls st0) (S.map (tr b tS)) (mQc b tS D dA i9 a9 R' a) (Af b)) (hS : va_S (Af b) s.heap H locs)
    (kk : ∀ (v : Option Value) (I A : mI) (B : mB) (P : mP) (H1 : Heap) (locs1 : List Loc), R' v I A B P → Wl b D dA i9 a9 I A B P s H1 locs1 → W p l e RM s m ar below meth c H1 locs1 cells slots Q (F0 m (pc + 3) ls ((pushO v S).map (tr b tS)))) : W p l e RM s m ar below meth c H locs cells slots Q (F0 m pc ls st0) := by
  intro T hT X
  obtain ⟨v, st₀, t, T', Lc, h0, X', hL, e1, e2, ⟨⟨r, I', A', B', P', hR', hv, hP', h9, ha9⟩, hz, hk⟩, st⟩ := hr T hT X
  rw [h0] at hz hk
  have hv : v = r.map (tr b tS) := by cases hv; rfl
  subst hv
  obtain ⟨t2, a1, b1⟩ := kk r I' A' B' P' T'.heap (locs ++ Lc) hR' ⟨by rw [e1]; exact hP', ⟨Nat.le_trans hS.1 (by rw [e1]; exact hz), fun q g1 g2 => by rw [e1, hk q (Nat.lt_of_lt_of_le g1 hS.1) g2]; exact hS.2.1 q g1 g2, fun q hq => by
      rcases List.mem_append.mp hq with h | h
      · exact hS.2.2 q h
      · exact hL q h⟩, h9, ha9⟩ T' rfl X'
  refine ⟨t2, st t2 ?_, b1⟩
  cases r <;> exact a1
/-- what a call rests on -/
def CL (y n y' : Nat) : Prop := y' < 378 ∧ Cond.methodLink (mNm y).cls n (mNm y') ∈ mT ∧ mRf y' + 1 ≤ mRf y ∧ 8 + (mMl y' + 11) + mRl y' ≤ mRl y
theorem ms_pre {p : Program} {RM : Room} {s : State} {m : MethodId} {ar : Array Value} {c : Code} {H : Heap} {locs : List Loc} {cells slots : Nat} {args : List Value} (_cx : Cx y p RM s m ar c cells slots) (sx : Sx b tS D dA i9 a9 s) (wl : Wl b D dA i9 a9 I A B P s H locs) : ∀ U : State, U.heap = H → s.WarmedH U.vm → mPc b tS D dA i9 a9 args I A B P (args.map (tr b tS)).toArray U := fun U hU hW =>
  ⟨rfl, by rw [hU]; exact wl.1, Sx_moved sx hW (by rw [hU]; exact wl.2.1.1) (fun q h1 h2 => by rw [hU]; exact wl.2.1.2.1 q h1 h2), wl.2.2.1, wl.2.2.2⟩
theorem ms_cb {p : Program} {RM : Room} {s : State} {m : MethodId} {ar : Array Value} {c : Code} {cells slots y' n k : Nat} (cx : Cx y p RM s m ar c cells slots) (hc : CL y n y') (hk : (parseMethodDescriptor (mNm y').desc).map (fun d => d.parameters.length) = some k) : CallB RM s ar (mNm y).cls n (mNm y') (mCd y') (mMl y') (mRt y') (.code (mNm y') (mCd y') (mMl y') (mRt y') :: mT) (mRm y') 0 0 k := by
  have hok := okY_parts (okY_all hc.1)
  refine callB_of k cx.2.2.2.2.1 (goodC hok.1) rfl rfl rfl (cx.2.2.2.2.1 _ hok.2.1) (cx.2.2.2.2.1 _ hc.2.1) ⟨hok.2.2.2.2.1, hok.2.2.2.2.2.1, hk⟩ ⟨?_, ?_⟩
  · exact Nat.le_trans hc.2.2.1 cx.2.2.2.2.2.1
  · exact Nat.le_trans hc.2.2.2 cx.2.2.2.2.2.2.1
def mkR (y : Nat) (args L0 : List Value) : Prop := L0.length = mMl y ∧ ∀ (b : Nat) (tS : Nat → Value), (∀ n, (tS n).category = 1) → (lg_sl (args.map (tr b tS))).length ≤ mMl y ∧ ∀ (i j : Nat) (v : Value), L0[j]? = some v → (∀ f, v ≠ .float f) → (i + j, tr b tS v) ∈ lv_args i (args.map (tr b tS))
theorem catS_tr (hc : ∀ n, (tS n).category = 1) (h : catS S ≤ 8) {m : MethodId} {pc : Nat} {ls : Array Slot} {st : List Value} : 2 * (F0 m pc ls st).monitorRoom + ((S.map (tr b tS)).map fun v => v.category).sum ≤ 8 := by
  refine lv_room ?_
  rw [List.map_map, show ((fun v => v.category) ∘ tr b tS) = fun v => v.category from funext (fun v => tr_cat hc v), ← catS_eq]
  exact h
theorem ms_callS {n y' : Nat} {args L0 : List Value} {R' : mR} (hd : decode (mCd y) pc = .ok (.invokestatic n, 3)) (hc : CL y n y') (hst : mRc y' = 0) (hna : args.length = (mr y').2.2.1) (hmk : mkR y' args L0) (hcat : catS S ≤ 8) (h : mj l b tS D dA i9 a9 y' 0 L0 [] I A B P R') (hk : ∀ v I A B P, R' v I A B P → mj l b tS D dA i9 a9 y (pc + 3) L (pushO v S) I A B P R) : mj l b tS D dA i9 a9 y pc L (args.reverse ++ S) I A B P R := by
  intro p e RM s m ar below meth c H locs cells slots Q ls hy cx sx wl lo hll rk
  have hok := okY_parts (okY_all hc.1)
  have hs := hok.2.2.2.2.2.2.2.1 hst
  refine ms_back (pc := pc) (va_runS (As := args.map (tr b tS)) (rest := S.map (tr b tS)) ⟨cx.1, cx.2.1, cx.2.2.1, cx.2.2.2.1, cx.2.2.2.2.1⟩ (met_of hc.1 hmk.1 (hmk.2 b) h) ⟨ms_cb cx hc hs.2, cx.2.2.2.2.1 _ hs.1⟩ ⟨mPc_blind, ms_pre cx sx wl⟩ rfl (by rw [List.length_map, hna]) (lo.1.trans hll) (by simp [List.map_reverse]) (catS_tr (out_cat sx.2.2) hcat) hd ⟨cx.2.2.2.2.2.2.2.1, cx.2.2.2.2.2.2.2.2⟩) wl.2.1 (fun v I2 A2 B2 P2 H1 locs1 hR' wl1 => ?_)
  exact hk v I2 A2 B2 P2 hR' p e RM s m ar below meth c H1 locs1 cells slots Q ls hy cx sx wl1 lo hll rk
theorem ms_callV {n y' k : Nat} {args L0 : List Value} {R' : mR} (hd : decode (mCd y) pc = .ok (.invokevirtual n, 3)) (hc : CL y n y') {ci : Nat} (hst : mRc y' = ci + 1) (hci : ci ≠ 98) (hck : csh k = some ci) (hna : args.length + 1 = (mr y').2.2.1) (hmk : mkR y' (.ref k :: args) L0) (hcat : catS S ≤ 8) (h : mj l b tS D dA i9 a9 y' 0 L0 [] I A B P R') (hk : ∀ v I A B P, R' v I A B P → mj l b tS D dA i9 a9 y (pc + 3) L (pushO v S) I A B P R) : mj l b tS D dA i9 a9 y pc L (args.reverse ++ .ref k :: S) I A B P R := by
  intro p e RM s m ar below meth c H locs cells slots Q ls hy cx sx wl lo hll rk
  have hok := okY_parts (okY_all hc.1)
  obtain ⟨g1, g2, g3, -, g5⟩ := hok.2.2.2.2.2.2.2.2 ci hst
  have g5 := g5 hci
  have hpd : (parseMethodDescriptor (mNm y').desc).map (fun d => d.parameters.length) = some args.length := by
    rw [← hna] at g3
    cases hz : parseMethodDescriptor (mNm y').desc with
    | none => rw [hz] at g3; cases g3
    | some d =>
      rw [hz] at g3
      simp at g3 ⊢
      exact g3
  obtain ⟨q, hq1, hq2⟩ := Option.map_eq_some_iff.mp g5
  have hrec := va_recv sx.2.1 wl.1 (ci := ci) (q0 := k) (fs := flds b I P ci k) hq1 (by rw [wsl_at (csh_lt hck), ce_obj hck])
  rw [hq2] at hrec
  refine ms_back (pc := pc) (va_runV (As := args.map (tr b tS)) (b := b + k) (C := (mNm y').cls) (rest := S.map (tr b tS)) ⟨cx.1, cx.2.1, cx.2.2.1, cx.2.2.2.1, cx.2.2.2.2.1⟩ (met_of hc.1 hmk.1 (hmk.2 b) h) ⟨ms_cb cx hc hpd, cx.2.2.2.2.1 _ g1, cx.2.2.2.2.1 _ g2⟩ ⟨mPc_blind, hrec, ms_pre cx sx wl⟩ rfl (by rw [List.length_map]) (lo.1.trans hll) (by simp [List.map_reverse, tr]) (catS_tr (out_cat sx.2.2) hcat) hd ⟨cx.2.2.2.2.2.2.2.1, cx.2.2.2.2.2.2.2.2⟩) wl.2.1 (fun v I2 A2 B2 P2 H1 locs1 hR' wl1 => ?_)
  exact hk v I2 A2 B2 P2 hR' p e RM s m ar below meth c H1 locs1 cells slots Q ls hy cx sx wl1 lo hll rk
theorem ms_callT {n y' i : Nat} {args L0 : List Value} {R' : mR} (hd : decode (mCd y) pc = .ok (.invokevirtual n, 3)) (hc : CL y n y') (hst : mRc y' = 99) (hi : i < 14) (hna : args.length + 1 = (mr y').2.2.1) (hmk : mkR y' (.retAddr (1 + i) :: args) L0) (hcat : catS S ≤ 8) (h : mj l b tS D dA i9 a9 y' 0 L0 [] I A B P R') (hk : ∀ v I A B P, R' v I A B P → mj l b tS D dA i9 a9 y (pc + 3) L (pushO v S) I A B P R) : mj l b tS D dA i9 a9 y pc L (args.reverse ++ .retAddr (1 + i) :: S) I A B P R := by
  intro p e RM s m ar below meth c H locs cells slots Q ls hy cx sx wl lo hll rk
  have hok := okY_parts (okY_all hc.1)
  obtain ⟨g1, g2, g3, g5, -⟩ := hok.2.2.2.2.2.2.2.2 98 hst
  have g5 := g5 rfl
  have hpd : (parseMethodDescriptor (mNm y').desc).map (fun d => d.parameters.length) = some args.length := by
    rw [← hna] at g3
    cases hz : parseMethodDescriptor (mNm y').desc with
    | none => rw [hz] at g3; cases g3
    | some d =>
      rw [hz] at g3
      simp at g3 ⊢
      exact g3
  obtain ⟨adK, adV, k1, k2, k3⟩ := sx.2.2.2.2.1
  have hrec := vk_recv k2 hi wl.2.1
  rw [← g5] at hrec
  have hpre := ms_pre (args := .retAddr (1 + i) :: args) cx sx wl
  rw [List.map_cons, show tr b tS (.retAddr (1 + i)) = .ref (adK i) from (k1 i hi).1] at hpre
  refine ms_back (pc := pc) (va_runV (As := args.map (tr b tS)) (b := adK i) (C := (mNm y').cls) (rest := S.map (tr b tS)) ⟨cx.1, cx.2.1, cx.2.2.1, cx.2.2.2.1, cx.2.2.2.2.1⟩ (met_of hc.1 hmk.1 (hmk.2 b) h) ⟨ms_cb cx hc hpd, cx.2.2.2.2.1 _ g1, cx.2.2.2.2.1 _ g2⟩ ⟨mPc_blind, hrec, hpre⟩ rfl (by rw [List.length_map]) (lo.1.trans hll) (by simp [List.map_reverse, show tr b tS (.retAddr (1 + i)) = .ref (adK i) from (k1 i hi).1]) (catS_tr (out_cat sx.2.2) hcat) hd ⟨cx.2.2.2.2.2.2.2.1, cx.2.2.2.2.2.2.2.2⟩) wl.2.1 (fun v I2 A2 B2 P2 H1 locs1 hR' wl1 => ?_)
  exact hk v I2 A2 B2 P2 hR' p e RM s m ar below meth c H1 locs1 cells slots Q ls hy cx sx wl1 lo hll rk
end CAL2
end
section
/-! the machine's own judgement obeys the small machine: part 6, the library's own, texts, switches (written by wip/whole/gen6.py) -/
theorem ac_w : Cond.native arraycopyName ∈ mT ∧ Cond.static arraycopyName ∈ mT ∧ Cond.initialized "java/lang/System" ∈ mT := ⟨inT_mem (h := 3044) (by decide +kernel), inT_mem (h := 3043) (by decide +kernel), inT_mem (h := 1017) (by decide +kernel)⟩
theorem mm_i : Cond.initialized "java/lang/Math" ∈ mT := inT_mem (h := 1019) (by decide +kernel)
theorem mm_9002 : Cond.static Lib.Math.max.name ∈ mT ∧ Cond.code Lib.Math.max.name Lib.Math.max.code 2 (some .int) ∈ mT ∧ mMN 9002 = Lib.Math.max.name := ⟨inT_mem (h := 3093) (by decide +kernel), inT_mem (h := 3094) (by decide +kernel), by decide +kernel⟩
theorem mm_9003 : Cond.static Lib.Math.min.name ∈ mT ∧ Cond.code Lib.Math.min.name Lib.Math.min.code 2 (some .int) ∈ mT ∧ mMN 9003 = Lib.Math.min.name := ⟨inT_mem (h := 3090) (by decide +kernel), inT_mem (h := 3091) (by decide +kernel), by decide +kernel⟩
theorem mm_9004 : Cond.static Lib.MathLoose.max_long.x ∈ mT ∧ Cond.code Lib.MathLoose.max_long.x Lib.MathLoose.max_long.code 4 (some .long) ∈ mT ∧ mMN 9004 = Lib.MathLoose.max_long.x := ⟨inT_mem (h := 4079) (by decide +kernel), inT_mem (h := 4080) (by decide +kernel), by decide +kernel⟩
theorem mm_9005 : Cond.static Lib.MathLoose.min_long.x ∈ mT ∧ Cond.code Lib.MathLoose.min_long.x Lib.MathLoose.min_long.code 4 (some .long) ∈ mT ∧ mMN 9005 = Lib.MathLoose.min_long.x := ⟨inT_mem (h := 4076) (by decide +kernel), inT_mem (h := 4077) (by decide +kernel), by decide +kernel⟩
theorem mm_9006 : Cond.static Lib.MathLoose.abs_long.x ∈ mT ∧ Cond.code Lib.MathLoose.abs_long.x Lib.MathLoose.abs_long.code 2 (some .long) ∈ mT ∧ mMN 9006 = Lib.MathLoose.abs_long.x := ⟨inT_mem (h := 3153) (by decide +kernel), inT_mem (h := 3154) (by decide +kernel), by decide +kernel⟩
section CAL3
variable {l : Launch} {b : Nat} {tS : Nat → Value} {D : va_G} {dA : Nat → ClassId} {i9 : Int32} {a9 : Nat → Int32} {y pc : Nat} {L S : List Value} {I A : mI} {B : mB} {P : mP} {R : mR}
theorem catS_sum (hc : ∀ n, (tS n).category = 1) (h : catS S ≤ 8) : ((S.map (tr b tS)).map fun v => v.category).sum ≤ 8 := by
  rw [List.map_map, show ((fun v => v.category) ∘ tr b tS) = fun v => v.category from funext (fun v => tr_cat hc v), ← catS_eq]
  exact h
theorem ms_copyA {n : Nat} {sp dp z : Int32} {q d n0 n1 : Nat} (hd : decode (mCd y) pc = .ok (.invokestatic n, 3)) (hl : Cond.methodLink (mNm y).cls n arraycopyName ∈ mT) (hf : 1 ≤ mRf y) (hr : 60 ≤ mRl y) (hcat : catS S ≤ 8) (ha : ash q = some (0, n0)) (hb : ash d = some (0, n1)) (h1 : ¬ sp < 0) (h2 : ¬ dp < 0) (h3 : ¬ z < 0) (h4 : sp.toNatClampNeg + z.toNatClampNeg ≤ n0) (h5 : dp.toNatClampNeg + z.toNatClampNeg ≤ n1) (h : mj l b tS D dA i9 a9 y (pc + 3) L S I (up1 A d (va_cpy (A q) (A d) sp.toNatClampNeg dp.toNatClampNeg z.toNatClampNeg)) B P R) : mj l b tS D dA i9 a9 y pc L (.int z :: .int dp :: .ref d :: .int sp :: .ref q :: S) I A B P R := by
  intro p e RM s m ar below meth c H locs cells slots Q ls hy cx sx wl lo hll rk
  have hsum := catS_sum (b := b) (out_cat sx.2.2) hcat
  have hw : nativeFrameWords "java/lang/System" "arraycopy" 5 = 7 := by decide
  refine va_copyi cx.1 cx.2.1 (cx.2.2.1.trans (lo.1.trans hll).symm) cx.2.2.2.1 (cx.2.2.2.2.1 _ hl) (cx.2.2.2.2.1 _ ac_w.1) (cx.2.2.2.2.1 _ ac_w.2.1) (cx.2.2.2.2.1 _ ac_w.2.2) sx.2.1 wl.1 (Wl_D wl) wl.2.1 q d 0 0 (by rw [wsl_at (ash_lt ha), ce_arr ha]; rfl) (by rw [wsl_at (ash_lt hb), ce_arr hb]; rfl) rfl rfl rfl h1 h2 h3 h4 h5 (fun i _ => rfl) (by have := cx.2.2.2.2.2.1; omega) (by have := cx.2.2.2.2.2.2.1; omega) hd (fun H1 locs1 hP1 hD1 hS1 => ?_)
  rw [wsl_A (A2 := up1 A d (va_cpy (A q) (A d) sp.toNatClampNeg dp.toNatClampNeg z.toNatClampNeg)) hb (by simp) up1_self (fun z hz => up1_row hz)] at hP1
  exact h p e RM s m ar below meth c H1 locs1 cells slots Q ls hy cx sx ⟨hP1, hS1, wl.2.2.1, by rw [up1_row (n900a hb)]; exact wl.2.2.2⟩ lo hll rk
theorem ms_copyB {n : Nat} {sp dp z : Int32} {q d n0 n1 : Nat} (hd : decode (mCd y) pc = .ok (.invokestatic n, 3)) (hl : Cond.methodLink (mNm y).cls n arraycopyName ∈ mT) (hf : 1 ≤ mRf y) (hr : 60 ≤ mRl y) (hcat : catS S ≤ 8) (ha : ash q = some (1, n0)) (hb : ash d = some (1, n1)) (h1 : ¬ sp < 0) (h2 : ¬ dp < 0) (h3 : ¬ z < 0) (h4 : sp.toNatClampNeg + z.toNatClampNeg ≤ n0) (h5 : dp.toNatClampNeg + z.toNatClampNeg ≤ n1) (h : mj l b tS D dA i9 a9 y (pc + 3) L S I A (up1 B d (va_cpy (B q) (B d) sp.toNatClampNeg dp.toNatClampNeg z.toNatClampNeg)) P R) : mj l b tS D dA i9 a9 y pc L (.int z :: .int dp :: .ref d :: .int sp :: .ref q :: S) I A B P R := by
  intro p e RM s m ar below meth c H locs cells slots Q ls hy cx sx wl lo hll rk
  have hsum := catS_sum (b := b) (out_cat sx.2.2) hcat
  have hw : nativeFrameWords "java/lang/System" "arraycopy" 5 = 7 := by decide
  refine va_copyl cx.1 cx.2.1 (cx.2.2.1.trans (lo.1.trans hll).symm) cx.2.2.2.1 (cx.2.2.2.2.1 _ hl) (cx.2.2.2.2.1 _ ac_w.1) (cx.2.2.2.2.1 _ ac_w.2.1) (cx.2.2.2.2.1 _ ac_w.2.2) sx.2.1 wl.1 (Wl_D wl) wl.2.1 q d 1 1 (by rw [wsl_at (ash_lt ha), ce_arr ha]; rfl) (by rw [wsl_at (ash_lt hb), ce_arr hb]; rfl) rfl rfl rfl h1 h2 h3 h4 h5 (fun i _ => rfl) (by have := cx.2.2.2.2.2.1; omega) (by have := cx.2.2.2.2.2.2.1; omega) hd (fun H1 locs1 hP1 hD1 hS1 => ?_)
  rw [wsl_B (B2 := up1 B d (va_cpy (B q) (B d) sp.toNatClampNeg dp.toNatClampNeg z.toNatClampNeg)) hb (by simp) up1_self (fun z hz => up1_row hz)] at hP1
  exact h p e RM s m ar below meth c H1 locs1 cells slots Q ls hy cx sx ⟨hP1, hS1, wl.2.2.1, wl.2.2.2⟩ lo hll rk
theorem ms_m9002 {n : Nat} {x z : Int32} (hd : decode (mCd y) pc = .ok (.invokestatic n, 3)) (hl : Cond.methodLink (mNm y).cls n (mMN 9002) ∈ mT) (hf : 1 ≤ mRf y) (hr : 60 ≤ mRl y) (hcat : catS S ≤ 8) (h : mj l b tS D dA i9 a9 y (pc + 3) L (.int (if x < z then z else x) :: S) I A B P R) : mj l b tS D dA i9 a9 y pc L (.int z :: .int x :: S) I A B P R := by
  intro p e RM s m ar below meth c H locs cells slots Q ls hy cx sx wl lo hll rk
  have hsum := catS_sum (b := b) (out_cat sx.2.2) hcat
  rw [mm_9002.2.2] at hl
  exact va_mmax cx.1 cx.2.1 (cx.2.2.1.trans (lo.1.trans hll).symm) cx.2.2.2.1 (cx.2.2.2.2.1 _ hl) (cx.2.2.2.2.1 _ mm_9002.1) (cx.2.2.2.2.1 _ mm_i) (cx.2.2.2.2.1 _ mm_9002.2.1) (by have := cx.2.2.2.2.2.1; omega) (by have := cx.2.2.2.2.2.2.1; omega) cx.2.2.2.2.2.2.2.1 cx.2.2.2.2.2.2.2.2 hd (h p e RM s m ar below meth c H locs cells slots Q ls hy cx sx wl lo hll rk)
theorem ms_m9003 {n : Nat} {x z : Int32} (hd : decode (mCd y) pc = .ok (.invokestatic n, 3)) (hl : Cond.methodLink (mNm y).cls n (mMN 9003) ∈ mT) (hf : 1 ≤ mRf y) (hr : 60 ≤ mRl y) (hcat : catS S ≤ 8) (h : mj l b tS D dA i9 a9 y (pc + 3) L (.int (if z < x then z else x) :: S) I A B P R) : mj l b tS D dA i9 a9 y pc L (.int z :: .int x :: S) I A B P R := by
  intro p e RM s m ar below meth c H locs cells slots Q ls hy cx sx wl lo hll rk
  have hsum := catS_sum (b := b) (out_cat sx.2.2) hcat
  rw [mm_9003.2.2] at hl
  exact va_mmin cx.1 cx.2.1 (cx.2.2.1.trans (lo.1.trans hll).symm) cx.2.2.2.1 (cx.2.2.2.2.1 _ hl) (cx.2.2.2.2.1 _ mm_9003.1) (cx.2.2.2.2.1 _ mm_i) (cx.2.2.2.2.1 _ mm_9003.2.1) (by have := cx.2.2.2.2.2.1; omega) (by have := cx.2.2.2.2.2.2.1; omega) cx.2.2.2.2.2.2.2.1 cx.2.2.2.2.2.2.2.2 hd (h p e RM s m ar below meth c H locs cells slots Q ls hy cx sx wl lo hll rk)
theorem ms_m9004 {n : Nat} {x z : Int64} (hd : decode (mCd y) pc = .ok (.invokestatic n, 3)) (hl : Cond.methodLink (mNm y).cls n (mMN 9004) ∈ mT) (hf : 1 ≤ mRf y) (hr : 60 ≤ mRl y) (hcat : catS S ≤ 8) (h : mj l b tS D dA i9 a9 y (pc + 3) L (.long (if z < x then x else z) :: S) I A B P R) : mj l b tS D dA i9 a9 y pc L (.long z :: .long x :: S) I A B P R := by
  intro p e RM s m ar below meth c H locs cells slots Q ls hy cx sx wl lo hll rk
  have hsum := catS_sum (b := b) (out_cat sx.2.2) hcat
  rw [mm_9004.2.2] at hl
  exact va_mmax_long cx.1 cx.2.1 (cx.2.2.1.trans (lo.1.trans hll).symm) cx.2.2.2.1 (cx.2.2.2.2.1 _ hl) (cx.2.2.2.2.1 _ mm_9004.1) (cx.2.2.2.2.1 _ mm_i) (cx.2.2.2.2.1 _ mm_9004.2.1) (by have := cx.2.2.2.2.2.1; omega) (by have := cx.2.2.2.2.2.2.1; omega) cx.2.2.2.2.2.2.2.1 cx.2.2.2.2.2.2.2.2 hd (h p e RM s m ar below meth c H locs cells slots Q ls hy cx sx wl lo hll rk)
theorem ms_m9005 {n : Nat} {x z : Int64} (hd : decode (mCd y) pc = .ok (.invokestatic n, 3)) (hl : Cond.methodLink (mNm y).cls n (mMN 9005) ∈ mT) (hf : 1 ≤ mRf y) (hr : 60 ≤ mRl y) (hcat : catS S ≤ 8) (h : mj l b tS D dA i9 a9 y (pc + 3) L (.long (if z < x then z else x) :: S) I A B P R) : mj l b tS D dA i9 a9 y pc L (.long z :: .long x :: S) I A B P R := by
  intro p e RM s m ar below meth c H locs cells slots Q ls hy cx sx wl lo hll rk
  have hsum := catS_sum (b := b) (out_cat sx.2.2) hcat
  rw [mm_9005.2.2] at hl
  exact va_mmin_long cx.1 cx.2.1 (cx.2.2.1.trans (lo.1.trans hll).symm) cx.2.2.2.1 (cx.2.2.2.2.1 _ hl) (cx.2.2.2.2.1 _ mm_9005.1) (cx.2.2.2.2.1 _ mm_i) (cx.2.2.2.2.1 _ mm_9005.2.1) (by have := cx.2.2.2.2.2.1; omega) (by have := cx.2.2.2.2.2.2.1; omega) cx.2.2.2.2.2.2.2.1 cx.2.2.2.2.2.2.2.2 hd (h p e RM s m ar below meth c H locs cells slots Q ls hy cx sx wl lo hll rk)
theorem ms_m9006 {n : Nat} {x : Int64} (hd : decode (mCd y) pc = .ok (.invokestatic n, 3)) (hl : Cond.methodLink (mNm y).cls n (mMN 9006) ∈ mT) (hf : 1 ≤ mRf y) (hr : 60 ≤ mRl y) (hcat : catS S ≤ 8) (h : mj l b tS D dA i9 a9 y (pc + 3) L (.long (if 0 < x then x else -x) :: S) I A B P R) : mj l b tS D dA i9 a9 y pc L (.long x :: S) I A B P R := by
  intro p e RM s m ar below meth c H locs cells slots Q ls hy cx sx wl lo hll rk
  have hsum := catS_sum (b := b) (out_cat sx.2.2) hcat
  rw [mm_9006.2.2] at hl
  exact va_mabs_long cx.1 cx.2.1 (cx.2.2.1.trans (lo.1.trans hll).symm) cx.2.2.2.1 (cx.2.2.2.2.1 _ hl) (cx.2.2.2.2.1 _ mm_9006.1) (cx.2.2.2.2.1 _ mm_i) (cx.2.2.2.2.1 _ mm_9006.2.1) (by have := cx.2.2.2.2.2.1; omega) (by have := cx.2.2.2.2.2.2.1; omega) cx.2.2.2.2.2.2.2.1 cx.2.2.2.2.2.2.2.2 hd (h p e RM s m ar below meth c H locs cells slots Q ls hy cx sx wl lo hll rk)
theorem ldcwS {p : Program} {e : Env} {RM : Room} {s : State} {m : MethodId} {args : Array Value} {below : List Frame} {meth : Method} {c : Code} {T : State} {locs : List Loc} {cells slots : Nat} (X : Stand p l e RM s m args below meth c T locs cells slots) (hexec : p.tables.exec = Jvm.exec) {own text : String} {index : Nat} {a : Addr} (hown : s.vm.findClass own = some m.cls)
    (hconst : (Cond.stringRef own index text).before args s = true) (hev : (Term.string own index).eval args s none [] s = some (.ref a)) {g : JFrame} (hg : g.method = m) (hdg : decode c.code g.pc = .ok (.ldc_w index, 3)) :
    ∀ target, Steps p.tables e below (T.setTop { g with pc := g.pc + 3, stack := .ref a :: g.stack }) target → Steps p.tables e below (T.setTop g) target := by
  obtain ⟨k, cf, i, a', hk, hcf, hcp, -, hr, hev'⟩ := Cond.stringRef_spec hown hconst
  cases hev.symm.trans hev'
  obtain ⟨k', hk', he⟩ := X.warmed.alike.2.2 _ _ hk
  have hr' : k'.resolved[index]? = some (some (.string a)) := by
    rcases X.warmed.entry hk hk' index with h | ⟨h, -⟩
    · rw [h]; exact hr
    · rw [hr] at h; cases h
  intro target hrest
  subst hg
  jvm_step X.here [hexec, hdg, ldc_w.wp_string (e := e) (s := T) (f := g) X.here.top hk' (by rw [he]; exact hcf) hcp hr']
  exact hrest
theorem ms_ldcS {n : Nat} {q : Nat × Nat × Nat} (hd : decode (mCd y) pc = .ok (.ldc n, 2)) (hq : q ∈ mST) (ho : nth "" mOW q.1 = (mNm y).cls) (hn : q.2.1 = n) (hi : q.2.2 < 14) (h : mj l b tS D dA i9 a9 y (pc + 2) L (.retAddr (1 + q.2.2) :: S) I A B P R) : mj l b tS D dA i9 a9 y pc L S I A B P R := by
  intro p e RM s m ar below meth c H locs cells slots Q ls hy cx sx wl lo hll rk
  obtain ⟨adK, adV, k1, k2, k3⟩ := sx.2.2.2.2.1
  obtain ⟨t, ht⟩ := k3 q hq
  rw [ho] at ht
  have h1 := h p e RM s m ar below meth c H locs cells slots Q ls hy cx sx wl lo hll rk
  rw [List.map_cons, show tr b tS (.retAddr (1 + q.2.2)) = .ref (adK q.2.2) from (k1 _ hi).1] at h1
  rw [hn] at ht
  exact va_ldcS cx.1 cx.2.1 cx.2.2.2.1 ht hd h1
theorem ms_ldcwS {n : Nat} {q : Nat × Nat × Nat} (hd : decode (mCd y) pc = .ok (.ldc_w n, 3)) (hq : q ∈ mST) (ho : nth "" mOW q.1 = (mNm y).cls) (hn : q.2.1 = n) (hi : q.2.2 < 14) (h : mj l b tS D dA i9 a9 y (pc + 3) L (.retAddr (1 + q.2.2) :: S) I A B P R) : mj l b tS D dA i9 a9 y pc L S I A B P R := by
  intro p e RM s m ar below meth c H locs cells slots Q ls hy cx sx wl lo hll rk
  obtain ⟨adK, adV, k1, k2, k3⟩ := sx.2.2.2.2.1
  obtain ⟨t, ht⟩ := k3 q hq
  rw [ho] at ht
  have h1 := h p e RM s m ar below meth c H locs cells slots Q ls hy cx sx wl lo hll rk
  rw [List.map_cons, show tr b tS (.retAddr (1 + q.2.2)) = .ref (adK q.2.2) from (k1 _ hi).1] at h1
  rw [hn] at ht
  intro T hT X
  obtain ⟨t2, a2, b2⟩ := h1 T hT X
  exact ⟨t2, ldcwS X cx.1 cx.2.2.2.1 (text := t) (a := adK q.2.2) ht.1 ht.2 (g := F0 m pc ls (S.map (tr b tS))) rfl (by rw [cx.2.1]; exact hd) t2 a2, b2⟩
theorem ms_getV {n i : Nat} (hd : decode (mCd y) pc = .ok (.getfield n, 3)) (hl : Cond.fieldLink (mNm y).cls n "java/lang/String" "value" "[B" ∈ mT) (hi : i < 14) (h : mj l b tS D dA i9 a9 y (pc + 3) L (.retAddr (101 + i) :: S) I A B P R) : mj l b tS D dA i9 a9 y pc L (.retAddr (1 + i) :: S) I A B P R := by
  intro p e RM s m ar below meth c H locs cells slots Q ls hy cx sx wl lo hll rk
  obtain ⟨adK, adV, k1, k2, k3⟩ := sx.2.2.2.2.1
  have h1 := h p e RM s m ar below meth c H locs cells slots Q ls hy cx sx wl lo hll rk
  rw [List.map_cons, show tr b tS (.retAddr (101 + i)) = .ref (adV i) from (k1 _ hi).2] at h1
  rw [List.map_cons, show tr b tS (.retAddr (1 + i)) = .ref (adK i) from (k1 _ hi).1]
  exact vk_getf cx.1 cx.2.1 (k2.1 i hi).2.2.1 wl.2.1 cx.2.2.2.1 (cx.2.2.2.2.1 _ hl) (fun x q => q) hd h1
theorem ms_getC {n i : Nat} (hd : decode (mCd y) pc = .ok (.getfield n, 3)) (hl : Cond.fieldLink (mNm y).cls n "java/lang/String" "coder" "B" ∈ mT) (hi : i < 14) (h : mj l b tS D dA i9 a9 y (pc + 3) L (.int 0 :: S) I A B P R) : mj l b tS D dA i9 a9 y pc L (.retAddr (1 + i) :: S) I A B P R := by
  intro p e RM s m ar below meth c H locs cells slots Q ls hy cx sx wl lo hll rk
  obtain ⟨adK, adV, k1, k2, k3⟩ := sx.2.2.2.2.1
  rw [List.map_cons, show tr b tS (.retAddr (1 + i)) = .ref (adK i) from (k1 _ hi).1]
  exact vk_getf cx.1 cx.2.1 (k2.1 i hi).2.1 wl.2.1 cx.2.2.2.1 (cx.2.2.2.2.1 _ hl) (fun x q => q) hd (h p e RM s m ar below meth c H locs cells slots Q ls hy cx sx wl lo hll rk)
theorem txl {i : Nat} (h : i < 14) : ((List.range 14).map (fun i => (tx i).length)).getD i 0 = (tx i).length ∧ ((List.range 14).map tx).getD i [] = tx i := by
  simp [List.getD_eq_getElem?_getD, h]
theorem ms_tlen {i : Nat} (hd : decode (mCd y) pc = .ok (.arraylength, 1)) (hi : i < 14) (h : mj l b tS D dA i9 a9 y (pc + 1) L (.int (Int32.ofNat (tx i).length) :: S) I A B P R) : mj l b tS D dA i9 a9 y pc L (.retAddr (101 + i) :: S) I A B P R := by
  intro p e RM s m ar below meth c H locs cells slots Q ls hy cx sx wl lo hll rk
  obtain ⟨adK, adV, k1, k2, k3⟩ := sx.2.2.2.2.1
  rw [List.map_cons, show tr b tS (.retAddr (101 + i)) = .ref (adV i) from (k1 _ hi).2]
  exact va_tlen cx.1 cx.2.1 (k2.1 i hi).2.2.2 wl.2.1 (by rw [(txl hi).1]) hd (h p e RM s m ar below meth c H locs cells slots Q ls hy cx sx wl lo hll rk)
theorem ms_tld {i : Nat} {j : Int32} (hd : decode (mCd y) pc = .ok (.baload, 1)) (hi : i < 14) (hin : vp_in j (tx i).length) (h : mj l b tS D dA i9 a9 y (pc + 1) L (.int ((tx i).getD j.toNatClampNeg 0) :: S) I A B P R) : mj l b tS D dA i9 a9 y pc L (.int j :: .retAddr (101 + i) :: S) I A B P R := by
  intro p e RM s m ar below meth c H locs cells slots Q ls hy cx sx wl lo hll rk
  obtain ⟨adK, adV, k1, k2, k3⟩ := sx.2.2.2.2.1
  rw [List.map_cons, List.map_cons, show tr b tS (.retAddr (101 + i)) = .ref (adV i) from (k1 _ hi).2]
  exact va_tb cx.1 cx.2.1 (k2.1 i hi).2.2.2 wl.2.1 (by rw [(txl hi).1]; exact hin) (by simp only [(txl hi).2]; rfl) hd (h p e RM s m ar below meth c H locs cells slots Q ls hy cx sx wl lo hll rk)
theorem ms_gs0 {n : Nat} (hd : decode (mCd y) pc = .ok (.getstatic n, 3)) (hl : Cond.fieldLink (mNm y).cls n "java/lang/String" "COMPACT_STRINGS" "Z" ∈ mT) (h : mj l b tS D dA i9 a9 y (pc + 3) L (.int 1 :: S) I A B P R) : mj l b tS D dA i9 a9 y pc L S I A B P R := by
  intro p e RM s m ar below meth c H locs cells slots Q ls hy cx sx wl lo hll rk
  exact va_gets cx.1 cx.2.1 sx.2.2.2.2.2.1 wl.2.1 cx.2.2.2.1 (cx.2.2.2.2.1 _ hl) (fun x q => q) hd (h p e RM s m ar below meth c H locs cells slots Q ls hy cx sx wl lo hll rk)
theorem ms_gs1 {n : Nat} (hd : decode (mCd y) pc = .ok (.getstatic n, 3)) (hl : Cond.fieldLink (mNm y).cls n "jdk/internal/util/Preconditions" "SIOOBE_FORMATTER" "Ljava/util/function/BiFunction;" ∈ mT) (h : mj l b tS D dA i9 a9 y (pc + 3) L (.retAddr 999 :: S) I A B P R) : mj l b tS D dA i9 a9 y pc L S I A B P R := by
  intro p e RM s m ar below meth c H locs cells slots Q ls hy cx sx wl lo hll rk
  exact va_gets cx.1 cx.2.1 sx.2.2.2.2.2.2.1 wl.2.1 cx.2.2.2.1 (cx.2.2.2.2.1 _ hl) (fun x q => q) hd (h p e RM s m ar below meth c H locs cells slots Q ls hy cx sx wl lo hll rk)
end CAL3
end
section
/-! the machine's own judgement obeys the small machine: part 7, any instruction, any run (written by wip/whole/gen7.py) -/
theorem ok_dec {y pc nx tg ax : Nat} {i : Jvm.ClassFile.Instr} (ok : okE y pc (i, nx, tg, ax) = true) (hlc : isLc i = false) (n : Nat) (hn : ilen i = n) (h0 : n ≠ 0) : decode (mCd y) pc = .ok (i, n) ∧ nx = pc + n ∧ okX y pc i tg ax = true := by
  unfold okE at ok
  rw [hlc] at ok
  simp only [cond_false, Bool.and_eq_true, decide_eq_true_eq, Bool.or_eq_true] at ok
  obtain ⟨h1, h2, h3, h4⟩ := ok
  have h2 := Nat.le_of_ble_eq_true h2
  have h3 : nx - pc = n := by
    rcases h3 with h3 | h3
    · exact absurd ((Nat.eq_of_beq_eq_true h3).symm.trans hn).symm h0
    · exact (Nat.eq_of_beq_eq_true h3).trans hn
  rw [h3] at h1
  exact ⟨h1, by omega, h4⟩
theorem ok_sw {y pc nx tg ax : Nat} {i : Jvm.ClassFile.Instr} (ok : okE y pc (i, nx, tg, ax) = true) (hlc : isLc i = false) : decode (mCd y) pc = .ok (i, nx - pc) ∧ okX y pc i tg ax = true := by
  unfold okE at ok
  rw [hlc] at ok
  simp only [cond_false, Bool.and_eq_true, decide_eq_true_eq] at ok
  exact ⟨ok.1, ok.2.2.2⟩
theorem ok_lc {y pc nx tg ax : Nat} (ok : okE y pc (.lcmp, nx, tg, ax) = true) : decode (mCd y) pc = .ok (.lcmp, 1) ∧ nx = pc + 4 ∧ ∃ (c : Jvm.ClassFile.Cond) (off : Int), decode (mCd y) (pc + 1) = .ok (.ifCond c off, 3) ∧ ((pc + 1 : Nat) : Int) + off = (tg : Int) ∧ cndN c = ax := by
  have ok : (decide (decode (mCd y) pc = .ok (.lcmp, 1)) && (Nat.beq nx (pc + 4) && (match decode (mCd y) (pc + 1) with
        | .ok (.ifCond c off, 3) => decide (((pc + 1 : Nat) : Int) + off = (tg : Int)) && Nat.beq (cndN c) ax
        | _ => false))) = true := ok
  simp only [Bool.and_eq_true, decide_eq_true_eq] at ok
  obtain ⟨h1, h2, h3⟩ := ok
  refine ⟨h1, Nat.eq_of_beq_eq_true h2, ?_⟩
  split at h3
  · rename_i c off hd
    simp only [Bool.and_eq_true, decide_eq_true_eq] at h3
    exact ⟨c, off, hd, h3.1, Nat.eq_of_beq_eq_true h3.2⟩
  · cases h3
theorem any3_inv {l : List (Nat × Nat × Nat)} {a b c : Nat} (h : any3 l a b c = true) : (a, b, c) ∈ l := by
  obtain ⟨q, hq, h⟩ := List.any_eq_true.mp h
  simp only [Bool.and_eq_true] at h
  obtain ⟨⟨h1, h2⟩, h3⟩ := h
  have e1 := Nat.eq_of_beq_eq_true h1
  have e2 := Nat.eq_of_beq_eq_true h2
  have e3 := Nat.eq_of_beq_eq_true h3
  obtain ⟨a', b', c'⟩ := q
  simp only at e1 e2 e3
  subst e1; subst e2; subst e3
  exact hq
theorem any4_inv {l : List (Nat × Nat × Nat × Nat)} {a b c : Nat} (h : any4 l a b c = true) : ∃ d, (a, b, c, d) ∈ l := by
  obtain ⟨q, hq, h⟩ := List.any_eq_true.mp h
  simp only [Bool.and_eq_true] at h
  obtain ⟨⟨h1, h2⟩, h3⟩ := h
  have e1 := Nat.eq_of_beq_eq_true h1
  have e2 := Nat.eq_of_beq_eq_true h2
  have e3 := Nat.eq_of_beq_eq_true h3
  obtain ⟨a', b', c', d'⟩ := q
  simp only at e1 e2 e3
  subst e1; subst e2; subst e3
  exact ⟨_, hq⟩
theorem any5_inv {l : List (Nat × Nat × Nat × Nat × Nat)} {a b c d : Nat} (h : any5 l a b c d = true) : ∃ e, (a, b, c, d, e) ∈ l := by
  obtain ⟨q, hq, h⟩ := List.any_eq_true.mp h
  simp only [Bool.and_eq_true] at h
  obtain ⟨⟨⟨h1, h2⟩, h4⟩, h3⟩ := h
  have e1 := Nat.eq_of_beq_eq_true h1
  have e2 := Nat.eq_of_beq_eq_true h2
  have e3 := Nat.eq_of_beq_eq_true h3
  have e4 := Nat.eq_of_beq_eq_true h4
  obtain ⟨a', b', c', d', f'⟩ := q
  simp only at e1 e2 e3 e4
  subst e1; subst e2; subst e3; subst e4
  exact ⟨_, hq⟩
theorem law_own : nth "" mOW (mOw 378) = (mNm 378).cls ∧ rtc (mRt 378) = (mr 378).2.1 := by decide +kernel
theorem own_eq {y : Nat} (hy : y < 379) : nth "" mOW (mOw y) = (mNm y).cls := by
  by_cases h : y < 378
  · exact (okY_parts (okY_all h)).2.2.1
  · have e : y = 378 := by omega
    subst e
    exact law_own.1
theorem rt_eq {y : Nat} (hy : y < 379) : rtc (mRt y) = (mr y).2.1 := by
  by_cases h : y < 378
  · exact (okY_parts (okY_all h)).2.2.2.1
  · have e : y = 378 := by omega
    subst e
    exact law_own.2
theorem FL_of {y n c j : Nat} (hy : y < 379) (h : any5 mFL (mOw y) n c j = true) : FL y n c j := by
  obtain ⟨hh, hm⟩ := any5_inv h
  have h1 := List.all_eq_true.mp mFL_r _ hm
  simp only at h1
  cases hq : vwCl[c]? with
  | none => rw [hq] at h1; cases h1
  | some q =>
    obtain ⟨C, T, N⟩ := q
    rw [hq] at h1
    simp only [Bool.and_eq_true, decide_eq_true_eq] at h1
    refine ⟨(C, T, N), hq, Nat.le_of_ble_eq_true h1.1.1, h1.2, ?_⟩
    have := inT_mem h1.1.2
    rw [own_eq hy] at this
    exact this
theorem CL_of {y n ax : Nat} (hy : y < 379) (h : okC y (mOw y) n ax = true) : CL y n ax := by
  unfold okC at h
  simp only [Bool.and_eq_true] at h
  obtain ⟨h1, h2, h3⟩ := h
  obtain ⟨hh, hm⟩ := any4_inv h1
  have h4 := List.all_eq_true.mp mML_r _ hm
  simp only [Bool.and_eq_true] at h4
  have h5 := inT_mem h4.2
  rw [own_eq hy] at h5
  exact ⟨Nat.le_of_ble_eq_true h4.1, h5, Nat.le_of_ble_eq_true h2, Nat.le_of_ble_eq_true h3⟩
theorem CI_of {y n ax : Nat} (hy : y < 379) (h : any4 mCI (mOw y) n ax = true) : Cond.constant (mNm y).cls n (kI ax) ∈ mT := by
  obtain ⟨hh, hm⟩ := any4_inv h
  have h5 := inT_mem (List.all_eq_true.mp mCI_r _ hm)
  rwa [own_eq hy] at h5
theorem CJ_of {y n ax : Nat} (hy : y < 379) (h : any4 mCL (mOw y) n ax = true) : Cond.constantLong (mNm y).cls n (kL ax) ∈ mT := by
  obtain ⟨hh, hm⟩ := any4_inv h
  have h5 := inT_mem (List.all_eq_true.mp mCL_r _ hm)
  rwa [own_eq hy] at h5
theorem SF_of {y n ax : Nat} (hy : y < 379) (h : any4 mSF (mOw y) n ax = true) : Cond.fieldLink (mNm y).cls n (mSW ax).1 (mSW ax).2.1 (mSW ax).2.2 ∈ mT := by
  obtain ⟨hh, hm⟩ := any4_inv h
  have h5 := inT_mem (List.all_eq_true.mp mSF_r _ hm)
  rwa [own_eq hy] at h5
theorem MM_of {y n ax : Nat} (hy : y < 379) (h : any4 mMM (mOw y) n ax = true) : Cond.methodLink (mNm y).cls n (mMN ax) ∈ mT := by
  obtain ⟨hh, hm⟩ := any4_inv h
  have h5 := inT_mem (List.all_eq_true.mp mMM_r _ hm)
  rwa [own_eq hy] at h5
theorem AC_of {y n : Nat} (hy : y < 379) (h : mAC.any (fun q => Nat.beq q.2.1 n && Nat.beq q.1 (mOw y)) = true) : Cond.methodLink (mNm y).cls n arraycopyName ∈ mT := by
  obtain ⟨q, hq, h⟩ := List.any_eq_true.mp h
  simp only [Bool.and_eq_true] at h
  have h5 := inT_mem (List.all_eq_true.mp mAC_r _ hq)
  rw [Nat.eq_of_beq_eq_true h.1, Nat.eq_of_beq_eq_true h.2] at h5
  rwa [own_eq hy] at h5
theorem mMM_le : mMM.all (fun q => Nat.ble q.2.2.1 9006) = true := by decide +kernel
theorem mST_r : mST.all (fun q => Nat.blt q.2.2 14) = true := by decide +kernel
theorem ST_of {y n t : Nat} (hy : y < 379) (h : any3 mST (mOw y) n t = true) : (mOw y, n, t) ∈ mST ∧ t < 14 := by
  have h1 := any3_inv h
  exact ⟨h1, Nat.le_of_ble_eq_true (List.all_eq_true.mp mST_r _ h1)⟩
theorem i32_ofInt {v : Int} (h1 : -1000 ≤ v) (h2 : v ≤ 1000) : (Int32.ofInt v).toInt = v := by
  rw [Int32.toInt_ofInt]
  simp [Int.bmod]
  omega
theorem swP_tab {x : Int32} {dt : Nat} {k : Nat → Prop} {pc df : Int} (hdt : pc + df = (dt : Int)) : ∀ (offs : List Int) (v : Int), -1000 ≤ v → v + offs.length ≤ 1001 → swP x dt k (swL pc df v offs) → (∀ (j : Nat) (o : Int), offs[j]? = some o → x.toInt = v + j → k (pc + o).toNat) ∧ ((x.toInt < v ∨ v + offs.length ≤ x.toInt) → k dt)
  | [], v, _, _, h => ⟨fun j o hj => by simp at hj, fun _ => h⟩
  | o :: l, v, h1, h2, h => by
    simp only [List.length_cons] at h2
    by_cases hod : o = df
    · have h : swP x dt k (swL pc df (v + 1) l) := by
        have e : swL pc df v (o :: l) = swL pc df (v + 1) l := by simp [swL, hod]
        rwa [e] at h
      obtain ⟨i1, i2⟩ := swP_tab hdt l (v + 1) (by omega) (by omega) h
      refine ⟨fun j o2 hj hx => ?_, fun hx => i2 (by simp only [List.length_cons] at hx; omega)⟩
      cases j with
      | zero =>
        have e : o = o2 := by simpa using hj
        subst e
        subst hod
        rw [hdt]
        exact i2 (Or.inl (by omega))
      | succ j => exact i1 j o2 (by simpa using hj) (by omega)
    · have h : swP x dt k ((Int32.ofInt v, (pc + o).toNat) :: swL pc df (v + 1) l) := by
        have e : swL pc df v (o :: l) = (Int32.ofInt v, (pc + o).toNat) :: swL pc df (v + 1) l := by simp [swL, hod]
        rwa [e] at h
      obtain ⟨g1, g2⟩ := h
      have hv := i32_ofInt h1 (by omega)
      have hne : x.toInt ≠ v → ¬ x = Int32.ofInt v := fun q e => q (by rw [e, hv])
      refine ⟨fun j o2 hj hx => ?_, fun hx => ?_⟩
      · cases j with
        | zero =>
          have e : o = o2 := by simpa using hj
          subst e
          exact g1 (Int32.toInt_inj.mp (by rw [hv]; omega))
        | succ j => exact (swP_tab hdt l (v + 1) (by omega) (by omega) (g2 (hne (by omega)))).1 j o2 (by simpa using hj) (by omega)
      · simp only [List.length_cons] at hx
        exact (swP_tab hdt l (v + 1) (by omega) (by omega) (g2 (hne (by omega)))).2 (by omega)
theorem swP_look {x : Int32} {dt : Nat} {k : Nat → Prop} {pc df : Int} (hdt : pc + df = (dt : Int)) : ∀ (ps : List (Int × Int)), (∀ q ∈ ps, -1000 ≤ q.1 ∧ q.1 ≤ 1000 ∧ 0 ≤ pc + q.2) → swP x dt k (ps.map (fun q => (Int32.ofInt q.1, (pc + q.2).toNat))) → ∃ (off : Int) (tg : Nat), Op.lookupswitch.offset ps df x.toInt = off ∧ pc + off = (tg : Int) ∧ k tg
  | [], _, h => ⟨df, dt, rfl, hdt, h⟩
  | q :: l, hq, h => by
    obtain ⟨g1, g2⟩ := h
    obtain ⟨a, o⟩ := q
    obtain ⟨b1, b2, b3⟩ := hq (a, o) List.mem_cons_self
    have hv := i32_ofInt b1 b2
    rw [Op.lookupswitch.offset_cons]
    by_cases e : a = x.toInt
    · refine ⟨o, (pc + o).toNat, by rw [if_pos e], by simp only at b3; omega, g1 (Int32.toInt_inj.mp (by rw [hv]; exact e.symm))⟩
    · rw [if_neg e]
      exact swP_look hdt l (fun q h => hq q (List.mem_cons_of_mem _ h)) (g2 (fun z => e (by rw [z, hv])))
section ANY
variable {l : Launch} {b : Nat} {tS : Nat → Value} {D : va_G} {dA : Nat → ClassId} {i9 : Int32} {a9 : Nat → Int32} {y pc : Nat} {L S : List Value} {I A : mI} {B : mB} {P : mP} {R : mR}
theorem ms_ret {v : Option Value} (hR : R v I A B P) (hat : RetAt y pc v) : mj l b tS D dA i9 a9 y pc L (pushO v []) I A B P R := by
  intro p e RM s m ar below meth c H locs cells slots Q ls hy cx sx wl lo hll rk
  exact rk v I A B P H locs pc ls hR wl hat
theorem ms_tsw {d lo hi : Int} {offs : Array Int} {n dt : Nat} {x : Int32} {prs : List (Int32 × Nat)} (hd : decode (mCd y) pc = .ok (.tableswitch d lo hi offs, n)) (h1 : (pc : Int) + d = (dt : Int)) (h2 : swL pc d lo offs.toList = prs) (h3 : (offs.size : Int) = hi - lo + 1) (h4 : -1000 ≤ lo) (h5 : hi ≤ 1000) (h6 : offs.toList.all (fun o => decide (0 ≤ (pc : Int) + o)) = true) (h : swP x dt (fun t => mj l b tS D dA i9 a9 y t L S I A B P R) prs) : mj l b tS D dA i9 a9 y pc L (.int x :: S) I A B P R := by
  intro p e RM s m ar below meth c H locs cells slots Q ls hy cx sx wl lo_ hll rk
  rw [← h2] at h
  obtain ⟨i1, i2⟩ := swP_tab h1 offs.toList lo h4 (by simp; omega) h
  by_cases hx : x.toInt < lo ∨ hi < x.toInt
  · exact lv_tableOut cx.1 cx.2.1 hd hx h1 (i2 (by simp; omega) p e RM s m ar below meth c H locs cells slots Q ls hy cx sx wl lo_ hll rk)
  · have hj : (x.toInt - lo).toNat < offs.size := by omega
    have ho : offs.toList[(x.toInt - lo).toNat]? = some offs[(x.toInt - lo).toNat] := by simp [hj]
    have hp : 0 ≤ (pc : Int) + offs[(x.toInt - lo).toNat] := of_decide_eq_true (List.all_eq_true.mp h6 _ (List.mem_of_getElem? ho))
    exact lv_tableIn (off := offs[(x.toInt - lo).toNat]) (tgt := ((pc : Int) + offs[(x.toInt - lo).toNat]).toNat) cx.1 cx.2.1 hd (by omega) (by omega) (by simp [hj]) (by omega) (i1 _ _ ho (by omega) p e RM s m ar below meth c H locs cells slots Q ls hy cx sx wl lo_ hll rk)
theorem ms_lsw {d : Int} {ps : Array (Int × Int)} {n dt : Nat} {x : Int32} {prs : List (Int32 × Nat)} (hd : decode (mCd y) pc = .ok (.lookupswitch d ps, n)) (h1 : (pc : Int) + d = (dt : Int)) (h2 : ps.toList.map (fun q => (Int32.ofInt q.1, ((pc : Int) + q.2).toNat)) = prs) (h3 : ∀ q ∈ ps.toList, -1000 ≤ q.1 ∧ q.1 ≤ 1000 ∧ 0 ≤ (pc : Int) + q.2) (h4 : (ps.toList.zip (ps.toList.drop 1)).all (fun (a, next) => a.1 < next.1) = true) (h : swP x dt (fun t => mj l b tS D dA i9 a9 y t L S I A B P R) prs) : mj l b tS D dA i9 a9 y pc L (.int x :: S) I A B P R := by
  intro p e RM s m ar below meth c H locs cells slots Q ls hy cx sx wl lo hll rk
  rw [← h2] at h
  obtain ⟨off, tg, e1, e2, hk⟩ := swP_look h1 ps.toList h3 h
  exact lv_lookup cx.1 cx.2.1 hd h4 e1 e2 (hk p e RM s m ar below meth c H locs cells slots Q ls hy cx sx wl lo hll rk)
theorem ms_step {C : mC} {K : mK} (hy : y < 379) (e : mMI) (ok : okE y pc e = true) (hst : st1 C (mr y).2.1 e L S I A B P K R) (hK : ∀ pc' L' S' I' A' B' P', K pc' L' S' I' A' B' P' → mj l b tS D dA i9 a9 y pc' L' S' I' A' B' P' R) (hC : ∀ y' args I A B P R', C y' args I A B P R' → ∃ L0, mkR y' args L0 ∧ mj l b tS D dA i9 a9 y' 0 L0 [] I A B P R') : mj l b tS D dA i9 a9 y pc L S I A B P R := by
  obtain ⟨i, nx, tg, ax⟩ := e
  cases i with
  | iconst n =>
    obtain ⟨hd, rfl, hx⟩ := ok_dec ok rfl 1 rfl (by decide)
    have hst : kIc ax (fun x => K (pc + 1) L (.int x :: S) I A B P) := hst
    exact ms_iconst hd (of_decide_eq_true hx) (hK _ _ _ _ _ _ _ (kIc_eq hst))
  | bipush n =>
    obtain ⟨hd, rfl, hx⟩ := ok_dec ok rfl 2 rfl (by decide)
    have hst : kIc ax (fun x => K (pc + 2) L (.int x :: S) I A B P) := hst
    exact ms_bipush hd (of_decide_eq_true hx) (hK _ _ _ _ _ _ _ (kIc_eq hst))
  | sipush n =>
    obtain ⟨hd, rfl, hx⟩ := ok_dec ok rfl 3 rfl (by decide)
    have hst : kIc ax (fun x => K (pc + 3) L (.int x :: S) I A B P) := hst
    exact ms_sipush hd (of_decide_eq_true hx) (hK _ _ _ _ _ _ _ (kIc_eq hst))
  | lconst n =>
    obtain ⟨hd, rfl, hx⟩ := ok_dec ok rfl 1 rfl (by decide)
    have hst : kLc ax (fun x => K (pc + 1) L (.long x :: S) I A B P) := hst
    exact ms_lconst hd (of_decide_eq_true hx) (hK _ _ _ _ _ _ _ (kLc_eq hst))
  | aconst_null =>
    obtain ⟨hd, rfl, hx⟩ := ok_dec ok rfl 1 rfl (by decide)
    exact ms_null hd (hK _ _ _ _ _ _ _ hst)
  | ldc n =>
    obtain ⟨hd, rfl, hx⟩ := ok_dec ok rfl 2 rfl (by decide)
    have hx : (bif Nat.ble 1000 ax then (bif Nat.beq ax 9999 then true else any3 mST (mOw y) n (ax - 1000)) else any4 mCI (mOw y) n ax) = true := hx
    have hst : bif Nat.ble 1000 ax then (bif Nat.beq ax 9999 then False else K (pc + 2) L (.retAddr (ax - 999) :: S) I A B P) else kIc ax (fun x => K (pc + 2) L (.int x :: S) I A B P) := hst
    cases hb : Nat.ble 1000 ax with
    | false =>
      rw [hb] at hx hst
      have hst : kIc ax (fun x => K (pc + 2) L (.int x :: S) I A B P) := hst
      exact ms_ldc hd (CI_of hy hx) (hK _ _ _ _ _ _ _ (kIc_eq hst))
    | true =>
      rw [hb] at hx hst
      have hle := Nat.le_of_ble_eq_true hb
      cases hb2 : Nat.beq ax 9999 with
      | true =>
        rw [hb2] at hst
        exact hst.elim
      | false =>
        rw [hb2] at hx hst
        obtain ⟨h1, h2⟩ := ST_of hy hx
        have hst : K (pc + 2) L (.retAddr (1 + (ax - 1000)) :: S) I A B P := by
          rw [show 1 + (ax - 1000) = ax - 999 by omega]
          exact hst
        exact ms_ldcS (q := (mOw y, n, ax - 1000)) hd h1 (own_eq hy) rfl h2 (hK _ _ _ _ _ _ _ hst)
  | ldc_w n =>
    obtain ⟨hd, rfl, hx⟩ := ok_dec ok rfl 3 rfl (by decide)
    have hx : (bif Nat.ble 1000 ax then (bif Nat.beq ax 9999 then true else any3 mST (mOw y) n (ax - 1000)) else any4 mCI (mOw y) n ax) = true := hx
    have hst : bif Nat.ble 1000 ax then (bif Nat.beq ax 9999 then False else K (pc + 3) L (.retAddr (ax - 999) :: S) I A B P) else kIc ax (fun x => K (pc + 3) L (.int x :: S) I A B P) := hst
    cases hb : Nat.ble 1000 ax with
    | false =>
      rw [hb] at hx hst
      have hst : kIc ax (fun x => K (pc + 3) L (.int x :: S) I A B P) := hst
      exact ms_ldcw hd (CI_of hy hx) (hK _ _ _ _ _ _ _ (kIc_eq hst))
    | true =>
      rw [hb] at hx hst
      have hle := Nat.le_of_ble_eq_true hb
      cases hb2 : Nat.beq ax 9999 with
      | true =>
        rw [hb2] at hst
        exact hst.elim
      | false =>
        rw [hb2] at hx hst
        obtain ⟨h1, h2⟩ := ST_of hy hx
        have hst : K (pc + 3) L (.retAddr (1 + (ax - 1000)) :: S) I A B P := by
          rw [show 1 + (ax - 1000) = ax - 999 by omega]
          exact hst
        exact ms_ldcwS (q := (mOw y, n, ax - 1000)) hd h1 (own_eq hy) rfl h2 (hK _ _ _ _ _ _ _ hst)
  | ldc2_w n =>
    obtain ⟨hd, rfl, hx⟩ := ok_dec ok rfl 3 rfl (by decide)
    have hst : kLc ax (fun x => K (pc + 3) L (.long x :: S) I A B P) := hst
    exact ms_ldc2 hd (CJ_of hy hx) (hK _ _ _ _ _ _ _ (kLc_eq hst))
  | iload n =>
    obtain ⟨hd, rfl, hx⟩ := ok_dec ok rfl 2 rfl (by decide)
    obtain ⟨v, hL, hst⟩ := ld_inv hst
    obtain ⟨x, rfl, hst⟩ := isI_inv hst
    exact ms_iload hd hL (hK _ _ _ _ _ _ _ hst)
  | iload_n n =>
    obtain ⟨hd, rfl, hx⟩ := ok_dec ok rfl 1 rfl (by decide)
    obtain ⟨v, hL, hst⟩ := ld_inv hst
    obtain ⟨x, rfl, hst⟩ := isI_inv hst
    exact ms_iload_n hd hL (hK _ _ _ _ _ _ _ hst)
  | lload n =>
    obtain ⟨hd, rfl, hx⟩ := ok_dec ok rfl 2 rfl (by decide)
    obtain ⟨v, hL, hst⟩ := ld_inv hst
    obtain ⟨x, rfl, hst⟩ := isL_inv hst
    exact ms_lload hd hL (hK _ _ _ _ _ _ _ hst)
  | lload_n n =>
    obtain ⟨hd, rfl, hx⟩ := ok_dec ok rfl 1 rfl (by decide)
    obtain ⟨v, hL, hst⟩ := ld_inv hst
    obtain ⟨x, rfl, hst⟩ := isL_inv hst
    exact ms_lload_n hd hL (hK _ _ _ _ _ _ _ hst)
  | aload n =>
    obtain ⟨hd, rfl, hx⟩ := ok_dec ok rfl 2 rfl (by decide)
    obtain ⟨v, hL, hst⟩ := ld_inv hst
    obtain ⟨hv, hst⟩ := isA_inv hst
    exact ms_aload hd hL hv (hK _ _ _ _ _ _ _ hst)
  | aload_n n =>
    obtain ⟨hd, rfl, hx⟩ := ok_dec ok rfl 1 rfl (by decide)
    obtain ⟨v, hL, hst⟩ := ld_inv hst
    obtain ⟨hv, hst⟩ := isA_inv hst
    exact ms_aload_n hd hL hv (hK _ _ _ _ _ _ _ hst)
  | istore n =>
    obtain ⟨hd, rfl, hx⟩ := ok_dec ok rfl 2 rfl (by decide)
    obtain ⟨x, S, e0, h2⟩ := popI_inv hst; clear hst; subst e0; have hst := h2; clear h2
    obtain ⟨L2, hst, hs⟩ := sto_inv hst
    exact ms_istore hd hs (hK _ _ _ _ _ _ _ hst)
  | istore_n n =>
    obtain ⟨hd, rfl, hx⟩ := ok_dec ok rfl 1 rfl (by decide)
    obtain ⟨x, S, e0, h2⟩ := popI_inv hst; clear hst; subst e0; have hst := h2; clear h2
    obtain ⟨L2, hst, hs⟩ := sto_inv hst
    exact ms_istore_n hd hs (hK _ _ _ _ _ _ _ hst)
  | lstore n =>
    obtain ⟨hd, rfl, hx⟩ := ok_dec ok rfl 2 rfl (by decide)
    obtain ⟨x, S, e0, h2⟩ := popL_inv hst; clear hst; subst e0; have hst := h2; clear h2
    obtain ⟨L2, hst, hs⟩ := sto2_inv hst
    exact ms_lstore hd hs (hK _ _ _ _ _ _ _ hst)
  | lstore_n n =>
    obtain ⟨hd, rfl, hx⟩ := ok_dec ok rfl 1 rfl (by decide)
    obtain ⟨x, S, e0, h2⟩ := popL_inv hst; clear hst; subst e0; have hst := h2; clear h2
    obtain ⟨L2, hst, hs⟩ := sto2_inv hst
    exact ms_lstore_n hd hs (hK _ _ _ _ _ _ _ hst)
  | astore n =>
    obtain ⟨hd, rfl, hx⟩ := ok_dec ok rfl 2 rfl (by decide)
    have hst : popV S (fun v S => isN v (fun v => sto v L n (fun L => K (pc + 2) L S I A B P))) := hst
    obtain ⟨v, S, e0, h2⟩ := popV_inv hst; clear hst; subst e0; have hst := h2; clear h2
    obtain ⟨hv, hst⟩ := isN_inv hst
    obtain ⟨L2, h3, hs⟩ := sto_inv hst
    rcases hv with ⟨x, rfl⟩ | rfl
    · exact ms_astore hd hs (hK _ _ _ _ _ _ _ h3)
    · exact ms_astoreN hd hs (hK _ _ _ _ _ _ _ h3)
  | astore_n n =>
    obtain ⟨hd, rfl, hx⟩ := ok_dec ok rfl 1 rfl (by decide)
    have hst : popV S (fun v S => isN v (fun v => sto v L n.val (fun L => K (pc + 1) L S I A B P))) := hst
    obtain ⟨v, S, e0, h2⟩ := popV_inv hst; clear hst; subst e0; have hst := h2; clear h2
    obtain ⟨hv, hst⟩ := isN_inv hst
    obtain ⟨L2, h3, hs⟩ := sto_inv hst
    rcases hv with ⟨x, rfl⟩ | rfl
    · exact ms_astore_n hd hs (hK _ _ _ _ _ _ _ h3)
    · exact ms_astore_nN hd hs (hK _ _ _ _ _ _ _ h3)
  | iinc n d =>
    obtain ⟨hd, rfl, hx⟩ := ok_dec ok rfl 3 rfl (by decide)
    have hst : kIc ax (fun d => ld (fun v => isI v (fun x => sto (.int (x + d)) L n (fun L => K (pc + 3) L S I A B P))) L n) := hst
    have hst := kIc_eq hst
    obtain ⟨v, hL, hst⟩ := ld_inv hst
    obtain ⟨x, rfl, hst⟩ := isI_inv hst
    obtain ⟨L2, hst, hs⟩ := sto_inv hst
    exact ms_iinc hd hL (by rw [show Int32.ofInt d = kI ax from of_decide_eq_true hx]) hs (hK _ _ _ _ _ _ _ hst)
  | iadd =>
    obtain ⟨hd, rfl, hx⟩ := ok_dec ok rfl 1 rfl (by decide)
    obtain ⟨z, S, e0, h2⟩ := popI_inv hst; clear hst; subst e0; have hst := h2; clear h2
    obtain ⟨x, S, e0, h2⟩ := popI_inv hst; clear hst; subst e0; have hst := h2; clear h2
    exact ms_iadd hd (hK _ _ _ _ _ _ _ hst)
  | isub =>
    obtain ⟨hd, rfl, hx⟩ := ok_dec ok rfl 1 rfl (by decide)
    obtain ⟨z, S, e0, h2⟩ := popI_inv hst; clear hst; subst e0; have hst := h2; clear h2
    obtain ⟨x, S, e0, h2⟩ := popI_inv hst; clear hst; subst e0; have hst := h2; clear h2
    exact ms_isub hd (hK _ _ _ _ _ _ _ hst)
  | imul =>
    obtain ⟨hd, rfl, hx⟩ := ok_dec ok rfl 1 rfl (by decide)
    obtain ⟨z, S, e0, h2⟩ := popI_inv hst; clear hst; subst e0; have hst := h2; clear h2
    obtain ⟨x, S, e0, h2⟩ := popI_inv hst; clear hst; subst e0; have hst := h2; clear h2
    exact ms_imul hd (hK _ _ _ _ _ _ _ hst)
  | iand =>
    obtain ⟨hd, rfl, hx⟩ := ok_dec ok rfl 1 rfl (by decide)
    obtain ⟨z, S, e0, h2⟩ := popI_inv hst; clear hst; subst e0; have hst := h2; clear h2
    obtain ⟨x, S, e0, h2⟩ := popI_inv hst; clear hst; subst e0; have hst := h2; clear h2
    exact ms_iand hd (hK _ _ _ _ _ _ _ hst)
  | ishr =>
    obtain ⟨hd, rfl, hx⟩ := ok_dec ok rfl 1 rfl (by decide)
    obtain ⟨z, S, e0, h2⟩ := popI_inv hst; clear hst; subst e0; have hst := h2; clear h2
    obtain ⟨x, S, e0, h2⟩ := popI_inv hst; clear hst; subst e0; have hst := h2; clear h2
    exact ms_ishr hd (hK _ _ _ _ _ _ _ hst)
  | idiv =>
    obtain ⟨hd, rfl, hx⟩ := ok_dec ok rfl 1 rfl (by decide)
    obtain ⟨z, S, e0, h2⟩ := popI_inv hst; clear hst; subst e0; have hst := h2; clear h2
    obtain ⟨x, S, e0, h2⟩ := popI_inv hst; clear hst; subst e0; have hst := h2; clear h2
    exact ms_idiv hd hst.1 (hK _ _ _ _ _ _ _ hst.2)
  | irem =>
    obtain ⟨hd, rfl, hx⟩ := ok_dec ok rfl 1 rfl (by decide)
    obtain ⟨z, S, e0, h2⟩ := popI_inv hst; clear hst; subst e0; have hst := h2; clear h2
    obtain ⟨x, S, e0, h2⟩ := popI_inv hst; clear hst; subst e0; have hst := h2; clear h2
    exact ms_irem hd hst.1 (hK _ _ _ _ _ _ _ hst.2)
  | ladd =>
    obtain ⟨hd, rfl, hx⟩ := ok_dec ok rfl 1 rfl (by decide)
    obtain ⟨z, S, e0, h2⟩ := popL_inv hst; clear hst; subst e0; have hst := h2; clear h2
    obtain ⟨x, S, e0, h2⟩ := popL_inv hst; clear hst; subst e0; have hst := h2; clear h2
    exact ms_ladd hd (hK _ _ _ _ _ _ _ hst)
  | lsub =>
    obtain ⟨hd, rfl, hx⟩ := ok_dec ok rfl 1 rfl (by decide)
    obtain ⟨z, S, e0, h2⟩ := popL_inv hst; clear hst; subst e0; have hst := h2; clear h2
    obtain ⟨x, S, e0, h2⟩ := popL_inv hst; clear hst; subst e0; have hst := h2; clear h2
    exact ms_lsub hd (hK _ _ _ _ _ _ _ hst)
  | lmul =>
    obtain ⟨hd, rfl, hx⟩ := ok_dec ok rfl 1 rfl (by decide)
    obtain ⟨z, S, e0, h2⟩ := popL_inv hst; clear hst; subst e0; have hst := h2; clear h2
    obtain ⟨x, S, e0, h2⟩ := popL_inv hst; clear hst; subst e0; have hst := h2; clear h2
    exact ms_lmul hd (hK _ _ _ _ _ _ _ hst)
  | ldiv =>
    obtain ⟨hd, rfl, hx⟩ := ok_dec ok rfl 1 rfl (by decide)
    obtain ⟨z, S, e0, h2⟩ := popL_inv hst; clear hst; subst e0; have hst := h2; clear h2
    obtain ⟨x, S, e0, h2⟩ := popL_inv hst; clear hst; subst e0; have hst := h2; clear h2
    exact ms_ldiv hd hst.1 (hK _ _ _ _ _ _ _ hst.2)
  | lrem =>
    obtain ⟨hd, rfl, hx⟩ := ok_dec ok rfl 1 rfl (by decide)
    obtain ⟨z, S, e0, h2⟩ := popL_inv hst; clear hst; subst e0; have hst := h2; clear h2
    obtain ⟨x, S, e0, h2⟩ := popL_inv hst; clear hst; subst e0; have hst := h2; clear h2
    exact ms_lrem hd hst.1 (hK _ _ _ _ _ _ _ hst.2)
  | lneg =>
    obtain ⟨hd, rfl, hx⟩ := ok_dec ok rfl 1 rfl (by decide)
    obtain ⟨x, S, e0, h2⟩ := popL_inv hst; clear hst; subst e0; have hst := h2; clear h2
    exact ms_lneg hd (hK _ _ _ _ _ _ _ hst)
  | i2l =>
    obtain ⟨hd, rfl, hx⟩ := ok_dec ok rfl 1 rfl (by decide)
    obtain ⟨x, S, e0, h2⟩ := popI_inv hst; clear hst; subst e0; have hst := h2; clear h2
    exact ms_i2l hd (hK _ _ _ _ _ _ _ hst)
  | l2i =>
    obtain ⟨hd, rfl, hx⟩ := ok_dec ok rfl 1 rfl (by decide)
    obtain ⟨x, S, e0, h2⟩ := popL_inv hst; clear hst; subst e0; have hst := h2; clear h2
    exact ms_l2i hd (hK _ _ _ _ _ _ _ hst)
  | i2b =>
    obtain ⟨hd, rfl, hx⟩ := ok_dec ok rfl 1 rfl (by decide)
    obtain ⟨x, S, e0, h2⟩ := popI_inv hst; clear hst; subst e0; have hst := h2; clear h2
    exact ms_i2b hd (hK _ _ _ _ _ _ _ hst)
  | i2c =>
    obtain ⟨hd, rfl, hx⟩ := ok_dec ok rfl 1 rfl (by decide)
    obtain ⟨x, S, e0, h2⟩ := popI_inv hst; clear hst; subst e0; have hst := h2; clear h2
    exact ms_i2c hd (hK _ _ _ _ _ _ _ hst)
  | dup =>
    obtain ⟨hd, rfl, hx⟩ := ok_dec ok rfl 1 rfl (by decide)
    have hst : popV S (fun v S => isA v (fun v => K (pc + 1) L (v :: v :: S) I A B P)) := hst
    obtain ⟨v, S, e0, h2⟩ := popV_inv hst; clear hst; subst e0; have hst := h2; clear h2
    obtain ⟨hv, hst⟩ := isA_inv hst
    exact ms_dup hd (by rcases hv with ⟨x, rfl⟩ | rfl | ⟨x, rfl, _⟩ <;> rfl) (hK _ _ _ _ _ _ _ hst)
  | dup2 =>
    obtain ⟨hd, rfl, hx⟩ := ok_dec ok rfl 1 rfl (by decide)
    obtain ⟨x, S, e0, h2⟩ := popI_inv hst; clear hst; subst e0; have hst := h2; clear h2
    obtain ⟨k, S, e0, h2⟩ := popR_inv hst; clear hst; subst e0; have hst := h2; clear h2
    exact ms_dup2 hd (hK _ _ _ _ _ _ _ hst)
  | pop =>
    obtain ⟨hd, rfl, hx⟩ := ok_dec ok rfl 1 rfl (by decide)
    obtain ⟨x, S, e0, h2⟩ := popI_inv hst; clear hst; subst e0; have hst := h2; clear h2
    exact ms_pop hd (hK _ _ _ _ _ _ _ hst)
  | pop2 =>
    obtain ⟨hd, rfl, hx⟩ := ok_dec ok rfl 1 rfl (by decide)
    obtain ⟨x, S, e0, h2⟩ := popL_inv hst; clear hst; subst e0; have hst := h2; clear h2
    exact ms_pop2 hd (hK _ _ _ _ _ _ _ hst)
  | goto off =>
    obtain ⟨hd, rfl, hx⟩ := ok_dec ok rfl 3 rfl (by decide)
    exact ms_goto hd (of_decide_eq_true hx) (hK _ _ _ _ _ _ _ hst)
  | ifCond c off =>
    obtain ⟨hd, rfl, hx⟩ := ok_dec ok rfl 3 rfl (by decide)
    obtain ⟨x, S, e0, h2⟩ := popI_inv hst; clear hst; subst e0; have hst := h2; clear h2
    have ht : (pc : Int) + off = (tg : Int) := of_decide_eq_true hx
    cases c with
    | eq => exact ms_if_eq hd ht ⟨fun q => hK _ _ _ _ _ _ _ (hst.1 q), fun q => hK _ _ _ _ _ _ _ (hst.2 q)⟩
    | ne => exact ms_if_ne hd ht ⟨fun q => hK _ _ _ _ _ _ _ (hst.1 q), fun q => hK _ _ _ _ _ _ _ (hst.2 q)⟩
    | lt => exact ms_if_lt hd ht ⟨fun q => hK _ _ _ _ _ _ _ (hst.1 q), fun q => hK _ _ _ _ _ _ _ (hst.2 q)⟩
    | ge => exact ms_if_ge hd ht ⟨fun q => hK _ _ _ _ _ _ _ (hst.1 q), fun q => hK _ _ _ _ _ _ _ (hst.2 q)⟩
    | gt => exact ms_if_gt hd ht ⟨fun q => hK _ _ _ _ _ _ _ (hst.1 q), fun q => hK _ _ _ _ _ _ _ (hst.2 q)⟩
    | le => exact ms_if_le hd ht ⟨fun q => hK _ _ _ _ _ _ _ (hst.1 q), fun q => hK _ _ _ _ _ _ _ (hst.2 q)⟩
  | if_icmp c off =>
    obtain ⟨hd, rfl, hx⟩ := ok_dec ok rfl 3 rfl (by decide)
    obtain ⟨z, S, e0, h2⟩ := popI_inv hst; clear hst; subst e0; have hst := h2; clear h2
    obtain ⟨x, S, e0, h2⟩ := popI_inv hst; clear hst; subst e0; have hst := h2; clear h2
    have ht : (pc : Int) + off = (tg : Int) := of_decide_eq_true hx
    cases c with
    | eq => exact ms_icmp_eq hd ht ⟨fun q => hK _ _ _ _ _ _ _ (hst.1 q), fun q => hK _ _ _ _ _ _ _ (hst.2 q)⟩
    | ne => exact ms_icmp_ne hd ht ⟨fun q => hK _ _ _ _ _ _ _ (hst.1 q), fun q => hK _ _ _ _ _ _ _ (hst.2 q)⟩
    | lt => exact ms_icmp_lt hd ht ⟨fun q => hK _ _ _ _ _ _ _ (hst.1 q), fun q => hK _ _ _ _ _ _ _ (hst.2 q)⟩
    | ge => exact ms_icmp_ge hd ht ⟨fun q => hK _ _ _ _ _ _ _ (hst.1 q), fun q => hK _ _ _ _ _ _ _ (hst.2 q)⟩
    | gt => exact ms_icmp_gt hd ht ⟨fun q => hK _ _ _ _ _ _ _ (hst.1 q), fun q => hK _ _ _ _ _ _ _ (hst.2 q)⟩
    | le => exact ms_icmp_le hd ht ⟨fun q => hK _ _ _ _ _ _ _ (hst.1 q), fun q => hK _ _ _ _ _ _ _ (hst.2 q)⟩
  | lcmp =>
    obtain ⟨hd0, rfl, c, off, hd, ht, rfl⟩ := ok_lc ok
    obtain ⟨z, S, e0, h2⟩ := popL_inv hst; clear hst; subst e0; have hst := h2; clear h2
    obtain ⟨x, S, e0, h2⟩ := popL_inv hst; clear hst; subst e0; have hst := h2; clear h2
    cases c with
    | eq => exact ms_lcmp_eq hd0 hd ht ⟨fun q => hK _ _ _ _ _ _ _ (hst.1 q), fun q => hK _ _ _ _ _ _ _ (hst.2 q)⟩
    | ne => exact ms_lcmp_ne hd0 hd ht ⟨fun q => hK _ _ _ _ _ _ _ (hst.1 q), fun q => hK _ _ _ _ _ _ _ (hst.2 q)⟩
    | lt => exact ms_lcmp_lt hd0 hd ht ⟨fun q => hK _ _ _ _ _ _ _ (hst.1 q), fun q => hK _ _ _ _ _ _ _ (hst.2 q)⟩
    | ge => exact ms_lcmp_ge hd0 hd ht ⟨fun q => hK _ _ _ _ _ _ _ (hst.1 q), fun q => hK _ _ _ _ _ _ _ (hst.2 q)⟩
    | gt => exact ms_lcmp_gt hd0 hd ht ⟨fun q => hK _ _ _ _ _ _ _ (hst.1 q), fun q => hK _ _ _ _ _ _ _ (hst.2 q)⟩
    | le => exact ms_lcmp_le hd0 hd ht ⟨fun q => hK _ _ _ _ _ _ _ (hst.1 q), fun q => hK _ _ _ _ _ _ _ (hst.2 q)⟩
  | ifnull off =>
    obtain ⟨hd, rfl, hx⟩ := ok_dec ok rfl 3 rfl (by decide)
    have hst : popV S (fun v S => match v with
      | .null => K tg L S I A B P
      | .ref _ => K (pc + 3) L S I A B P
      | _ => False) := hst
    obtain ⟨v, S, e0, h2⟩ := popV_inv hst; clear hst; subst e0; have hst := h2; clear h2
    have ht : (pc : Int) + off = (tg : Int) := of_decide_eq_true hx
    cases v with
    | null => exact ms_ifnullN hd ht (hK _ _ _ _ _ _ _ hst)
    | ref k => exact ms_ifnull hd (hK _ _ _ _ _ _ _ hst)
    | _ => exact hst.elim
  | ifnonnull off =>
    obtain ⟨hd, rfl, hx⟩ := ok_dec ok rfl 3 rfl (by decide)
    have hst : popV S (fun v S => match v with
      | .null => K (pc + 3) L S I A B P
      | .ref _ => K tg L S I A B P
      | _ => False) := hst
    obtain ⟨v, S, e0, h2⟩ := popV_inv hst; clear hst; subst e0; have hst := h2; clear h2
    have ht : (pc : Int) + off = (tg : Int) := of_decide_eq_true hx
    cases v with
    | null => exact ms_ifnonnullN hd (hK _ _ _ _ _ _ _ hst)
    | ref k => exact ms_ifnonnull hd ht (hK _ _ _ _ _ _ _ hst)
    | _ => exact hst.elim
  | tableswitch d lo hi offs =>
    obtain ⟨hd, hx⟩ := ok_sw ok rfl
    obtain ⟨x, S, e0, h2⟩ := popI_inv hst; clear hst; subst e0; have hst := h2; clear h2
    have hmono : ∀ (zl : List (Int32 × Nat)), swP x (kS ax).2 (fun t => K t L S I A B P) zl → swP x (kS ax).2 (fun t => mj l b tS D dA i9 a9 y t L S I A B P R) zl := fun zl => by
      induction zl with
      | nil => exact fun h => hK _ _ _ _ _ _ _ h
      | cons q zl ih => exact fun h => ⟨fun e => hK _ _ _ _ _ _ _ (h.1 e), fun e => ih (h.2 e)⟩
    simp only [okX, Bool.and_eq_true, decide_eq_true_eq] at hx
    obtain ⟨h1, h2, h3, h4, h5, h6⟩ := hx
    exact ms_tsw hd h1 h2 h3 h4 h5 h6 (hmono _ hst)
  | lookupswitch d ps =>
    obtain ⟨hd, hx⟩ := ok_sw ok rfl
    obtain ⟨x, S, e0, h2⟩ := popI_inv hst; clear hst; subst e0; have hst := h2; clear h2
    have hmono : ∀ (zl : List (Int32 × Nat)), swP x (kS ax).2 (fun t => K t L S I A B P) zl → swP x (kS ax).2 (fun t => mj l b tS D dA i9 a9 y t L S I A B P R) zl := fun zl => by
      induction zl with
      | nil => exact fun h => hK _ _ _ _ _ _ _ h
      | cons q zl ih => exact fun h => ⟨fun e => hK _ _ _ _ _ _ _ (h.1 e), fun e => ih (h.2 e)⟩
    simp only [okX, Bool.and_eq_true, decide_eq_true_eq] at hx
    obtain ⟨h1, h2, h3, h4⟩ := hx
    refine ms_lsw hd h1 h2 (fun q hq => ?_) h4 (hmono _ hst)
    have := List.all_eq_true.mp h3 q hq
    simp only [Bool.and_eq_true, decide_eq_true_eq] at this
    exact this
  | getstatic n =>
    obtain ⟨hd, rfl, hx⟩ := ok_dec ok rfl 3 rfl (by decide)
    have hx : (bif Nat.ble ax 1 then any4 mSF (mOw y) n ax else true) = true := hx
    match ax, hx, hst with
    | 0, hx, hst => exact ms_gs0 hd (SF_of hy hx) (hK _ _ _ _ _ _ _ hst)
    | 1, hx, hst => exact ms_gs1 hd (SF_of hy hx) (hK _ _ _ _ _ _ _ hst)
    | _ + 2, _, hst => exact hst.elim
  | getfield n =>
    obtain ⟨hd, rfl, hx⟩ := ok_dec ok rfl 3 rfl (by decide)
    have hst : popV S (fun v S => match v with
      | .ref k => (match csh k with
        | some c => bif Nat.beq c (ax / 64) then (match fsh ax with
          | 0 => K (pc + 3) L (.int (I k tg) :: S) I A B P
          | 1 => (match P k tg with
            | some q => K (pc + 3) L (.ref q :: S) I A B P
            | none => False)
          | 2 => K (pc + 3) L (.int (I k tg) :: S) I A B P
          | _ => False) else False
        | none => False)
      | .retAddr n => bif Nat.ble 1 n && Nat.ble n 14 then (bif Nat.beq ax 10000 then K (pc + 3) L (.retAddr (n + 100) :: S) I A B P else bif Nat.beq ax 10001 then K (pc + 3) L (.int 0 :: S) I A B P else False) else False
      | _ => False) := hst
    obtain ⟨v, S, e0, h2⟩ := popV_inv hst; clear hst; subst e0; have hst := h2; clear h2
    have hx : (bif Nat.ble 10000 ax then any4 mSF (mOw y) n ax else any5 mFL (mOw y) n (ax / 64) tg && Nat.beq (ax / 64 * 64 + tg) ax) = true := hx
    cases v with
    | ref k =>
      cases hck : csh k with
      | none =>
        exfalso
        simp only [hck] at hst
      | some ci =>
        simp only [hck] at hst
        obtain ⟨hb, hst⟩ := bif_inv hst
        have hci := Nat.eq_of_beq_eq_true hb
        cases hb1 : Nat.ble 10000 ax with
        | true =>
          exfalso
          have h1 := csh_c hck
          have h2 := Nat.le_of_ble_eq_true hb1
          omega
        | false =>
          rw [hb1] at hx
          simp only [cond_false, Bool.and_eq_true] at hx
          have hfl := FL_of hy hx.1
          have hax := Nat.eq_of_beq_eq_true hx.2
          rw [← hci] at hfl hax
          cases hf : fsh ax with
          | zero =>
            rw [hf] at hst
            exact ms_getI hd hfl hck (Or.inl (by rw [hax]; exact hf)) (hK _ _ _ _ _ _ _ hst)
          | succ f1 =>
            cases f1 with
            | zero =>
              rw [hf] at hst
              cases hp : P k tg with
              | none => simp only [hp] at hst
              | some q =>
                simp only [hp] at hst
                exact ms_getP hd hfl hck (by rw [hax]; exact hf) hp (hK _ _ _ _ _ _ _ hst)
            | succ f2 =>
              cases f2 with
              | zero =>
                rw [hf] at hst
                exact ms_getI hd hfl hck (Or.inr (by rw [hax]; exact hf)) (hK _ _ _ _ _ _ _ hst)
              | succ f3 =>
                rw [hf] at hst
                exact hst.elim
    | retAddr m =>
      obtain ⟨hb, hst⟩ := bif_inv hst
      simp only [Bool.and_eq_true] at hb
      have h1 := Nat.le_of_ble_eq_true hb.1
      have h2 := Nat.le_of_ble_eq_true hb.2
      obtain ⟨i, rfl⟩ : ∃ i, m = 1 + i := ⟨m - 1, by omega⟩
      cases hb1 : Nat.beq ax 10000 with
      | true =>
        have e := Nat.eq_of_beq_eq_true hb1
        subst e
        have hst : K (pc + 3) L (.retAddr (101 + i) :: S) I A B P := by
          rw [show 101 + i = 1 + i + 100 by omega]
          exact hst
        exact ms_getV hd (SF_of hy hx) (by omega) (hK _ _ _ _ _ _ _ hst)
      | false =>
        rw [hb1] at hst
        cases hb2 : Nat.beq ax 10001 with
        | true =>
          have e := Nat.eq_of_beq_eq_true hb2
          subst e
          exact ms_getC hd (SF_of hy hx) (by omega) (hK _ _ _ _ _ _ _ hst)
        | false =>
          rw [hb2] at hst
          exact hst.elim
    | _ => exact hst.elim
  | putfield n =>
    obtain ⟨hd, rfl, hx⟩ := ok_dec ok rfl 3 rfl (by decide)
    have hst : popV S (fun v S => popR S (fun k S => match csh k with
      | some c => bif Nat.beq c (ax / 64) then (match fsh ax with
        | 0 => isI v (fun x => K (pc + 3) L S (up2 I k tg x) A B P)
        | 1 => (match v with
          | .ref q => K (pc + 3) L S I A B (up2 P k tg (some q))
          | _ => False)
        | 2 => isI v (fun x => (x = 0 ∨ x = 1) ∧ K (pc + 3) L S (up2 I k tg x) A B P)
        | _ => False) else False
      | none => False)) := hst
    obtain ⟨v, S, e0, h2⟩ := popV_inv hst; clear hst; subst e0; have hst := h2; clear h2
    obtain ⟨k, S, e0, h2⟩ := popR_inv hst; clear hst; subst e0; have hst := h2; clear h2
    simp only [okX, Bool.and_eq_true, decide_eq_true_eq] at hx
    obtain ⟨hx1, hx2, hx3⟩ := hx
    cases hck : csh k with
    | none =>
      exfalso
      simp only [hck] at hst
    | some ci =>
      simp only [hck] at hst
      obtain ⟨hb, hst⟩ := bif_inv hst
      have hci := Nat.eq_of_beq_eq_true hb
      have hfl := FL_of hy hx1
      have hax := Nat.eq_of_beq_eq_true hx2
      rw [← hci] at hfl hax hx3
      cases hf : fsh ax with
      | zero =>
        rw [hf] at hst
        obtain ⟨x, rfl, hst⟩ := isI_inv hst
        exact ms_putI hd hfl hx3 hck (by rw [hax]; exact hf) (hK _ _ _ _ _ _ _ hst)
      | succ f1 =>
        cases f1 with
        | zero =>
          rw [hf] at hst
          cases v with
          | ref q => exact ms_putP hd hfl hx3 hck (by rw [hax]; exact hf) (hK _ _ _ _ _ _ _ hst)
          | _ => exact hst.elim
        | succ f2 =>
          cases f2 with
          | zero =>
            rw [hf] at hst
            obtain ⟨x, rfl, hst⟩ := isI_inv hst
            exact ms_putZ hd hfl hx3 hck (by rw [hax]; exact hf) hst.1 (hK _ _ _ _ _ _ _ hst.2)
          | succ f3 =>
            rw [hf] at hst
            exact hst.elim
  | arraylength =>
    obtain ⟨hd, rfl, hx⟩ := ok_dec ok rfl 1 rfl (by decide)
    have hst : popV S (fun v S => match v with
      | .ref k => (match rsh k with
        | some (_, _, n) => K (pc + 1) L (.int (Int32.ofNat n) :: S) I A B P
        | none => ∃ t n : Nat, ash k = some (t, n) ∧ K (pc + 1) L (.int (Int32.ofNat n) :: S) I A B P)
      | .retAddr n => (match n with
        | 0 => K (pc + 1) L (.int (I 900 0) :: S) I A B P
        | n => bif Nat.ble 101 n && Nat.ble n 114 then K (pc + 1) L (.int (Int32.ofNat (tx (n - 101)).length) :: S) I A B P else False)
      | _ => False) := hst
    obtain ⟨v, S, e0, h2⟩ := popV_inv hst; clear hst; subst e0; have hst := h2; clear h2
    cases v with
    | ref k =>
      cases hr : rsh k with
      | some r =>
        obtain ⟨o, m2, n⟩ := r
        simp only [hr] at hst
        exact ms_rlen (r := (o, m2, n)) hd hr (hK _ _ _ _ _ _ _ hst)
      | none =>
        simp only [hr] at hst
        obtain ⟨t, n, ha, hst⟩ := hst
        exact ms_alen (t := (t, n)) hd ha (hK _ _ _ _ _ _ _ hst)
    | retAddr m =>
      cases m with
      | zero => exact ms_slen hd (hK _ _ _ _ _ _ _ hst)
      | succ m =>
        have hst : bif Nat.ble 101 (m + 1) && Nat.ble (m + 1) 114 then K (pc + 1) L (.int (Int32.ofNat (tx (m + 1 - 101)).length) :: S) I A B P else False := hst
        obtain ⟨hb, hst⟩ := bif_inv hst
        simp only [Bool.and_eq_true] at hb
        have h1 := Nat.le_of_ble_eq_true hb.1
        have h2 := Nat.le_of_ble_eq_true hb.2
        rw [show m + 1 = 101 + (m + 1 - 101) by omega]
        exact ms_tlen hd (by omega) (hK _ _ _ _ _ _ _ hst)
    | _ => exact hst.elim
  | iaload =>
    obtain ⟨hd, rfl, hx⟩ := ok_dec ok rfl 1 rfl (by decide)
    have hst : popI S (fun i S => popV S (fun v S => match v with
      | .ref k => ∃ n : Nat, ash k = some (0, n) ∧ vp_in i n ∧ K (pc + 1) L (.int (A k i.toNatClampNeg) :: S) I A B P
      | .retAddr 0 => vp_in i (I 900 0).toNatClampNeg ∧ K (pc + 1) L (.int (A 900 i.toNatClampNeg) :: S) I A B P
      | _ => False)) := hst
    obtain ⟨i, S, e0, h2⟩ := popI_inv hst; clear hst; subst e0; have hst := h2; clear h2
    obtain ⟨v, S, e0, h2⟩ := popV_inv hst; clear hst; subst e0; have hst := h2; clear h2
    cases v with
    | ref k =>
      obtain ⟨n, ha, hin, hst⟩ := hst
      exact ms_iald hd ha hin (hK _ _ _ _ _ _ _ hst)
    | retAddr m =>
      cases m with
      | zero => exact ms_sld hd hst.1 (hK _ _ _ _ _ _ _ hst.2)
      | succ m => exact hst.elim
    | _ => exact hst.elim
  | baload =>
    obtain ⟨hd, rfl, hx⟩ := ok_dec ok rfl 1 rfl (by decide)
    have hst : popI S (fun i S => popV S (fun v S => match v with
      | .ref k => ∃ t n : Nat, ash k = some (t, n) ∧ (t = 2 ∨ t = 3) ∧ vp_in i n ∧ K (pc + 1) L (.int (A k i.toNatClampNeg) :: S) I A B P
      | .retAddr n => bif Nat.ble 101 n && Nat.ble n 114 then vp_in i (tx (n - 101)).length ∧ K (pc + 1) L (.int ((tx (n - 101)).getD i.toNatClampNeg 0) :: S) I A B P else False
      | _ => False)) := hst
    obtain ⟨i, S, e0, h2⟩ := popI_inv hst; clear hst; subst e0; have hst := h2; clear h2
    obtain ⟨v, S, e0, h2⟩ := popV_inv hst; clear hst; subst e0; have hst := h2; clear h2
    cases v with
    | ref k =>
      obtain ⟨t, n, ha, ht, hin, hst⟩ := hst
      rcases ht with rfl | rfl
      · exact ms_bald hd ha hin (hK _ _ _ _ _ _ _ hst)
      · exact ms_zald hd ha hin (hK _ _ _ _ _ _ _ hst)
    | retAddr m =>
      obtain ⟨hb, hst⟩ := bif_inv hst
      simp only [Bool.and_eq_true] at hb
      have h1 := Nat.le_of_ble_eq_true hb.1
      have h2 := Nat.le_of_ble_eq_true hb.2
      rw [show m = 101 + (m - 101) by omega]
      exact ms_tld hd (by omega) hst.1 (hK _ _ _ _ _ _ _ hst.2)
    | _ => exact hst.elim
  | laload =>
    obtain ⟨hd, rfl, hx⟩ := ok_dec ok rfl 1 rfl (by decide)
    obtain ⟨i, S, e0, h2⟩ := popI_inv hst; clear hst; subst e0; have hst := h2; clear h2
    obtain ⟨k, S, e0, h2⟩ := popR_inv hst; clear hst; subst e0; have hst := h2; clear h2
    obtain ⟨n, ha, hin, hst⟩ := hst
    exact ms_lald hd ha hin (hK _ _ _ _ _ _ _ hst)
  | aaload =>
    obtain ⟨hd, rfl, hx⟩ := ok_dec ok rfl 1 rfl (by decide)
    obtain ⟨i, S, e0, h2⟩ := popI_inv hst; clear hst; subst e0; have hst := h2; clear h2
    obtain ⟨k, S, e0, h2⟩ := popR_inv hst; clear hst; subst e0; have hst := h2; clear h2
    obtain ⟨o, m2, n, hr, hin, hst⟩ := hst
    exact ms_aald (r := (o, m2, n)) hd hr hin (hK _ _ _ _ _ _ _ hst)
  | iastore =>
    obtain ⟨hd, rfl, hx⟩ := ok_dec ok rfl 1 rfl (by decide)
    obtain ⟨x, S, e0, h2⟩ := popI_inv hst; clear hst; subst e0; have hst := h2; clear h2
    obtain ⟨i, S, e0, h2⟩ := popI_inv hst; clear hst; subst e0; have hst := h2; clear h2
    obtain ⟨k, S, e0, h2⟩ := popR_inv hst; clear hst; subst e0; have hst := h2; clear h2
    obtain ⟨n, ha, hin, hst⟩ := hst
    exact ms_iast hd ha hin (hK _ _ _ _ _ _ _ hst)
  | lastore =>
    obtain ⟨hd, rfl, hx⟩ := ok_dec ok rfl 1 rfl (by decide)
    obtain ⟨x, S, e0, h2⟩ := popL_inv hst; clear hst; subst e0; have hst := h2; clear h2
    obtain ⟨i, S, e0, h2⟩ := popI_inv hst; clear hst; subst e0; have hst := h2; clear h2
    obtain ⟨k, S, e0, h2⟩ := popR_inv hst; clear hst; subst e0; have hst := h2; clear h2
    obtain ⟨n, ha, hin, hst⟩ := hst
    exact ms_last hd ha hin (hK _ _ _ _ _ _ _ hst)
  | bastore =>
    obtain ⟨hd, rfl, hx⟩ := ok_dec ok rfl 1 rfl (by decide)
    obtain ⟨x, S, e0, h2⟩ := popI_inv hst; clear hst; subst e0; have hst := h2; clear h2
    obtain ⟨i, S, e0, h2⟩ := popI_inv hst; clear hst; subst e0; have hst := h2; clear h2
    obtain ⟨k, S, e0, h2⟩ := popR_inv hst; clear hst; subst e0; have hst := h2; clear h2
    obtain ⟨t, n, ha, ht, hin, hst⟩ := hst
    rcases ht with ⟨rfl, hb⟩ | ⟨rfl, hb⟩
    · exact ms_bast hd ha hb hin (hK _ _ _ _ _ _ _ hst)
    · exact ms_zast hd ha hb hin (hK _ _ _ _ _ _ _ hst)
  | ireturn =>
    obtain ⟨hd, rfl, hx⟩ := ok_dec ok rfl 1 rfl (by decide)
    match S, hst with
    | [.int x], hst =>
      have hst : ret1 (mr y).2.1 x (R (some (.int x)) I A B P) := hst
      have hrt := rt_eq hy
      rw [← hrt] at hst
      have key : R (some (.int x)) I A B P ∧ ∃ ty, mRt y = some ty ∧ narrow ty (.int x) = .int x := by
        revert hst
        generalize mRt y = z
        intro hst
        match z, hst with
        | some .int, hst => exact ⟨hst, _, rfl, rfl⟩
        | some .boolean, hst => exact ⟨hst.2, _, rfl, by rcases hst.1 with rfl | rfl <;> rfl⟩
        | some .byte, hst => exact ⟨hst.2, _, rfl, hst.1⟩
        | some .char, hst => exact ⟨hst.2, _, rfl, hst.1⟩
      exact ms_ret (v := some (.int x)) key.1 ⟨hd, key.2⟩
  | lreturn =>
    obtain ⟨hd, rfl, hx⟩ := ok_dec ok rfl 1 rfl (by decide)
    match S, hst with
    | [.long x], hst =>
      obtain ⟨hb, hst⟩ := bif_inv hst
      have hrt := (rt_eq hy).trans (Nat.eq_of_beq_eq_true hb)
      have key : mRt y = some .long := by
        revert hrt
        generalize mRt y = z
        intro hrt
        match z, hrt with
        | some .long, _ => rfl
      exact ms_ret (v := some (.long x)) hst ⟨hd, key⟩
  | areturn =>
    obtain ⟨hd, rfl, hx⟩ := ok_dec ok rfl 1 rfl (by decide)
    match S, hst with
    | [.ref x], hst =>
      obtain ⟨hb, hst⟩ := bif_inv hst
      have hrt := (rt_eq hy).trans (Nat.eq_of_beq_eq_true hb)
      have key : ∃ rt, mRt y = some rt ∧ ((∃ n, rt = .object n) ∨ ∃ t, rt = .array t) := by
        revert hrt
        generalize mRt y = z
        intro hrt
        match z, hrt with
        | some (.object n), _ => exact ⟨_, rfl, Or.inl ⟨_, rfl⟩⟩
        | some (.array n), _ => exact ⟨_, rfl, Or.inr ⟨_, rfl⟩⟩
      exact ms_ret (v := some (.ref x)) hst ⟨hd, key⟩
    | [.null], hst =>
      obtain ⟨hb, hst⟩ := bif_inv hst
      have hrt := (rt_eq hy).trans (Nat.eq_of_beq_eq_true hb)
      have key : ∃ rt, mRt y = some rt ∧ ((∃ n, rt = .object n) ∨ ∃ t, rt = .array t) := by
        revert hrt
        generalize mRt y = z
        intro hrt
        match z, hrt with
        | some (.object n), _ => exact ⟨_, rfl, Or.inl ⟨_, rfl⟩⟩
        | some (.array n), _ => exact ⟨_, rfl, Or.inr ⟨_, rfl⟩⟩
      exact ms_ret (v := some .null) hst ⟨hd, key⟩
  | return_ =>
    obtain ⟨hd, rfl, hx⟩ := ok_dec ok rfl 1 rfl (by decide)
    match S, hst with
    | [], hst =>
      obtain ⟨hb, hst⟩ := bif_inv hst
      have hrt := (rt_eq hy).trans (Nat.eq_of_beq_eq_true hb)
      have key : mRt y = none := by
        revert hrt
        generalize mRt y = z
        intro hrt
        cases z with
        | none => rfl
        | some t => cases t <;> cases hrt
      exact ms_ret (v := none) hst ⟨hd, key⟩
  | invokevirtual n =>
    obtain ⟨hd, rfl, hx⟩ := ok_dec ok rfl 3 rfl (by decide)
    have hx : (bif Nat.beq ax 9000 then true else okC y (mOw y) n ax && Nat.ble 1 (mRc ax)) = true := hx
    have hst : bif Nat.beq ax 9000 then False else popN (mr ax).2.2.1 S [] (fun args S => bif Nat.ble (catS S) 8 then recv (mRc ax) args (C ax args I A B P (fun v I A B P => K (pc + 3) L (pushO v S) I A B P)) else False) := hst
    cases hb0 : Nat.beq ax 9000 with
    | true =>
      rw [hb0] at hst
      exact hst.elim
    | false =>
      rw [hb0] at hx hst
      obtain ⟨as, S, e0, hlen, h2⟩ := popN_inv hst; clear hst; subst e0; have hst := h2; clear h2
      obtain ⟨hb, hst⟩ := bif_inv hst
      have hcat := Nat.le_of_ble_eq_true hb
      rw [List.append_nil] at hst
      simp only [cond_false, Bool.and_eq_true] at hx
      have hcl := CL_of hy hx.1
      have hrc := Nat.le_of_ble_eq_true hx.2
      obtain ⟨ci, hci⟩ : ∃ ci, mRc ax = ci + 1 := ⟨mRc ax - 1, by omega⟩
      rw [hci] at hst
      cases as with
      | nil => exact hst.elim
      | cons v as =>
        cases v with
        | ref k =>
          cases hck : csh k with
          | none => simp only [recv, hck] at hst
          | some c2 =>
            simp only [recv, hck] at hst
            obtain ⟨hb2, h3⟩ := bif_inv hst
            have e := Nat.eq_of_beq_eq_true hb2
            subst e
            have hlt := csh_c hck
            obtain ⟨L0, hmk, hj⟩ := hC _ _ _ _ _ _ _ h3
            rw [List.reverse_cons, List.append_assoc]
            exact ms_callV hd hcl hci (by omega) hck (by simpa using hlen) hmk hcat hj (fun v I A B P h => hK _ _ _ _ _ _ _ h)
        | retAddr m =>
          obtain ⟨hb2, hst⟩ := bif_inv hst
          simp only [Bool.and_eq_true] at hb2
          have e := Nat.eq_of_beq_eq_true hb2.1
          have h1 := Nat.le_of_ble_eq_true hb2.2.1
          have h2 := Nat.le_of_ble_eq_true hb2.2.2
          obtain ⟨i, rfl⟩ : ∃ i, m = 1 + i := ⟨m - 1, by omega⟩
          obtain ⟨L0, hmk, hj⟩ := hC _ _ _ _ _ _ _ hst
          rw [List.reverse_cons, List.append_assoc]
          exact ms_callT hd hcl (by rw [hci, e]) (by omega) (by simpa using hlen) hmk hcat hj (fun v I A B P h => hK _ _ _ _ _ _ _ h)
        | _ => exact hst.elim
  | invokestatic n =>
    obtain ⟨hd, rfl, hx⟩ := ok_dec ok rfl 3 rfl (by decide)
    have hx : (bif Nat.beq ax 9000 then true else (bif Nat.ble 9001 ax then Nat.ble 1 (mRf y) && (Nat.ble 60 (mRl y) && (bif Nat.beq ax 9001 then mAC.any (fun q => Nat.beq q.2.1 n && Nat.beq q.1 (mOw y)) else any4 mMM (mOw y) n ax)) else okC y (mOw y) n ax && Nat.beq (mRc ax) 0)) = true := hx
    cases hb9 : Nat.ble 9001 ax with
    | false =>
      have hst : bif Nat.beq ax 9000 then False else popN (mr ax).2.2.1 S [] (fun args S => bif Nat.ble (catS S) 8 then recv (mRc ax) args (C ax args I A B P (fun v I A B P => K (pc + 3) L (pushO v S) I A B P)) else False) := by
        have h0 := hst
        unfold st1 at h0
        simp only [hb9, cond_false] at h0
        exact h0
      cases hb0 : Nat.beq ax 9000 with
      | true =>
        rw [hb0] at hst
        exact hst.elim
      | false =>
        rw [hb0] at hst
        obtain ⟨as, S, e0, hlen, h2⟩ := popN_inv hst; clear hst; subst e0; have hst := h2; clear h2
        obtain ⟨hb, hst⟩ := bif_inv hst
        have hcat := Nat.le_of_ble_eq_true hb
        rw [List.append_nil] at hst
        rw [hb0, hb9] at hx
        simp only [cond_false, Bool.and_eq_true] at hx
        have hcl := CL_of hy hx.1
        have hrc := Nat.eq_of_beq_eq_true hx.2
        rw [hrc] at hst
        obtain ⟨L0, hmk, hj⟩ := hC _ _ _ _ _ _ _ hst
        exact ms_callS hd hcl hrc hlen hmk hcat hj (fun v I A B P h => hK _ _ _ _ _ _ _ h)
    | true =>
      have hge := Nat.le_of_ble_eq_true hb9
      have hb0 : Nat.beq ax 9000 = false := by
        cases hz : Nat.beq ax 9000 with
        | true => have := Nat.eq_of_beq_eq_true hz; omega
        | false => rfl
      rw [hb0, hb9] at hx
      simp only [cond_false, cond_true, Bool.and_eq_true] at hx
      obtain ⟨hx1, hx2, hx3⟩ := hx
      have hf := Nat.le_of_ble_eq_true hx1
      have hl := Nat.le_of_ble_eq_true hx2
      by_cases hlt : 9006 < ax
      · exfalso
        have hb1 : Nat.beq ax 9001 = false := by
          cases hz : Nat.beq ax 9001 with
          | true => have := Nat.eq_of_beq_eq_true hz; omega
          | false => rfl
        rw [hb1] at hx3
        obtain ⟨hh, hm⟩ := any4_inv hx3
        have := Nat.le_of_ble_eq_true (List.all_eq_true.mp mMM_le _ hm)
        simp only at this
        omega
      · have hcases : ax = 9001 ∨ ax = 9002 ∨ ax = 9003 ∨ ax = 9004 ∨ ax = 9005 ∨ ax = 9006 := by omega
        rcases hcases with rfl | rfl | rfl | rfl | rfl | rfl
        · obtain ⟨z, S, e0, h2⟩ := popI_inv hst; clear hst; subst e0; have hst := h2; clear h2
          obtain ⟨dp, S, e0, h2⟩ := popI_inv hst; clear hst; subst e0; have hst := h2; clear h2
          obtain ⟨d, S, e0, h2⟩ := popR_inv hst; clear hst; subst e0; have hst := h2; clear h2
          obtain ⟨sp, S, e0, h2⟩ := popI_inv hst; clear hst; subst e0; have hst := h2; clear h2
          obtain ⟨q, S, e0, h2⟩ := popR_inv hst; clear hst; subst e0; have hst := h2; clear h2
          obtain ⟨hb, hst⟩ := bif_inv hst
          obtain ⟨t, n0, n1, ha, hb2, ht, h1, h2, h3, h4, h5, k0, k1⟩ := hst
          rcases ht with rfl | rfl
          · exact ms_copyA hd (AC_of hy hx3) hf hl (Nat.le_of_ble_eq_true hb) ha hb2 h1 h2 h3 h4 h5 (hK _ _ _ _ _ _ _ (k0 rfl))
          · exact ms_copyB hd (AC_of hy hx3) hf hl (Nat.le_of_ble_eq_true hb) ha hb2 h1 h2 h3 h4 h5 (hK _ _ _ _ _ _ _ (k1 rfl))
        · obtain ⟨z, S, e0, h2⟩ := popI_inv hst; clear hst; subst e0; have hst := h2; clear h2
          obtain ⟨x, S, e0, h2⟩ := popI_inv hst; clear hst; subst e0; have hst := h2; clear h2
          obtain ⟨hb, hst⟩ := bif_inv hst
          exact ms_m9002 hd (MM_of hy hx3) hf hl (Nat.le_of_ble_eq_true hb) (hK _ _ _ _ _ _ _ hst)
        · obtain ⟨z, S, e0, h2⟩ := popI_inv hst; clear hst; subst e0; have hst := h2; clear h2
          obtain ⟨x, S, e0, h2⟩ := popI_inv hst; clear hst; subst e0; have hst := h2; clear h2
          obtain ⟨hb, hst⟩ := bif_inv hst
          exact ms_m9003 hd (MM_of hy hx3) hf hl (Nat.le_of_ble_eq_true hb) (hK _ _ _ _ _ _ _ hst)
        · obtain ⟨z, S, e0, h2⟩ := popL_inv hst; clear hst; subst e0; have hst := h2; clear h2
          obtain ⟨x, S, e0, h2⟩ := popL_inv hst; clear hst; subst e0; have hst := h2; clear h2
          obtain ⟨hb, hst⟩ := bif_inv hst
          exact ms_m9004 hd (MM_of hy hx3) hf hl (Nat.le_of_ble_eq_true hb) (hK _ _ _ _ _ _ _ hst)
        · obtain ⟨z, S, e0, h2⟩ := popL_inv hst; clear hst; subst e0; have hst := h2; clear h2
          obtain ⟨x, S, e0, h2⟩ := popL_inv hst; clear hst; subst e0; have hst := h2; clear h2
          obtain ⟨hb, hst⟩ := bif_inv hst
          exact ms_m9005 hd (MM_of hy hx3) hf hl (Nat.le_of_ble_eq_true hb) (hK _ _ _ _ _ _ _ hst)
        · obtain ⟨x, S, e0, h2⟩ := popL_inv hst; clear hst; subst e0; have hst := h2; clear h2
          obtain ⟨hb, hst⟩ := bif_inv hst
          exact ms_m9006 hd (MM_of hy hx3) hf hl (Nat.le_of_ble_eq_true hb) (hK _ _ _ _ _ _ _ hst)
  | _ => exact hst.elim
end ANY
end
section
/-! the machine's own judgement obeys the small machine -/
theorem fetL_inv {pc : Nat} {k : mMI → Prop} : ∀ {l : List (Nat × mMI)}, fetL pc k l → ∃ e, (pc, e) ∈ l ∧ k e
  | [], h => h.elim
  | (q, e) :: l, h => by
    have h : bif Nat.beq q pc then k e else fetL pc k l := h
    cases hb : Nat.beq q pc with
    | true =>
      rw [hb] at h
      have e1 := Nat.eq_of_beq_eq_true hb
      subst e1
      exact ⟨e, List.mem_cons_self, h⟩
    | false =>
      rw [hb] at h
      obtain ⟨e2, h1, h2⟩ := fetL_inv h
      exact ⟨e2, List.mem_cons_of_mem _ h1, h2⟩
theorem nth_mem {α : Type} {d : α} : ∀ {l : List α} {n : Nat}, nth d l n = d ∨ nth d l n ∈ l
  | [], _ => Or.inl rfl
  | a :: _, 0 => Or.inr List.mem_cons_self
  | _ :: l, n + 1 => (nth_mem (d := d) (l := l) (n := n)).elim Or.inl (fun h => Or.inr (List.mem_cons_of_mem _ h))
theorem fet_inv {ch : List (List (Nat × mMI))} {pc : Nat} {k : mMI → Prop} (h : fet ch pc k) : ∃ e, (∃ l ∈ ch, (pc, e) ∈ l) ∧ k e := by
  obtain ⟨e, h1, h2⟩ := fetL_inv h
  rcases nth_mem (d := []) (l := ch) (n := pc / 16) with q | q
  · rw [q] at h1
    cases h1
  · exact ⟨e, ⟨_, q, h1⟩, h2⟩
theorem okE_of {y pc : Nat} {e : mMI} (hlaw : okM 378 = true) (hy : y < 379) (h : ∃ l ∈ (mr y).2.2.2.2.2.2, (pc, e) ∈ l) : okE y pc e = true := by
  obtain ⟨l, h1, h2⟩ := h
  have hok : okM y = true := by
    by_cases q : y < 378
    · exact okM_all q
    · rw [show y = 378 by omega]
      exact hlaw
  exact List.all_eq_true.mp (List.all_eq_true.mp hok l h1) (pc, e) h2
theorem mj_rules (hlaw : okM 378 = true) (l : Launch) (b : Nat) (tS : Nat → Value) (D : va_G) (dA : Nat → ClassId) (i9 : Int32) (a9 : Nat → Int32) : mRules (mj l b tS D dA i9 a9) := by
  intro n
  induction n with
  | zero => exact fun y pc L S I A B P R h => h
  | succ n ih =>
    intro y pc L S I A B P R h
    by_cases hy : y < 379
    · have h : fet (mr y).2.2.2.2.2.2 pc (fun e => st1
        (fun y' args I A B P R' => mkK (mMl y') args (fun L' => bif inl y' then runP (mj l b tS D dA i9 a9) n y' (mr y') 0 L' [] I A B P R' else mj l b tS D dA i9 a9 y' 0 L' [] I A B P R'))
        (mr y).2.1 e L S I A B P
        (fun pc' L' S' I A B P => bif hasN pc' (mr y).2.2.2.2.2.1 then mj l b tS D dA i9 a9 y pc' L' S' I A B P R else runP (mj l b tS D dA i9 a9) n y (mr y) pc' L' S' I A B P R) R) := h
      obtain ⟨e, he, hst⟩ := fet_inv h
      refine ms_step hy e (okE_of hlaw hy he) hst (fun pc' L' S' I' A' B' P' hk => ?_) (fun y' args I A B P R' hc => ?_)
      · cases hb : hasN pc' (mr y).2.2.2.2.2.1 with
        | true =>
          rw [hb] at hk
          exact hk
        | false =>
          rw [hb] at hk
          exact ih _ _ _ _ _ _ _ _ _ hk
      · obtain ⟨L0, h1, h2, h3⟩ := mkK_inv _ hc
        refine ⟨L0, ⟨h2, h3⟩, ?_⟩
        cases hb : inl y' with
        | true =>
          rw [hb] at h1
          exact ih _ _ _ _ _ _ _ _ _ h1
        | false =>
          rw [hb] at h1
          exact h1
    · intro p e RM s m ar below meth c H locs cells slots Q ls hy2
      exact absurd hy2 hy
end
section
/-! helpers of the contracts -/
theorem lp (G : Nat → Prop) {n : Nat} (hn : G n) (h : ∀ i, i < n → G (i + 1) → G i) : ∀ i, i ≤ n → G i := by
  have key : ∀ k i, i + k = n → G i := by
    intro k
    induction k with
    | zero => intro i e; rw [show i = n by omega]; exact hn
    | succ k ih => intro i e; exact h i (by omega) (ih (i + 1) (by omega))
  exact fun i hi => key (n - i) i (by omega)
/-- the sum of the first n -/
def sm (g : Nat → Int64) : Nat → Int64
  | 0 => 0
  | n + 1 => sm g n + g n
/-- how many of the first n -/
def ct (c : Nat → Bool) : Nat → Nat
  | 0 => 0
  | n + 1 => ct c n + (if c n then 1 else 0)
/-- the first one below n -/
def fd (c : Nat → Bool) : Nat → Option Nat
  | 0 => none
  | n + 1 => match fd c n with
    | some j => some j
    | none => if c n then some n else none
theorem fd_some {c : Nat → Bool} : ∀ {n j : Nat}, fd c n = some j → j < n ∧ c j = true ∧ ∀ i, i < j → c i = false
  | 0, j, h => by cases h
  | n + 1, j, h => by
    unfold fd at h
    cases hq : fd c n with
    | some k =>
      rw [hq] at h
      have e : k = j := Option.some.inj h
      subst e
      obtain ⟨h1, h2, h3⟩ := fd_some hq
      exact ⟨by omega, h2, h3⟩
    | none =>
      rw [hq] at h
      by_cases hc : c n = true
      · rw [if_pos hc] at h
        have e : n = j := Option.some.inj h
        subst e
        exact ⟨by omega, hc, fun i hi => fd_none hq i hi⟩
      · rw [if_neg hc] at h
        cases h
where fd_none {c : Nat → Bool} : ∀ {n : Nat}, fd c n = none → ∀ i, i < n → c i = false
  | 0, _, i, hi => by omega
  | n + 1, h, i, hi => by
    unfold fd at h
    cases hq : fd c n with
    | some k => rw [hq] at h; cases h
    | none =>
      rw [hq] at h
      by_cases hc : c n = true
      · rw [if_pos hc] at h; cases h
      · by_cases e : i = n
        · subst e; simpa using hc
        · exact fd_none hq i (by omega)
theorem fd_none {c : Nat → Bool} {n : Nat} (h : fd c n = none) : ∀ i, i < n → c i = false := fd_some.fd_none h
theorem sm_congr {g g' : Nat → Int64} : ∀ {n : Nat}, (∀ i, i < n → g i = g' i) → sm g n = sm g' n
  | 0, _ => rfl
  | n + 1, h => by rw [sm, sm, sm_congr (fun i hi => h i (by omega)), h n (by omega)]
theorem ct_congr {g g' : Nat → Bool} : ∀ {n : Nat}, (∀ i, i < n → g i = g' i) → ct g n = ct g' n
  | 0, _ => rfl
  | n + 1, h => by rw [ct, ct, ct_congr (fun i hi => h i (by omega)), h n (by omega)]
theorem fd_congr {g g' : Nat → Bool} : ∀ {n : Nat}, (∀ i, i < n → g i = g' i) → fd g n = fd g' n
  | 0, _ => rfl
  | n + 1, h => by rw [fd, fd, fd_congr (fun i hi => h i (by omega)), h n (by omega)]
theorem ct_le {c : Nat → Bool} : ∀ n, ct c n ≤ n
  | 0 => Nat.le_refl 0
  | n + 1 => by
    have := ct_le (c := c) n
    unfold ct
    split <;> omega
theorem ix_in {d : Int32} {D : Nat} (hD : D < 2 ^ 31) (h1 : ¬ d < 0) (h2 : ¬ nI D ≤ d) : ∃ k, k < D ∧ d = nI k := by
  rcases pk_ix d hD with h | h | h
  · exact absurd h h1
  · exact absurd h h2
  · exact h
theorem ix_no1 {d : Int32} {D : Nat} (hD : D < 2 ^ 31) (h : d < 0) : ∀ k, k < D → d ≠ nI k := fun k hk e => by
  rw [e] at h
  exact nI_pos (by omega) h
theorem ix_no2 {d : Int32} {D : Nat} (hD : D < 2 ^ 31) (h : nI D ≤ d) : ∀ k, k < D → d ≠ nI k := fun k hk e => by
  rw [e] at h
  exact nI_ge hk hD h
theorem cl {n : Nat} (h : n < 2 ^ 31) : (nI n).toNatClampNeg = n := nI_clamp h
theorem i64lt {x z : Int32} : x.toInt64 < z.toInt64 ↔ x < z := by
  rw [Int64.lt_iff_toInt_lt, Int32.lt_iff_toInt_lt, Int32.toInt_toInt64, Int32.toInt_toInt64]
theorem i64le {x z : Int32} : x.toInt64 ≤ z.toInt64 ↔ x ≤ z := by
  rw [Int64.le_iff_toInt_le, Int32.le_iff_toInt_le, Int32.toInt_toInt64, Int32.toInt_toInt64]
theorem lpz (G : Nat → Prop) {n : Nat} (h : ∀ i, i ≤ n → (i < n → G (i + 1)) → G i) : ∀ i, i ≤ n → G i := by
  have key : ∀ k i, i + k = n → G i := by
    intro k
    induction k with
    | zero => intro i e; exact h i (by omega) (fun q => by omega)
    | succ k ih => intro i e; exact h i (by omega) (fun _ => ih (i + 1) (by omega))
  exact fun i hi => key (n - i) i (by omega)
theorem lpx {i n : Nat} (hi : i ≤ n) (hn : n < 2 ^ 31) (q : nI n ≤ nI i) : i = n := by
  have := (nI_leI hn (by omega)).mp q
  omega
theorem lpc {i n : Nat} (hi : i ≤ n) (hn : n < 2 ^ 31) (q : ¬ nI n ≤ nI i) : i < n := by
  rcases Nat.lt_or_ge i n with h | h
  · exact h
  · exact absurd (nI_le h (by omega)) q
theorem vin {i N : Nat} (h : i < N) (hN : N < 2 ^ 31) : vp_in (nI i) N := vp_in_nI h hN
theorem fd_at {c : Nat → Bool} : ∀ {n i : Nat}, i < n → c i = true → (∀ j, j < i → c j = false) → fd c n = some i
  | 0, i, h, _, _ => by omega
  | n + 1, i, h, h1, h2 => by
    unfold fd
    by_cases e : i = n
    · subst e
      have h0 : fd c i = none := by
        cases hq : fd c i with
        | none => rfl
        | some j =>
          obtain ⟨g1, g2, -⟩ := fd_some hq
          rw [h2 j g1] at g2
          cases g2
      rw [h0, h1]
      rfl
    · rw [fd_at (show i < n by omega) h1 h2]
theorem fd_no {c : Nat → Bool} {n : Nat} (h : ∀ j, j < n → c j = false) : fd c n = none := by
  cases hq : fd c n with
  | none => rfl
  | some j =>
    obtain ⟨g1, g2, -⟩ := fd_some hq
    rw [h j g1] at g2
    cases g2
/-- a place as an answer: -1 for none -/
def fI : Option Nat → Int32
  | some j => nI j
  | none => -1
theorem all_lt {c : Nat → Bool} {i : Nat} (h : ∀ j, j < i → c j = false) (hi : c i = false) : ∀ j, j < i + 1 → c j = false := fun j hj => by
  by_cases e : j = i
  · rw [e]; exact hi
  · exact h j (by omega)
theorem vlit {i : Int32} {n : Nat} (h : decide (i < 0 ∨ n ≤ i.toNatClampNeg) = false) : vp_in i n := of_decide_eq_false h
theorem lpk (G : Nat → Nat → Prop) {n : Nat} (h : ∀ i k, i + k = n → (∀ k', k = k' + 1 → G (i + 1) k') → G i k) : ∀ k i, i + k = n → G i k := by
  intro k
  induction k with
  | zero => exact fun i e => h i 0 e (fun k' q => by omega)
  | succ k ih => exact fun i e => h i (k + 1) e (fun k' q => by
      have e2 : k = k' := by omega
      subst e2
      exact ih (i + 1) (by omega))
theorem lpxo {a i n : Nat} (hi : i ≤ n) (hn : a + n < 2 ^ 31) (q : nI (a + n) ≤ nI (a + i)) : i = n := by
  have := (nI_leI hn (by omega)).mp q
  omega
theorem lpco {a i n : Nat} (hi : i ≤ n) (hn : a + n < 2 ^ 31) (q : ¬ nI (a + n) ≤ nI (a + i)) : i < n := by
  rcases Nat.lt_or_ge i n with h | h
  · exact h
  · exact absurd (nI_le (by omega) (by omega)) q
theorem nmin {n : Nat} (h : n ≤ 320) : (if nI n < Int32.ofNat 320 then nI n else Int32.ofNat 320) = nI n := by
  by_cases e : n = 320
  · subst e
    split <;> rfl
  · have q : nI n < Int32.ofNat 320 := nI_lt (a := n) (b := 320) (by omega) (by omega)
    rw [if_pos q]
theorem nmax {n : Nat} (h : n < 2 ^ 31) : (if 0 < nI n then nI n else 0) = nI n := by
  by_cases e : n = 0
  · subst e
    split <;> rfl
  · rw [if_pos]
    exact nI_0 ▸ nI_lt (show 0 < n by omega) h
end
section
/-! contracts: questions of range (written by wip/whole/gc1.py) -/
theorem c_isDay {J : mJ} (X : mRules J) {I A : mI} {B : mB} {w f : Nat} {R : mR} {d : Int32} {D : Nat} (hb : D < 2 ^ 31) (hD : I 16 4 * I 16 5 = nI D) (h1 : ∀ k, k < D → d = nI k → R (some (.int 1)) I A B (pk w f)) (h0 : (∀ k, k < D → d ≠ nI k) → R (some (.int 0)) I A B (pk w f)) : J n_Ledger_isDay 0 [.ref 16, .int d] [] I A B (pk w f) R := by
  refine X 200 _ _ _ _ _ _ _ _ _ ?_
  refine And.intro (fun q1 => ?_) (fun q1 => ?_)
  · refine And.intro (Or.inl rfl) ?_
    first | exact h0 (ix_no1 hb q1) | (rw [hD] at q2; exact h0 (ix_no2 hb q2)) | (rw [hD] at q2; obtain ⟨k, hk, e⟩ := ix_in hb q1 q2; exact h1 k hk e)
  · refine And.intro (fun q2 => ?_) (fun q2 => ?_)
    · refine And.intro (Or.inl rfl) ?_
      first | exact h0 (ix_no1 hb q1) | (rw [hD] at q2; exact h0 (ix_no2 hb q2)) | (rw [hD] at q2; obtain ⟨k, hk, e⟩ := ix_in hb q1 q2; exact h1 k hk e)
    · refine And.intro (Or.inr rfl) ?_
      first | exact h0 (ix_no1 hb q1) | (rw [hD] at q2; exact h0 (ix_no2 hb q2)) | (rw [hD] at q2; obtain ⟨k, hk, e⟩ := ix_in hb q1 q2; exact h1 k hk e)
theorem c_isPeriod {J : mJ} (X : mRules J) {I A : mI} {B : mB} {w f : Nat} {R : mR} {d : Int32} {D : Nat} (hb : D < 2 ^ 31) (hD : I 16 5 = nI D) (h1 : ∀ k, k < D → d = nI k → R (some (.int 1)) I A B (pk w f)) (h0 : (∀ k, k < D → d ≠ nI k) → R (some (.int 0)) I A B (pk w f)) : J n_Ledger_isPeriod 0 [.ref 16, .int d] [] I A B (pk w f) R := by
  refine X 200 _ _ _ _ _ _ _ _ _ ?_
  refine And.intro (fun q1 => ?_) (fun q1 => ?_)
  · refine And.intro (Or.inl rfl) ?_
    first | exact h0 (ix_no1 hb q1) | (rw [hD] at q2; exact h0 (ix_no2 hb q2)) | (rw [hD] at q2; obtain ⟨k, hk, e⟩ := ix_in hb q1 q2; exact h1 k hk e)
  · refine And.intro (fun q2 => ?_) (fun q2 => ?_)
    · refine And.intro (Or.inl rfl) ?_
      first | exact h0 (ix_no1 hb q1) | (rw [hD] at q2; exact h0 (ix_no2 hb q2)) | (rw [hD] at q2; obtain ⟨k, hk, e⟩ := ix_in hb q1 q2; exact h1 k hk e)
    · refine And.intro (Or.inr rfl) ?_
      first | exact h0 (ix_no1 hb q1) | (rw [hD] at q2; exact h0 (ix_no2 hb q2)) | (rw [hD] at q2; obtain ⟨k, hk, e⟩ := ix_in hb q1 q2; exact h1 k hk e)
theorem c_isClosed {J : mJ} (X : mRules J) {I A : mI} {B : mB} {w f : Nat} {R : mR} {d : Int32} {D : Nat} (hb : D < 2 ^ 31) (hD : I 16 7 = nI D) (h1 : ∀ k, k < D → d = nI k → R (some (.int 1)) I A B (pk w f)) (h0 : (∀ k, k < D → d ≠ nI k) → R (some (.int 0)) I A B (pk w f)) : J n_Ledger_isClosed 0 [.ref 16, .int d] [] I A B (pk w f) R := by
  refine X 200 _ _ _ _ _ _ _ _ _ ?_
  refine And.intro (fun q1 => ?_) (fun q1 => ?_)
  · refine And.intro (Or.inl rfl) ?_
    first | exact h0 (ix_no1 hb q1) | (rw [hD] at q2; exact h0 (ix_no2 hb q2)) | (rw [hD] at q2; obtain ⟨k, hk, e⟩ := ix_in hb q1 q2; exact h1 k hk e)
  · refine And.intro (fun q2 => ?_) (fun q2 => ?_)
    · refine And.intro (Or.inl rfl) ?_
      first | exact h0 (ix_no1 hb q1) | (rw [hD] at q2; exact h0 (ix_no2 hb q2)) | (rw [hD] at q2; obtain ⟨k, hk, e⟩ := ix_in hb q1 q2; exact h1 k hk e)
    · refine And.intro (Or.inr rfl) ?_
      first | exact h0 (ix_no1 hb q1) | (rw [hD] at q2; exact h0 (ix_no2 hb q2)) | (rw [hD] at q2; obtain ⟨k, hk, e⟩ := ix_in hb q1 q2; exact h1 k hk e)
theorem c_isTier {J : mJ} (X : mRules J) {I A : mI} {B : mB} {w f : Nat} {R : mR} {d : Int32} {D : Nat} (hb : D < 2 ^ 31) (hD : I 17 4 = nI D) (h1 : ∀ k, k < D → d = nI k → R (some (.int 1)) I A B (pk w f)) (h0 : (∀ k, k < D → d ≠ nI k) → R (some (.int 0)) I A B (pk w f)) : J n_Terms_isTier 0 [.ref 17, .int d] [] I A B (pk w f) R := by
  refine X 200 _ _ _ _ _ _ _ _ _ ?_
  refine And.intro (fun q1 => ?_) (fun q1 => ?_)
  · refine And.intro (Or.inl rfl) ?_
    first | exact h0 (ix_no1 hb q1) | (rw [hD] at q2; exact h0 (ix_no2 hb q2)) | (rw [hD] at q2; obtain ⟨k, hk, e⟩ := ix_in hb q1 q2; exact h1 k hk e)
  · refine And.intro (fun q2 => ?_) (fun q2 => ?_)
    · refine And.intro (Or.inl rfl) ?_
      first | exact h0 (ix_no1 hb q1) | (rw [hD] at q2; exact h0 (ix_no2 hb q2)) | (rw [hD] at q2; obtain ⟨k, hk, e⟩ := ix_in hb q1 q2; exact h1 k hk e)
    · refine And.intro (Or.inr rfl) ?_
      first | exact h0 (ix_no1 hb q1) | (rw [hD] at q2; exact h0 (ix_no2 hb q2)) | (rw [hD] at q2; obtain ⟨k, hk, e⟩ := ix_in hb q1 q2; exact h1 k hk e)
theorem c_has {J : mJ} (X : mRules J) {I A : mI} {B : mB} {w f : Nat} {R : mR} {d : Int32} {D : Nat} (hb : D < 2 ^ 31) (hD : I 29 6 = nI D) (h1 : ∀ k, k < D → d = nI k → R (some (.int 1)) I A B (pk w f)) (h0 : (∀ k, k < D → d ≠ nI k) → R (some (.int 0)) I A B (pk w f)) : J n_Entries_has 0 [.ref 29, .int d] [] I A B (pk w f) R := by
  refine X 200 _ _ _ _ _ _ _ _ _ ?_
  refine And.intro (fun q1 => ?_) (fun q1 => ?_)
  · refine And.intro (Or.inl rfl) ?_
    first | exact h0 (ix_no1 hb q1) | (rw [hD] at q2; exact h0 (ix_no2 hb q2)) | (rw [hD] at q2; obtain ⟨k, hk, e⟩ := ix_in hb q1 q2; exact h1 k hk e)
  · refine And.intro (fun q2 => ?_) (fun q2 => ?_)
    · refine And.intro (Or.inl rfl) ?_
      first | exact h0 (ix_no1 hb q1) | (rw [hD] at q2; exact h0 (ix_no2 hb q2)) | (rw [hD] at q2; obtain ⟨k, hk, e⟩ := ix_in hb q1 q2; exact h1 k hk e)
    · refine And.intro (Or.inr rfl) ?_
      first | exact h0 (ix_no1 hb q1) | (rw [hD] at q2; exact h0 (ix_no2 hb q2)) | (rw [hD] at q2; obtain ⟨k, hk, e⟩ := ix_in hb q1 q2; exact h1 k hk e)
theorem c_hasOpen {J : mJ} (X : mRules J) {I A : mI} {B : mB} {w f : Nat} {R : mR} (h1 : I 16 7 < I 16 5 → R (some (.int 1)) I A B (pk w f)) (h0 : ¬ I 16 7 < I 16 5 → R (some (.int 0)) I A B (pk w f)) : J n_Ledger_hasOpen 0 [.ref 16] [] I A B (pk w f) R := by
  refine X 200 _ _ _ _ _ _ _ _ _ ?_
  refine And.intro (fun q1 => ?_) (fun q1 => ?_)
  · refine And.intro (Or.inl rfl) ?_
    first | exact h0 (Int32.not_lt.mpr q1) | exact h1 (Int32.not_le.mp q1)
  · refine And.intro (Or.inr rfl) ?_
    first | exact h0 (Int32.not_lt.mpr q1) | exact h1 (Int32.not_le.mp q1)
theorem c_isBetween {J : mJ} (X : mRules J) {I A : mI} {B : mB} {w f : Nat} {R : mR} {n lo hi : Int32} (h1 : lo ≤ n → n ≤ hi → R (some (.int 1)) I A B (pk w f)) (h0 : ¬ (lo ≤ n ∧ n ≤ hi) → R (some (.int 0)) I A B (pk w f)) : J n_V_isBetween 0 [.int n, .int lo, .int hi] [] I A B (pk w f) R := by
  refine X 200 _ _ _ _ _ _ _ _ _ ?_
  refine And.intro (fun q1 => ?_) (fun q1 => ?_)
  · refine And.intro (Or.inl rfl) ?_
    first | exact h0 (fun z => Int32.not_lt.mpr z.1 q1) | exact h0 (fun z => Int32.not_lt.mpr z.2 q2) | exact h1 (Int32.not_lt.mp q1) (Int32.not_lt.mp q2)
  · refine And.intro (fun q2 => ?_) (fun q2 => ?_)
    · refine And.intro (Or.inl rfl) ?_
      first | exact h0 (fun z => Int32.not_lt.mpr z.1 q1) | exact h0 (fun z => Int32.not_lt.mpr z.2 q2) | exact h1 (Int32.not_lt.mp q1) (Int32.not_lt.mp q2)
    · refine And.intro (Or.inr rfl) ?_
      first | exact h0 (fun z => Int32.not_lt.mpr z.1 q1) | exact h0 (fun z => Int32.not_lt.mpr z.2 q2) | exact h1 (Int32.not_lt.mp q1) (Int32.not_lt.mp q2)
theorem c_noBook {J : mJ} (X : mRules J) {I A : mI} {B : mB} {w f : Nat} {R : mR} (h1 : I 7 1 = 0 → R (some (.int 1)) I A B (pk w f)) (h0 : ¬ I 7 1 = 0 → R (some (.int 0)) I A B (pk w f)) : J n_V_noBook 0 [.ref 0] [] I A B (pk w f) R := by
  refine X 200 _ _ _ _ _ _ _ _ _ ?_
  refine And.intro (fun q1 => ?_) (fun q1 => ?_)
  · refine And.intro (Or.inl rfl) ?_
    first | exact h1 q1 | exact h0 q1
  · refine And.intro (Or.inr rfl) ?_
    first | exact h1 q1 | exact h0 q1
theorem c_isFull {J : mJ} (X : mRules J) {I A : mI} {B : mB} {w f : Nat} {R : mR} (h1 : 20 ≤ I 7 2 → R (some (.int 1)) I A B (pk w f)) (h0 : ¬ 20 ≤ I 7 2 → R (some (.int 0)) I A B (pk w f)) : J n_Script_isFull 0 [.ref 7] [] I A B (pk w f) R := by
  refine X 200 _ _ _ _ _ _ _ _ _ ?_
  refine And.intro (fun q1 => ?_) (fun q1 => ?_)
  · refine And.intro (Or.inl rfl) ?_
    first | exact h0 (Int32.not_le.mpr q1) | exact h1 (Int32.not_lt.mp q1)
  · refine And.intro (Or.inr rfl) ?_
    first | exact h0 (Int32.not_le.mpr q1) | exact h1 (Int32.not_lt.mp q1)
theorem c_hasRoom {J : mJ} (X : mRules J) {I A : mI} {B : mB} {w f : Nat} {R : mR} {n : Int32} (h1 : I 1 1 + n ≤ 900 → R (some (.int 1)) I A B (pk w f)) (h0 : ¬ I 1 1 + n ≤ 900 → R (some (.int 0)) I A B (pk w f)) : J n_Tape_hasRoom 0 [.ref 1, .int n] [] I A B (pk w f) R := by
  refine X 200 _ _ _ _ _ _ _ _ _ ?_
  refine And.intro (fun q1 => ?_) (fun q1 => ?_)
  · refine And.intro (Or.inl rfl) ?_
    first | exact h0 (Int32.not_le.mpr q1) | exact h1 (Int32.not_lt.mp q1)
  · refine And.intro (Or.inr rfl) ?_
    first | exact h0 (Int32.not_le.mpr q1) | exact h1 (Int32.not_lt.mp q1)
theorem c_Min {J : mJ} (X : mRules J) {I A : mI} {B : mB} {w f : Nat} {R : mR} {v lo hi : Int64} (h1 : lo ≤ v → v ≤ hi → R (some (.int 1)) I A B (pk w f)) (h0 : ¬ (lo ≤ v ∧ v ≤ hi) → R (some (.int 0)) I A B (pk w f)) : J n_M_in 0 [.long v, .float 0, .long lo, .float 0, .long hi, .float 0] [] I A B (pk w f) R := by
  refine X 200 _ _ _ _ _ _ _ _ _ ?_
  refine And.intro (fun q1 => ?_) (fun q1 => ?_)
  · refine And.intro (Or.inl rfl) ?_
    first | exact h0 (fun z => Int64.not_lt.mpr z.1 q1) | exact h0 (fun z => Int64.not_lt.mpr z.2 q2) | exact h1 (Int64.not_lt.mp q1) (Int64.not_lt.mp q2)
  · refine And.intro (fun q2 => ?_) (fun q2 => ?_)
    · refine And.intro (Or.inl rfl) ?_
      first | exact h0 (fun z => Int64.not_lt.mpr z.1 q1) | exact h0 (fun z => Int64.not_lt.mpr z.2 q2) | exact h1 (Int64.not_lt.mp q1) (Int64.not_lt.mp q2)
    · refine And.intro (Or.inr rfl) ?_
      first | exact h0 (fun z => Int64.not_lt.mpr z.1 q1) | exact h0 (fun z => Int64.not_lt.mpr z.2 q2) | exact h1 (Int64.not_lt.mp q1) (Int64.not_lt.mp q2)
theorem c_MisBook {J : mJ} (X : mRules J) {I A : mI} {B : mB} {w f : Nat} {R : mR} {z : Nat} (hw : ash w = some (0, 606)) (h1 : 0 < A w 3 → R (some (.int 1)) I A B (pk w f)) (h0 : ¬ 0 < A w 3 → R (some (.int 0)) I A B (pk w f)) : J n_M_isBook 0 [.ref 43] [] I A B (pk w f) R := by
  refine X 200 _ _ _ _ _ _ _ _ _ ?_
  refine Exists.intro _ (And.intro hw (And.intro (vlit rfl) ?_))
  refine And.intro (fun q1 => ?_) (fun q1 => ?_)
  · refine And.intro (Or.inl rfl) ?_
    first | exact h0 (Int32.not_lt.mpr q1) | exact h1 (Int32.not_le.mp q1)
  · refine And.intro (Or.inr rfl) ?_
    first | exact h0 (Int32.not_lt.mpr q1) | exact h1 (Int32.not_le.mp q1)
end
section
/-! contracts: loops over entries (written by wip/whole/gc2.py) -/
theorem c_isInt {J : mJ} (X : mRules J) {I A : mI} {B : mB} {w f : Nat} {R : mR} {n i : Nat} (hn : n ≤ 220) (hl : i < n) (hz : I 29 6 = nI n) (h1 : (A 30 i = 1 ∨ A 30 i = 2) → R (some (.int 1)) I A B (pk w f)) (h0 : ¬ (A 30 i = 1 ∨ A 30 i = 2) → R (some (.int 0)) I A B (pk w f)) : J n_Entries_isInterest 0 [.ref 29, .int (nI i)] [] I A B (pk w f) R := by
  refine X 200 _ _ _ _ _ _ _ _ _ ?_
  refine c_has X (by omega) hz (fun k hk e => ?_) (fun z => absurd rfl (z i hl))
  refine And.intro (fun q => absurd q (by decide)) (fun _ => ?_)
  refine Exists.intro _ (And.intro rfl (And.intro (vin (show i < 220 by omega) (by omega)) ?_))
  refine And.intro (fun q1 => ?_) (fun q1 => ?_)
  · refine And.intro (Or.inr rfl) ?_
    try rw [cl (by omega)] at q1
    try rw [cl (by omega)] at q2
    first | exact h1 (Or.inl q1) | exact h1 (Or.inr q2) | exact h0 (fun z => z.elim q1 q2)
  · refine Exists.intro _ (And.intro rfl (And.intro (vin (show i < 220 by omega) (by omega)) ?_))
    refine And.intro (fun q2 => ?_) (fun q2 => ?_)
    · refine And.intro (Or.inl rfl) ?_
      try rw [cl (by omega)] at q1
      try rw [cl (by omega)] at q2
      first | exact h1 (Or.inl q1) | exact h1 (Or.inr q2) | exact h0 (fun z => z.elim q1 q2)
    · refine And.intro (Or.inr rfl) ?_
      try rw [cl (by omega)] at q1
      try rw [cl (by omega)] at q2
      first | exact h1 (Or.inl q1) | exact h1 (Or.inr q2) | exact h0 (fun z => z.elim q1 q2)
theorem c_sum {J : mJ} (X : mRules J) {I A : mI} {B : mB} {w f : Nat} {R : mR} {n : Nat} (hn : n ≤ 220) (hz : I 29 6 = nI n)  (h : R (some (.long (sm (fun j => B 31 j) n))) I A B (pk w f)) : J n_Entries_sum 0 [.ref 29, .float 0, .float 0, .float 0] [] I A B (pk w f) R := by
  have hn31 : n < 2 ^ 31 := by omega
  have G : ∀ i, i ≤ n → ∀ (s : Int64) (x : Int32), s = sm (fun j => B 31 j) i → x = nI i → J n_Entries_sum 4 [.ref 29, .long s, .float 0, .int x] [] I A B (pk w f) R := by
    refine lpz (fun i => ∀ (s : Int64) (x : Int32), s = sm (fun j => B 31 j) i → x = nI i → J n_Entries_sum 4 [.ref 29, .long s, .float 0, .int x] [] I A B (pk w f) R) (fun i hi ih => ?_)
    intro s x es ex
    subst es; subst ex
    refine X 200 _ _ _ _ _ _ _ _ _ ?_
    refine And.intro (fun q1 => ?_) (fun q1 => ?_)
    · rw [hz] at q1
      have e := lpx hi hn31 q1
      subst e
      exact h
    · rw [hz] at q1
      have hl := lpc hi hn31 q1
      refine Exists.intro _ (And.intro rfl (And.intro (vin (by omega) (by omega)) ?_))
      have hb31 : i < 2 ^ 31 := by omega
      exact ih hl _ _ (by simp [sm, cl hb31]) (nI_1 i)
  refine X 200 _ _ _ _ _ _ _ _ _ ?_
  exact G 0 (Nat.zero_le _) _ _ rfl rfl
theorem c_interestBooked {J : mJ} (X : mRules J) {I A : mI} {B : mB} {w f : Nat} {R : mR} {n : Nat} (hn : n ≤ 220) (hz : I 29 6 = nI n) {p : Int32} (h : R (some (.long (sm (fun j => if A 34 j = p ∧ (A 30 j = 1 ∨ A 30 j = 2) then B 31 j else 0) n))) I A B (pk w f)) : J n_Entries_interestBooked 0 [.ref 29, .int p, .float 0, .float 0, .float 0] [] I A B (pk w f) R := by
  have hn31 : n < 2 ^ 31 := by omega
  have G : ∀ i, i ≤ n → ∀ (s : Int64) (x : Int32), s = sm (fun j => if A 34 j = p ∧ (A 30 j = 1 ∨ A 30 j = 2) then B 31 j else 0) i → x = nI i → J n_Entries_interestBooked 5 [.ref 29, .int p, .long s, .float 0, .int x] [] I A B (pk w f) R := by
    refine lpz (fun i => ∀ (s : Int64) (x : Int32), s = sm (fun j => if A 34 j = p ∧ (A 30 j = 1 ∨ A 30 j = 2) then B 31 j else 0) i → x = nI i → J n_Entries_interestBooked 5 [.ref 29, .int p, .long s, .float 0, .int x] [] I A B (pk w f) R) (fun i hi ih => ?_)
    intro s x es ex
    subst es; subst ex
    refine X 200 _ _ _ _ _ _ _ _ _ ?_
    refine And.intro (fun q1 => ?_) (fun q1 => ?_)
    · rw [hz] at q1
      have e := lpx hi hn31 q1
      subst e
      exact h
    · rw [hz] at q1
      have hl := lpc hi hn31 q1
      refine Exists.intro _ (And.intro rfl (And.intro (vin (by omega) (by omega)) ?_))
      refine And.intro (fun q2 => ?_) (fun q2 => ?_)
      · have hb31 : i < 2 ^ 31 := by omega
        try simp only [cl hb31] at q2
        exact ih hl _ _ (by simp [sm, cl hb31, q2]) (nI_1 i)
      · refine c_isInt X hn hl hz (fun z1 => ?_) (fun z1 => ?_)
        · refine And.intro (fun q => absurd q (by decide)) (fun _ => ?_)
          refine Exists.intro _ (And.intro rfl (And.intro (vin (by omega) (by omega)) ?_))
          have hb31 : i < 2 ^ 31 := by omega
          try simp only [cl hb31] at q2
          try simp only [cl hb31] at z1
          exact ih hl _ _ (by simp [sm, cl hb31, q2, z1]) (nI_1 i)
        · refine And.intro (fun _ => ?_) (fun q => absurd (by decide) q)
          have hb31 : i < 2 ^ 31 := by omega
          try simp only [cl hb31] at q2
          try simp only [cl hb31] at z1
          exact ih hl _ _ (by simp [sm, cl hb31, q2, z1]) (nI_1 i)
  refine X 200 _ _ _ _ _ _ _ _ _ ?_
  exact G 0 (Nat.zero_le _) _ _ rfl rfl
theorem c_sumOfPrincipal {J : mJ} (X : mRules J) {I A : mI} {B : mB} {w f : Nat} {R : mR} {n : Nat} (hn : n ≤ 220) (hz : I 29 6 = nI n)  (h : R (some (.long (sm (fun j => if A 30 j = 1 ∨ A 30 j = 2 then 0 else B 31 j) n))) I A B (pk w f)) : J n_Entries_sumOfPrincipal 0 [.ref 29, .float 0, .float 0, .float 0] [] I A B (pk w f) R := by
  have hn31 : n < 2 ^ 31 := by omega
  have G : ∀ i, i ≤ n → ∀ (s : Int64) (x : Int32), s = sm (fun j => if A 30 j = 1 ∨ A 30 j = 2 then 0 else B 31 j) i → x = nI i → J n_Entries_sumOfPrincipal 4 [.ref 29, .long s, .float 0, .int x] [] I A B (pk w f) R := by
    refine lpz (fun i => ∀ (s : Int64) (x : Int32), s = sm (fun j => if A 30 j = 1 ∨ A 30 j = 2 then 0 else B 31 j) i → x = nI i → J n_Entries_sumOfPrincipal 4 [.ref 29, .long s, .float 0, .int x] [] I A B (pk w f) R) (fun i hi ih => ?_)
    intro s x es ex
    subst es; subst ex
    refine X 200 _ _ _ _ _ _ _ _ _ ?_
    refine And.intro (fun q1 => ?_) (fun q1 => ?_)
    · rw [hz] at q1
      have e := lpx hi hn31 q1
      subst e
      exact h
    · rw [hz] at q1
      have hl := lpc hi hn31 q1
      refine c_isInt X hn hl hz (fun z1 => ?_) (fun z1 => ?_)
      · refine And.intro (fun _ => ?_) (fun q => absurd q (by decide))
        have hb31 : i < 2 ^ 31 := by omega
        try simp only [cl hb31] at z1
        exact ih hl _ _ (by simp [sm, cl hb31, z1]) (nI_1 i)
      · refine And.intro (fun q => absurd (by decide) q) (fun _ => ?_)
        refine Exists.intro _ (And.intro rfl (And.intro (vin (by omega) (by omega)) ?_))
        have hb31 : i < 2 ^ 31 := by omega
        try simp only [cl hb31] at z1
        exact ih hl _ _ (by simp [sm, cl hb31, z1]) (nI_1 i)
  refine X 200 _ _ _ _ _ _ _ _ _ ?_
  exact G 0 (Nat.zero_le _) _ _ rfl rfl
theorem c_sumAhead {J : mJ} (X : mRules J) {I A : mI} {B : mB} {w f : Nat} {R : mR} {n : Nat} (hn : n ≤ 220) (hz : I 29 6 = nI n) {p : Int32} (h : R (some (.long (sm (fun j => if p ≤ A 33 j then 0 else B 31 j) n))) I A B (pk w f)) : J n_Entries_sumAhead 0 [.ref 29, .int p, .float 0, .float 0, .float 0] [] I A B (pk w f) R := by
  have hn31 : n < 2 ^ 31 := by omega
  have G : ∀ i, i ≤ n → ∀ (s : Int64) (x : Int32), s = sm (fun j => if p ≤ A 33 j then 0 else B 31 j) i → x = nI i → J n_Entries_sumAhead 5 [.ref 29, .int p, .long s, .float 0, .int x] [] I A B (pk w f) R := by
    refine lpz (fun i => ∀ (s : Int64) (x : Int32), s = sm (fun j => if p ≤ A 33 j then 0 else B 31 j) i → x = nI i → J n_Entries_sumAhead 5 [.ref 29, .int p, .long s, .float 0, .int x] [] I A B (pk w f) R) (fun i hi ih => ?_)
    intro s x es ex
    subst es; subst ex
    refine X 200 _ _ _ _ _ _ _ _ _ ?_
    refine And.intro (fun q1 => ?_) (fun q1 => ?_)
    · rw [hz] at q1
      have e := lpx hi hn31 q1
      subst e
      exact h
    · rw [hz] at q1
      have hl := lpc hi hn31 q1
      refine Exists.intro _ (And.intro rfl (And.intro (vin (by omega) (by omega)) ?_))
      refine And.intro (fun q2 => ?_) (fun q2 => ?_)
      · have hb31 : i < 2 ^ 31 := by omega
        try simp only [cl hb31] at q2
        exact ih hl _ _ (by simp [sm, cl hb31, q2]) (nI_1 i)
      · refine Exists.intro _ (And.intro rfl (And.intro (vin (by omega) (by omega)) ?_))
        have hb31 : i < 2 ^ 31 := by omega
        try simp only [cl hb31] at q2
        exact ih hl _ _ (by simp [sm, cl hb31, q2]) (nI_1 i)
  refine X 200 _ _ _ _ _ _ _ _ _ ?_
  exact G 0 (Nat.zero_le _) _ _ rfl rfl
theorem c_sumOn {J : mJ} (X : mRules J) {I A : mI} {B : mB} {w f : Nat} {R : mR} {n : Nat} (hn : n ≤ 220) (hz : I 29 6 = nI n) {p : Int32} {t : Int32} (h : R (some (.long (sm (fun j => if A 33 j = p ∧ A 30 j = t then B 31 j else 0) n))) I A B (pk w f)) : J n_Entries_sumOn 0 [.ref 29, .int p, .int t, .float 0, .float 0, .float 0] [] I A B (pk w f) R := by
  have hn31 : n < 2 ^ 31 := by omega
  have G : ∀ i, i ≤ n → ∀ (s : Int64) (x : Int32), s = sm (fun j => if A 33 j = p ∧ A 30 j = t then B 31 j else 0) i → x = nI i → J n_Entries_sumOn 5 [.ref 29, .int p, .int t, .long s, .float 0, .int x] [] I A B (pk w f) R := by
    refine lpz (fun i => ∀ (s : Int64) (x : Int32), s = sm (fun j => if A 33 j = p ∧ A 30 j = t then B 31 j else 0) i → x = nI i → J n_Entries_sumOn 5 [.ref 29, .int p, .int t, .long s, .float 0, .int x] [] I A B (pk w f) R) (fun i hi ih => ?_)
    intro s x es ex
    subst es; subst ex
    refine X 200 _ _ _ _ _ _ _ _ _ ?_
    refine And.intro (fun q1 => ?_) (fun q1 => ?_)
    · rw [hz] at q1
      have e := lpx hi hn31 q1
      subst e
      exact h
    · rw [hz] at q1
      have hl := lpc hi hn31 q1
      refine Exists.intro _ (And.intro rfl (And.intro (vin (by omega) (by omega)) ?_))
      refine And.intro (fun q2 => ?_) (fun q2 => ?_)
      · have hb31 : i < 2 ^ 31 := by omega
        try simp only [cl hb31] at q2
        exact ih hl _ _ (by simp [sm, cl hb31, q2]) (nI_1 i)
      · refine Exists.intro _ (And.intro rfl (And.intro (vin (by omega) (by omega)) ?_))
        refine And.intro (fun q3 => ?_) (fun q3 => ?_)
        · have hb31 : i < 2 ^ 31 := by omega
          try simp only [cl hb31] at q2
          try simp only [cl hb31] at q3
          exact ih hl _ _ (by simp [sm, cl hb31, q2, q3]) (nI_1 i)
        · refine Exists.intro _ (And.intro rfl (And.intro (vin (by omega) (by omega)) ?_))
          have hb31 : i < 2 ^ 31 := by omega
          try simp only [cl hb31] at q2
          try simp only [cl hb31] at q3
          exact ih hl _ _ (by simp [sm, cl hb31, q2, q3]) (nI_1 i)
  refine X 200 _ _ _ _ _ _ _ _ _ ?_
  exact G 0 (Nat.zero_le _) _ _ rfl rfl
theorem c_paidOn {J : mJ} (X : mRules J) {I A : mI} {B : mB} {w f : Nat} {R : mR} {n : Nat} (hn : n ≤ 220) (hz : I 29 6 = nI n) {p : Int32} (h : R (some (.long (sm (fun j => if A 33 j = p ∧ A 30 j = 0 then (if B 31 j < 0 then 0 else B 31 j) else 0) n))) I A B (pk w f)) : J n_Entries_paidOn 0 [.ref 29, .int p, .float 0, .float 0, .float 0] [] I A B (pk w f) R := by
  have hn31 : n < 2 ^ 31 := by omega
  have G : ∀ i, i ≤ n → ∀ (s : Int64) (x : Int32), s = sm (fun j => if A 33 j = p ∧ A 30 j = 0 then (if B 31 j < 0 then 0 else B 31 j) else 0) i → x = nI i → J n_Entries_paidOn 5 [.ref 29, .int p, .long s, .float 0, .int x] [] I A B (pk w f) R := by
    refine lpz (fun i => ∀ (s : Int64) (x : Int32), s = sm (fun j => if A 33 j = p ∧ A 30 j = 0 then (if B 31 j < 0 then 0 else B 31 j) else 0) i → x = nI i → J n_Entries_paidOn 5 [.ref 29, .int p, .long s, .float 0, .int x] [] I A B (pk w f) R) (fun i hi ih => ?_)
    intro s x es ex
    subst es; subst ex
    refine X 200 _ _ _ _ _ _ _ _ _ ?_
    refine And.intro (fun q1 => ?_) (fun q1 => ?_)
    · rw [hz] at q1
      have e := lpx hi hn31 q1
      subst e
      exact h
    · rw [hz] at q1
      have hl := lpc hi hn31 q1
      refine Exists.intro _ (And.intro rfl (And.intro (vin (by omega) (by omega)) ?_))
      refine And.intro (fun q2 => ?_) (fun q2 => ?_)
      · have hb31 : i < 2 ^ 31 := by omega
        try simp only [cl hb31] at q2
        exact ih hl _ _ (by simp [sm, cl hb31, q2]) (nI_1 i)
      · refine Exists.intro _ (And.intro rfl (And.intro (vin (by omega) (by omega)) ?_))
        refine And.intro (fun q3 => ?_) (fun q3 => ?_)
        · have hb31 : i < 2 ^ 31 := by omega
          try simp only [cl hb31] at q2
          try simp only [cl hb31] at q3
          exact ih hl _ _ (by simp [sm, cl hb31, q2, q3]) (nI_1 i)
        · refine Exists.intro _ (And.intro rfl (And.intro (vin (by omega) (by omega)) ?_))
          have hb31 : i < 2 ^ 31 := by omega
          try simp only [cl hb31] at q2
          try simp only [cl hb31] at q3
          exact ih hl _ _ (by simp [sm, cl hb31, q2, q3]) (nI_1 i)
  refine X 200 _ _ _ _ _ _ _ _ _ ?_
  exact G 0 (Nat.zero_le _) _ _ rfl rfl
theorem c_sumValued {J : mJ} (X : mRules J) {I A : mI} {B : mB} {w f : Nat} {R : mR} {n : Nat} (hn : n ≤ 220) (hz : I 29 6 = nI n) {p : Int32} {a : Int32} {b : Int32} (h : R (some (.long (sm (fun j => if A 33 j = p ∧ ¬ A 32 j < a ∧ ¬ b ≤ A 32 j then B 31 j else 0) n))) I A B (pk w f)) : J n_Entries_sumValued 0 [.ref 29, .int p, .int a, .int b, .float 0, .float 0, .float 0] [] I A B (pk w f) R := by
  have hn31 : n < 2 ^ 31 := by omega
  have G : ∀ i, i ≤ n → ∀ (s : Int64) (x : Int32), s = sm (fun j => if A 33 j = p ∧ ¬ A 32 j < a ∧ ¬ b ≤ A 32 j then B 31 j else 0) i → x = nI i → J n_Entries_sumValued 6 [.ref 29, .int p, .int a, .int b, .long s, .float 0, .int x] [] I A B (pk w f) R := by
    refine lpz (fun i => ∀ (s : Int64) (x : Int32), s = sm (fun j => if A 33 j = p ∧ ¬ A 32 j < a ∧ ¬ b ≤ A 32 j then B 31 j else 0) i → x = nI i → J n_Entries_sumValued 6 [.ref 29, .int p, .int a, .int b, .long s, .float 0, .int x] [] I A B (pk w f) R) (fun i hi ih => ?_)
    intro s x es ex
    subst es; subst ex
    refine X 200 _ _ _ _ _ _ _ _ _ ?_
    refine And.intro (fun q1 => ?_) (fun q1 => ?_)
    · rw [hz] at q1
      have e := lpx hi hn31 q1
      subst e
      exact h
    · rw [hz] at q1
      have hl := lpc hi hn31 q1
      refine Exists.intro _ (And.intro rfl (And.intro (vin (by omega) (by omega)) ?_))
      refine And.intro (fun q2 => ?_) (fun q2 => ?_)
      · have hb31 : i < 2 ^ 31 := by omega
        try simp only [cl hb31] at q2
        exact ih hl _ _ (by simp [sm, cl hb31, q2]) (nI_1 i)
      · refine Exists.intro _ (And.intro rfl (And.intro (vin (by omega) (by omega)) ?_))
        refine And.intro (fun q3 => ?_) (fun q3 => ?_)
        · have hb31 : i < 2 ^ 31 := by omega
          try simp only [cl hb31] at q2
          try simp only [cl hb31] at q3
          exact ih hl _ _ (by simp [sm, cl hb31, q2, q3]) (nI_1 i)
        · refine Exists.intro _ (And.intro rfl (And.intro (vin (by omega) (by omega)) ?_))
          refine And.intro (fun q4 => ?_) (fun q4 => ?_)
          · have hb31 : i < 2 ^ 31 := by omega
            try simp only [cl hb31] at q2
            try simp only [cl hb31] at q3
            try simp only [cl hb31] at q4
            exact ih hl _ _ (by simp [sm, cl hb31, q2, q3, q4]) (nI_1 i)
          · refine Exists.intro _ (And.intro rfl (And.intro (vin (by omega) (by omega)) ?_))
            have hb31 : i < 2 ^ 31 := by omega
            try simp only [cl hb31] at q2
            try simp only [cl hb31] at q3
            try simp only [cl hb31] at q4
            exact ih hl _ _ (by simp [sm, cl hb31, q2, q3, q4]) (nI_1 i)
  refine X 200 _ _ _ _ _ _ _ _ _ ?_
  exact G 0 (Nat.zero_le _) _ _ rfl rfl
theorem c_sizeValued {J : mJ} (X : mRules J) {I A : mI} {B : mB} {w f : Nat} {R : mR} {n : Nat} (hn : n ≤ 220) (hz : I 29 6 = nI n) {p : Int32} {a : Int32} {b : Int32} (h : R (some (.int (nI (ct (fun j => decide (A 33 j = p ∧ ¬ A 32 j < a ∧ ¬ b ≤ A 32 j)) n)))) I A B (pk w f)) : J n_Entries_sizeValued 0 [.ref 29, .int p, .int a, .int b, .float 0, .float 0] [] I A B (pk w f) R := by
  have hn31 : n < 2 ^ 31 := by omega
  have G : ∀ i, i ≤ n → ∀ (s : Int32) (x : Int32), s = nI (ct (fun j => decide (A 33 j = p ∧ ¬ A 32 j < a ∧ ¬ b ≤ A 32 j)) i) → x = nI i → J n_Entries_sizeValued 6 [.ref 29, .int p, .int a, .int b, .int s, .int x] [] I A B (pk w f) R := by
    refine lpz (fun i => ∀ (s : Int32) (x : Int32), s = nI (ct (fun j => decide (A 33 j = p ∧ ¬ A 32 j < a ∧ ¬ b ≤ A 32 j)) i) → x = nI i → J n_Entries_sizeValued 6 [.ref 29, .int p, .int a, .int b, .int s, .int x] [] I A B (pk w f) R) (fun i hi ih => ?_)
    intro s x es ex
    subst es; subst ex
    refine X 200 _ _ _ _ _ _ _ _ _ ?_
    refine And.intro (fun q1 => ?_) (fun q1 => ?_)
    · rw [hz] at q1
      have e := lpx hi hn31 q1
      subst e
      exact h
    · rw [hz] at q1
      have hl := lpc hi hn31 q1
      refine Exists.intro _ (And.intro rfl (And.intro (vin (by omega) (by omega)) ?_))
      refine And.intro (fun q2 => ?_) (fun q2 => ?_)
      · have hb31 : i < 2 ^ 31 := by omega
        try simp only [cl hb31] at q2
        exact ih hl _ _ (by simp [ct, nI_1, cl hb31, q2]) (nI_1 i)
      · refine Exists.intro _ (And.intro rfl (And.intro (vin (by omega) (by omega)) ?_))
        refine And.intro (fun q3 => ?_) (fun q3 => ?_)
        · have hb31 : i < 2 ^ 31 := by omega
          try simp only [cl hb31] at q2
          try simp only [cl hb31] at q3
          exact ih hl _ _ (by simp [ct, nI_1, cl hb31, q2, q3]) (nI_1 i)
        · refine Exists.intro _ (And.intro rfl (And.intro (vin (by omega) (by omega)) ?_))
          refine And.intro (fun q4 => ?_) (fun q4 => ?_)
          · have hb31 : i < 2 ^ 31 := by omega
            try simp only [cl hb31] at q2
            try simp only [cl hb31] at q3
            try simp only [cl hb31] at q4
            exact ih hl _ _ (by simp [ct, nI_1, cl hb31, q2, q3, q4]) (nI_1 i)
          · have hb31 : i < 2 ^ 31 := by omega
            try simp only [cl hb31] at q2
            try simp only [cl hb31] at q3
            try simp only [cl hb31] at q4
            exact ih hl _ _ (by simp [ct, nI_1, cl hb31, q2, q3, q4]) (nI_1 i)
  refine X 200 _ _ _ _ _ _ _ _ _ ?_
  exact G 0 (Nat.zero_le _) _ _ rfl rfl
theorem c_isTurnedBack {J : mJ} (X : mRules J) {I A : mI} {B : mB} {w f : Nat} {R : mR} {n : Nat} (hn : n ≤ 220) (hz : I 29 6 = nI n) {e0 : Int32} (h : R (some (.int (if (fd (fun j => decide (A 30 j = 3 ∧ A 34 j = e0)) n).isSome then 1 else 0))) I A B (pk w f)) : J n_Entries_isTurnedBack 0 [.ref 29, .int e0, .float 0] [] I A B (pk w f) R := by
  have hn31 : n < 2 ^ 31 := by omega
  have G : ∀ i, i ≤ n → ∀ (x : Int32), x = nI i → (∀ j, j < i → (fun j => decide (A 30 j = 3 ∧ A 34 j = e0)) j = false) → J n_Entries_isTurnedBack 2 [.ref 29, .int e0, .int x] [] I A B (pk w f) R := by
    refine lpz (fun i => ∀ (x : Int32), x = nI i → (∀ j, j < i → (fun j => decide (A 30 j = 3 ∧ A 34 j = e0)) j = false) → J n_Entries_isTurnedBack 2 [.ref 29, .int e0, .int x] [] I A B (pk w f) R) (fun i hi ih => ?_)
    intro x ex hno
    subst ex
    refine X 200 _ _ _ _ _ _ _ _ _ ?_
    refine And.intro (fun q1 => ?_) (fun q1 => ?_)
    · rw [hz] at q1
      have e := lpx hi hn31 q1
      subst e
      rw [fd_no hno] at h
      refine And.intro (Or.inl rfl) ?_
      exact h
    · rw [hz] at q1
      have hl := lpc hi hn31 q1
      have hb31 : i < 2 ^ 31 := by omega
      refine Exists.intro _ (And.intro rfl (And.intro (vin (by omega) (by omega)) ?_))
      refine And.intro (fun q2 => ?_) (fun q2 => ?_)
      · try simp only [cl hb31] at q2
        exact ih hl _  (nI_1 i) (all_lt hno (by simp [q2]))
      · refine Exists.intro _ (And.intro rfl (And.intro (vin (by omega) (by omega)) ?_))
        refine And.intro (fun q3 => ?_) (fun q3 => ?_)
        · try simp only [cl hb31] at q2
          try simp only [cl hb31] at q3
          exact ih hl _  (nI_1 i) (all_lt hno (by simp [q2, q3]))
        · refine And.intro (Or.inr rfl) ?_
          try simp only [cl hb31] at q2
          try simp only [cl hb31] at q3
          rw [fd_at hl (by simp [q2, q3]) hno] at h
          exact h
  refine X 200 _ _ _ _ _ _ _ _ _ ?_
  exact G 0 (Nat.zero_le _) _ rfl (fun j hj => absurd hj (Nat.not_lt_zero j))
theorem c_moneyAt {J : mJ} (X : mRules J) {I A : mI} {B : mB} {w f : Nat} {R : mR} {n : Nat} (hn : n ≤ 220) (hz : I 29 6 = nI n) {a : Int32} (h : R (some (.int (fI (fd (fun j => decide (A 30 j = 0 ∧ nI (ct (fun j => decide (A 30 j = 0)) j) = a)) n)))) I A B (pk w f)) : J n_Entries_moneyAt 0 [.ref 29, .int a, .float 0, .float 0] [] I A B (pk w f) R := by
  have hn31 : n < 2 ^ 31 := by omega
  have G : ∀ i, i ≤ n → ∀ (s : Int32) (x : Int32), s = nI (ct (fun j => decide (A 30 j = 0)) i) → x = nI i → (∀ j, j < i → (fun j => decide (A 30 j = 0 ∧ nI (ct (fun j => decide (A 30 j = 0)) j) = a)) j = false) → J n_Entries_moneyAt 4 [.ref 29, .int a, .int s, .int x] [] I A B (pk w f) R := by
    refine lpz (fun i => ∀ (s : Int32) (x : Int32), s = nI (ct (fun j => decide (A 30 j = 0)) i) → x = nI i → (∀ j, j < i → (fun j => decide (A 30 j = 0 ∧ nI (ct (fun j => decide (A 30 j = 0)) j) = a)) j = false) → J n_Entries_moneyAt 4 [.ref 29, .int a, .int s, .int x] [] I A B (pk w f) R) (fun i hi ih => ?_)
    intro s x es ex hno
    subst es; subst ex
    refine X 200 _ _ _ _ _ _ _ _ _ ?_
    refine And.intro (fun q1 => ?_) (fun q1 => ?_)
    · rw [hz] at q1
      have e := lpx hi hn31 q1
      subst e
      rw [fd_no hno] at h
      exact h
    · rw [hz] at q1
      have hl := lpc hi hn31 q1
      have hb31 : i < 2 ^ 31 := by omega
      refine Exists.intro _ (And.intro rfl (And.intro (vin (by omega) (by omega)) ?_))
      refine And.intro (fun q2 => ?_) (fun q2 => ?_)
      · try simp only [cl hb31] at q2
        exact ih hl _ _ (by simp [ct, nI_1, cl hb31, q2]) (nI_1 i) (all_lt hno (by simp [q2]))
      · refine And.intro (fun q3 => ?_) (fun q3 => ?_)
        · try simp only [cl hb31] at q2
          try simp only [cl hb31] at q3
          exact ih hl _ _ (by simp [ct, nI_1, cl hb31, q2, q3]) (nI_1 i) (all_lt hno (by simp [q2, q3]))
        · try simp only [cl hb31] at q2
          try simp only [cl hb31] at q3
          rw [fd_at hl (by simp [q2, q3]) hno] at h
          exact h
  refine X 200 _ _ _ _ _ _ _ _ _ ?_
  exact G 0 (Nat.zero_le _) _ _ rfl rfl (fun j hj => absurd hj (Nat.not_lt_zero j))
theorem c_onPage {J : mJ} (X : mRules J) {I A : mI} {B : mB} {w f : Nat} {R : mR} {n : Nat} (hn : n ≤ 220) (hz : I 29 6 = nI n) {p : Int32} {k : Int32} (h : R (some (.int (fI (fd (fun j => decide (A 33 j = p ∧ nI (ct (fun j => decide (A 33 j = p)) j) = k)) n)))) I A B (pk w f)) : J n_Entries_onPage 0 [.ref 29, .int p, .int k, .float 0, .float 0] [] I A B (pk w f) R := by
  have hn31 : n < 2 ^ 31 := by omega
  have G : ∀ i, i ≤ n → ∀ (s : Int32) (x : Int32), s = nI (ct (fun j => decide (A 33 j = p)) i) → x = nI i → (∀ j, j < i → (fun j => decide (A 33 j = p ∧ nI (ct (fun j => decide (A 33 j = p)) j) = k)) j = false) → J n_Entries_onPage 5 [.ref 29, .int p, .int k, .int s, .int x] [] I A B (pk w f) R := by
    refine lpz (fun i => ∀ (s : Int32) (x : Int32), s = nI (ct (fun j => decide (A 33 j = p)) i) → x = nI i → (∀ j, j < i → (fun j => decide (A 33 j = p ∧ nI (ct (fun j => decide (A 33 j = p)) j) = k)) j = false) → J n_Entries_onPage 5 [.ref 29, .int p, .int k, .int s, .int x] [] I A B (pk w f) R) (fun i hi ih => ?_)
    intro s x es ex hno
    subst es; subst ex
    refine X 200 _ _ _ _ _ _ _ _ _ ?_
    refine And.intro (fun q1 => ?_) (fun q1 => ?_)
    · rw [hz] at q1
      have e := lpx hi hn31 q1
      subst e
      rw [fd_no hno] at h
      exact h
    · rw [hz] at q1
      have hl := lpc hi hn31 q1
      have hb31 : i < 2 ^ 31 := by omega
      refine Exists.intro _ (And.intro rfl (And.intro (vin (by omega) (by omega)) ?_))
      refine And.intro (fun q2 => ?_) (fun q2 => ?_)
      · try simp only [cl hb31] at q2
        exact ih hl _ _ (by simp [ct, nI_1, cl hb31, q2]) (nI_1 i) (all_lt hno (by simp [q2]))
      · refine And.intro (fun q3 => ?_) (fun q3 => ?_)
        · try simp only [cl hb31] at q2
          try simp only [cl hb31] at q3
          exact ih hl _ _ (by simp [ct, nI_1, cl hb31, q2, q3]) (nI_1 i) (all_lt hno (by simp [q2, q3]))
        · try simp only [cl hb31] at q2
          try simp only [cl hb31] at q3
          rw [fd_at hl (by simp [q2, q3]) hno] at h
          exact h
  refine X 200 _ _ _ _ _ _ _ _ _ ?_
  exact G 0 (Nat.zero_le _) _ _ rfl rfl (fun j hj => absurd hj (Nat.not_lt_zero j))
end
section
/-! contracts: terms (written by wip/whole/gc3.py) -/
theorem rul_sh {r : Nat} (h : r < 7) : ash (19 + 1 * (nI r).toNatClampNeg) = some (0, 320) := by
  rw [cl (by omega)]
  match r, h with
  | 0, _ => rfl
  | 1, _ => rfl
  | 2, _ => rfl
  | 3, _ => rfl
  | 4, _ => rfl
  | 5, _ => rfl
  | 6, _ => rfl
/-- up to where a tier takes of a balance -/
def tpo (A : mI) (t : Nat) (b : Int64) : Int64 := if A 26 t = -1 then b else if (A 26 t).toInt64 < b then (A 26 t).toInt64 else b
def tpb (A : mI) (t : Nat) (b : Int64) : Int64 := if t = 0 then 0 else tpo A (t - 1) b
def ptO (A : mI) (t : Nat) (b : Int64) : Int64 := if tpo A t b - tpb A t b < 0 then 0 else tpo A t b - tpb A t b
/-- what a tier takes of a balance, up to its top: as credit() has it -/
def tpc (A : mI) (t : Nat) (b : Int64) : Int64 := if A 26 t = -1 then b else if b < (A 26 t).toInt64 then b else (A 26 t).toInt64
/-- credit(): k tiers left, from t on -/
def crd (A : mI) (d : Nat) (b : Int64) : Nat → Nat → Int64 → Int64 → Int64
  | 0, _, s, _ => s
  | k + 1, t, s, z => if z < b then crd A d b k (t + 1) (s + (tpc A t b - z) * (A (19 + t) d).toInt64) (tpc A t b) else s
def dbt (A : mI) (l : Int32) (d : Nat) (b : Int64) : Int64 := if 0 ≤ b then 0 else (if -b < l.toInt64 then -b else l.toInt64) * (A 23 d).toInt64 + (-b - (if -b < l.toInt64 then -b else l.toInt64)) * (A 24 d).toInt64
def nea (s : Int64) : Int64 := if s < 0 then -(((if 0 < s then s else -s) + 1800000) / 3600000) else ((if 0 < s then s else -s) + 1800000) / 3600000
theorem c_rule {J : mJ} (X : mRules J) {I A : mI} {B : mB} {w f : Nat} {R : mR} {x z : Int32} {r d : Nat} (ex : x = nI r) (ez : z = nI d) (hr : r < 7) (hd : d < 320) (h : R (some (.int (A (19 + r) d))) I A B (pk w f)) : J n_Terms_rule 0 [.ref 17, .int x, .int z] [] I A B (pk w f) R := by
  subst ex; subst ez
  refine X 200 _ _ _ _ _ _ _ _ _ ?_
  refine And.intro (fun q1 => ?_) (fun q1 => ?_)
  · exact absurd q1 (nI_pos (by omega)) --end
  · refine And.intro (fun q2 => ?_) (fun q2 => ?_)
    · exact absurd q2 (nI_ge (b := 7) (by omega) (by omega)) --end
    · refine And.intro (fun q3 => ?_) (fun q3 => ?_)
      · exact absurd q3 (nI_pos (by omega)) --end
      · refine And.intro (fun q4 => ?_) (fun q4 => ?_)
        · refine Exists.intro _ (Exists.intro _ (Exists.intro _ (And.intro rfl (And.intro (vin (by omega) (by omega)) ?_))))
          refine Exists.intro _ (And.intro (rul_sh hr) (And.intro (vin (by omega) (by omega)) ?_))
          rw [cl (show r < 2 ^ 31 by omega), cl (show d < 2 ^ 31 by omega), Nat.one_mul]
          exact h
        · exact absurd (nI_lt (b := 320) (by omega) (by omega)) q4 --end
theorem c_standing {J : mJ} (X : mRules J) {I A : mI} {B : mB} {w f : Nat} {R : mR} {x : Int32} {d : Nat} (ex : x = nI d) (hd : d < 320) (h : R (some (.long (B 36 d))) I A B (pk w f)) : J n_Ledger_standing 0 [.ref 16, .int x] [] I A B (pk w f) R := by
  subst ex
  refine X 200 _ _ _ _ _ _ _ _ _ ?_
  refine And.intro (fun q1 => ?_) (fun q1 => ?_)
  · exact absurd q1 (nI_pos (by omega)) --end
  · refine And.intro (fun q2 => ?_) (fun q2 => ?_)
    · exact absurd q2 (nI_ge (b := 320) (by omega) (by omega)) --end
    · refine Exists.intro _ (And.intro rfl (And.intro (vin (by omega) (by omega)) ?_))
      rw [cl (show d < 2 ^ 31 by omega)]
      exact h
theorem c_topOf {J : mJ} (X : mRules J) {I A : mI} {B : mB} {w f : Nat} {R : mR} {x : Int32} {t : Nat} {b : Int64} (ex : x = nI t) (ht : t < 4) (h : R (some (.long (tpo A t b))) I A B (pk w f)) : J n_Terms_topOf 0 [.ref 17, .int x, .long b, .float 0] [] I A B (pk w f) R := by
  subst ex
  refine X 200 _ _ _ _ _ _ _ _ _ ?_
  refine And.intro (fun q1 => ?_) (fun q1 => ?_)
  · exact absurd q1 (nI_pos (by omega)) --end
  · refine And.intro (fun q2 => ?_) (fun q2 => ?_)
    · exact absurd q2 (nI_ge (b := 4) (by omega) (by omega)) --end
    · refine Exists.intro _ (And.intro rfl (And.intro (vin (by omega) (by omega)) ?_))
      refine And.intro (fun q3 => ?_) (fun q3 => ?_)
      · refine Exists.intro _ (And.intro rfl (And.intro (vin (by omega) (by omega)) ?_))
        rw [cl (show t < 2 ^ 31 by omega)] at q3
        unfold tpo at h
        first | (rw [if_neg q3] at h; rw [cl (show t < 2 ^ 31 by omega)]; exact h) | (rw [if_pos q3] at h; exact h)
      · rw [cl (show t < 2 ^ 31 by omega)] at q3
        unfold tpo at h
        first | (rw [if_neg q3] at h; rw [cl (show t < 2 ^ 31 by omega)]; exact h) | (rw [if_pos q3] at h; exact h)
theorem c_partOf {J : mJ} (X : mRules J) {I A : mI} {B : mB} {w f : Nat} {R : mR} {x : Int32} {t : Nat} {b : Int64} (ex : x = nI t) (ht : t < 4) (h : R (some (.long (ptO A t b))) I A B (pk w f)) : J n_Terms_partOf 0 [.ref 17, .int x, .long b, .float 0, .float 0, .float 0] [] I A B (pk w f) R := by
  subst ex
  refine X 200 _ _ _ _ _ _ _ _ _ ?_
  refine And.intro (fun q1 => ?_) (fun q1 => ?_)
  · have ht0 : t ≠ 0 := fun e => q1 (by rw [e]; rfl)
    refine c_topOf X (t := t - 1) (by rw [show t = t - 1 + 1 by omega]; exact nI_pred _) (by omega) ?_
    refine c_topOf X (t := t) rfl ht ?_
    unfold ptO tpb at h
    first | (rw [if_neg ht0] at h; exact h) | (rw [if_pos ht0] at h; exact h)
  · have ht0 : t = 0 := (nI_eq (by omega) (by omega)).mp (q1.trans nI_0.symm)
    refine c_topOf X (t := t) rfl ht ?_
    unfold ptO tpb at h
    first | (rw [if_neg ht0] at h; exact h) | (rw [if_pos ht0] at h; exact h)
theorem c_partAboveAll {J : mJ} (X : mRules J) {I A : mI} {B : mB} {w f : Nat} {R : mR} {b : Int64} {nt : Nat} (hnt : nt ≤ 4) (hI : I 17 4 = nI nt) (h : R (some (.long (if b - (if nt = 0 then 0 else tpo A (nt - 1) b) < 0 then 0 else b - (if nt = 0 then 0 else tpo A (nt - 1) b)))) I A B (pk w f)) : J n_Terms_partAboveAll 0 [.ref 17, .long b, .float 0, .float 0, .float 0] [] I A B (pk w f) R := by
  refine X 200 _ _ _ _ _ _ _ _ _ ?_
  refine And.intro (fun q1 => ?_) (fun q1 => ?_)
  · rw [hI] at q1
    have ht0 : nt ≠ 0 := fun e => q1 (by rw [e]; rfl)
    refine c_topOf X (t := nt - 1) (by rw [hI, show nt = nt - 1 + 1 by omega]; exact nI_pred _) (by omega) ?_
    first | (rw [if_neg ht0] at h; exact h) | (rw [if_pos ht0] at h; exact h)
  · rw [hI] at q1
    have ht0 : nt = 0 := (nI_eq (by omega) (by omega)).mp (q1.trans nI_0.symm)
    first | (rw [if_neg ht0] at h; exact h) | (rw [if_pos ht0] at h; exact h)
theorem c_debtBy {J : mJ} (X : mRules J) {I A : mI} {B : mB} {w f : Nat} {R : mR} {x l : Int32} {d : Nat} {b : Int64} (ex : x = nI d) (hd : d < 320) (h : R (some (.long (dbt A l d b))) I A B (pk w f)) : J n_Terms_debtBy 0 [.ref 17, .int l, .int x, .long b, .float 0, .float 0, .float 0, .float 0, .float 0] [] I A B (pk w f) R := by
  subst ex
  refine X 200 _ _ _ _ _ _ _ _ _ ?_
  refine And.intro (fun q1 => ?_) (fun q1 => ?_)
  · unfold dbt at h
    first | (rw [if_pos q1] at h; exact h) | (rw [if_neg q1, if_neg (Int64.not_lt.mpr q4)] at h; rw [cl (show d < 2 ^ 31 by omega)]; exact h) | (rw [if_neg q1, if_pos (Int64.not_le.mp q4)] at h; rw [cl (show d < 2 ^ 31 by omega)]; exact h)
  · refine And.intro (fun q2 => ?_) (fun q2 => ?_)
    · exact absurd q2 (nI_pos (by omega)) --end
    · refine And.intro (fun q3 => ?_) (fun q3 => ?_)
      · refine And.intro (fun q4 => ?_) (fun q4 => ?_)
        · refine Exists.intro _ (Exists.intro _ (Exists.intro _ (And.intro rfl (And.intro (vlit rfl) ?_))))
          refine Exists.intro _ (And.intro rfl (And.intro (vin (by omega) (by omega)) ?_))
          refine Exists.intro _ (Exists.intro _ (Exists.intro _ (And.intro rfl (And.intro (vlit rfl) ?_))))
          refine Exists.intro _ (And.intro rfl (And.intro (vin (by omega) (by omega)) ?_))
          unfold dbt at h
          first | (rw [if_pos q1] at h; exact h) | (rw [if_neg q1, if_neg (Int64.not_lt.mpr q4)] at h; rw [cl (show d < 2 ^ 31 by omega)]; exact h) | (rw [if_neg q1, if_pos (Int64.not_le.mp q4)] at h; rw [cl (show d < 2 ^ 31 by omega)]; exact h)
        · refine Exists.intro _ (Exists.intro _ (Exists.intro _ (And.intro rfl (And.intro (vlit rfl) ?_))))
          refine Exists.intro _ (And.intro rfl (And.intro (vin (by omega) (by omega)) ?_))
          refine Exists.intro _ (Exists.intro _ (Exists.intro _ (And.intro rfl (And.intro (vlit rfl) ?_))))
          refine Exists.intro _ (And.intro rfl (And.intro (vin (by omega) (by omega)) ?_))
          unfold dbt at h
          first | (rw [if_pos q1] at h; exact h) | (rw [if_neg q1, if_neg (Int64.not_lt.mpr q4)] at h; rw [cl (show d < 2 ^ 31 by omega)]; exact h) | (rw [if_neg q1, if_pos (Int64.not_le.mp q4)] at h; rw [cl (show d < 2 ^ 31 by omega)]; exact h)
      · exact absurd (nI_lt (b := 320) (by omega) (by omega)) q3 --end
theorem c_compDay {J : mJ} (X : mRules J) {I A : mI} {B : mB} {w f : Nat} {R : mR} {x : Int32} (h : R (some (.int (I 16 4 * I 16 6 * (x / I 16 6 + 1)))) I A B (pk w f)) (hc : ¬ I 16 6 < 1) : J n_Ledger_compoundingDay 0 [.ref 16, .int x] [] I A B (pk w f) R := by
  refine X 200 _ _ _ _ _ _ _ _ _ ?_
  refine And.intro (fun q1 => ?_) (fun q1 => ?_)
  · refine And.intro (fun e => hc (by rw [e]; decide)) ?_
    exact h
  · exact absurd (Int32.not_le.mp q1) hc --end
theorem c_nearest {J : mJ} (X : mRules J) {I A : mI} {B : mB} {w f : Nat} {R : mR} {s : Int64} (h : R (some (.long (nea s))) I A B (pk w f)) : J n_Ledger_nearest 0 [.long s, .float 0, .float 0, .float 0] [] I A B (pk w f) R := by
  refine X 200 _ _ _ _ _ _ _ _ _ ?_
  refine And.intro (by decide) ?_
  refine And.intro (fun q1 => ?_) (fun q1 => ?_)
  · unfold nea at h
    first | (rw [if_neg (Int64.not_lt.mpr q1)] at h; exact h) | (rw [if_pos (Int64.not_le.mp q1)] at h; exact h)
  · unfold nea at h
    first | (rw [if_neg (Int64.not_lt.mpr q1)] at h; exact h) | (rw [if_pos (Int64.not_le.mp q1)] at h; exact h)
end
section
/-! contracts: interest (written by wip/whole/gc4.py) -/
set_option maxRecDepth 20000 in
theorem c_credit {J : mJ} (X : mRules J) {I A : mI} {B : mB} {w f : Nat} {R : mR} {xd : Int32} {d nt : Nat} {b : Int64} (ex : xd = nI d) (hd : d < 320) (hnt : nt ≤ 4) (hI : I 17 4 = nI nt) (h : R (some (.long (crd A d b nt 0 0 0))) I A B (pk w f)) : J n_Terms_credit 0 [.ref 17, .int xd, .long b, .float 0, .float 0, .float 0, .float 0, .float 0, .float 0, .float 0, .float 0] [] I A B (pk w f) R := by
  subst ex
  have G : ∀ k i, i + k = nt → ∀ (s z : Int64) (x : Int32) (v : Value), x = nI i → R (some (.long (crd A d b k i s z))) I A B (pk w f) → J n_Terms_credit 22 [.ref 17, .int (nI d), .long b, .float 0, .long s, .float 0, .long z, .float 0, .int x, v, .float 0] [] I A B (pk w f) R := by
    refine lpk (fun i k => ∀ (s z : Int64) (x : Int32) (v : Value), x = nI i → R (some (.long (crd A d b k i s z))) I A B (pk w f) → J n_Terms_credit 22 [.ref 17, .int (nI d), .long b, .float 0, .long s, .float 0, .long z, .float 0, .int x, v, .float 0] [] I A B (pk w f) R) (fun i k hk ih => ?_)
    intro s z x v ex h
    subst ex
    refine X 200 _ _ _ _ _ _ _ _ _ ?_
    refine And.intro (fun q1 => ?_) (fun q1 => ?_)
    · rw [hI] at q1
      have e : k = 0 := by have := lpx (by omega) (by omega) q1; omega
      subst e
      exact h
    · rw [hI] at q1
      have hl : i < nt := lpc (by omega) (by omega) q1
      obtain ⟨k, rfl⟩ : ∃ k0, k = k0 + 1 := ⟨k - 1, by omega⟩
      have hb31 : i < 2 ^ 31 := by omega
      have hd31 : d < 2 ^ 31 := by omega
      refine And.intro (fun q2 => ?_) (fun q2 => ?_)
      · rw [crd, if_neg (Int64.not_lt.mpr q2)] at h
        exact h
      · rw [crd, if_pos (Int64.not_le.mp q2)] at h
        refine Exists.intro _ (And.intro rfl (And.intro (vin (by omega) (by omega)) ?_))
        refine And.intro (fun q3 => ?_) (fun q3 => ?_)
        · refine Exists.intro _ (Exists.intro _ (Exists.intro _ (And.intro rfl (And.intro (vin (by omega) (by omega)) ?_))))
          refine Exists.intro _ (And.intro (rul_sh (by omega)) (And.intro (vin (by omega) (by omega)) ?_))
          simp only [cl hb31] at q3
          have e : tpc A i b = b := by simp [tpc, q3]
          rw [e] at h
          exact ih k rfl _ _ _ _ (nI_1 i) (by simp only [cl hb31, cl hd31, Nat.one_mul]; exact h)
        · refine Exists.intro _ (And.intro rfl (And.intro (vin (by omega) (by omega)) ?_))
          refine And.intro (fun q4 => ?_) (fun q4 => ?_)
          · refine Exists.intro _ (And.intro rfl (And.intro (vin (by omega) (by omega)) ?_))
            refine Exists.intro _ (Exists.intro _ (Exists.intro _ (And.intro rfl (And.intro (vin (by omega) (by omega)) ?_))))
            refine Exists.intro _ (And.intro (rul_sh (by omega)) (And.intro (vin (by omega) (by omega)) ?_))
            simp only [cl hb31] at q3
            simp only [cl hb31] at q4
            have e : tpc A i b = (A 26 i).toInt64 := by simp only [tpc, if_neg q3, if_neg (Int64.not_lt.mpr q4)]
            rw [e] at h
            exact ih k rfl _ _ _ _ (nI_1 i) (by simp only [cl hb31, cl hd31, Nat.one_mul]; exact h)
          · refine Exists.intro _ (Exists.intro _ (Exists.intro _ (And.intro rfl (And.intro (vin (by omega) (by omega)) ?_))))
            refine Exists.intro _ (And.intro (rul_sh (by omega)) (And.intro (vin (by omega) (by omega)) ?_))
            simp only [cl hb31] at q3
            simp only [cl hb31] at q4
            have e : tpc A i b = b := by simp only [tpc, if_neg q3, if_pos (Int64.not_le.mp q4)]
            rw [e] at h
            exact ih k rfl _ _ _ _ (nI_1 i) (by simp only [cl hb31, cl hd31, Nat.one_mul]; exact h)
  refine X 200 _ _ _ _ _ _ _ _ _ ?_
  refine And.intro (fun q1 => ?_) (fun q1 => ?_)
  · exact absurd q1 (nI_pos (by omega)) --end
  · refine And.intro (fun q2 => ?_) (fun q2 => ?_)
    · exact G nt 0 (by omega) _ _ _ _ rfl h
    · exact absurd (nI_lt (b := 320) (by omega) (by omega)) q2 --end
/-- a day's product by a balance -/
def prd (A : mI) (nt d : Nat) (b : Int64) : Int64 := crd A d b nt 0 0 0 - dbt A (A 25 d) d b
/-- a period's products by a row of balances that are so much more from a day on -/
def pds (A : mI) (B : mB) (nt q P p : Nat) (fr : Int32) (mo : Int64) : Int64 := sm (fun j => prd A nt (p * P + j) (if fr ≤ nI (p * P + j) then B q (p * P + j) + mo else B q (p * P + j))) P
/-- a row of balances, so much more from a place on, n places -/
def shf (B : mB) (q lo : Nat) (a : Int64) (n : Nat) : mB := fun k j => if k = q ∧ lo ≤ j ∧ j < lo + n then B k j + a else B k j
theorem shf_0 {B : mB} {q lo : Nat} {a : Int64} : shf B q lo a 0 = B := by
  funext k j
  simp only [shf]
  rw [if_neg (by omega)]
theorem shf_1 {B : mB} {q lo n : Nat} {a : Int64} : up2 (shf B q lo a n) q (lo + n) (shf B q lo a n q (lo + n) + a) = shf B q lo a (n + 1) := by
  funext k j
  simp only [shf, up2]
  by_cases hk : k = q
  · subst hk
    by_cases hj : j = lo + n
    · subst hj
      rw [if_pos ⟨rfl, rfl⟩, if_neg (by omega), if_pos (by omega)]
    · rw [if_neg (fun z => hj z.2)]
      by_cases h : lo ≤ j ∧ j < lo + n
      · rw [if_pos ⟨rfl, h.1, h.2⟩, if_pos ⟨rfl, h.1, by omega⟩]
      · rw [if_neg (fun z => h z.2), if_neg (by omega)]
  · rw [if_neg (fun z => hk z.1), if_neg (fun z => hk z.1), if_neg (fun z => hk z.1)]
set_option maxRecDepth 20000 in
theorem c_productsOf36 {J : mJ} (X : mRules J) {I A : mI} {B : mB} {w f : Nat} {R : mR} {nt P : Nat} (hnt : nt ≤ 4) (hI : I 17 4 = nI nt) (hP : I 16 4 = nI P) {xp fr : Int32} {p : Nat} {mo : Int64} (ex : xp = nI p) (hp : p * P + P ≤ 320) (h : R (some (.long (pds A B nt 36 P p fr mo))) I A B (pk w f)) : J n_Ledger_productsOf 0 [.ref 16, .ref 36, .int xp, .int fr, .long mo, .float 0, .float 0, .float 0, .float 0, .float 0, .float 0, .float 0] [] I A B (pk w f) R := by
  subst ex
  have G : ∀ i, i ≤ P → ∀ (s : Int64) (x bh : Int32) (v : Value), s = sm (fun j => prd A nt (p * P + j) (if fr ≤ nI (p * P + j) then B 36 (p * P + j) + mo else B 36 (p * P + j))) i → x = nI (p * P + i) → bh = nI (p * P + P) → J n_Ledger_productsOf 31 [.ref 16, .ref 36, .int (nI p), .int fr, .long mo, .float 0, .long s, .float 0, .int bh, .int x, v, .float 0] [] I A B (pk w f) R := by
    refine lpz (fun i => ∀ (s : Int64) (x bh : Int32) (v : Value), s = sm (fun j => prd A nt (p * P + j) (if fr ≤ nI (p * P + j) then B 36 (p * P + j) + mo else B 36 (p * P + j))) i → x = nI (p * P + i) → bh = nI (p * P + P) → J n_Ledger_productsOf 31 [.ref 16, .ref 36, .int (nI p), .int fr, .long mo, .float 0, .long s, .float 0, .int bh, .int x, v, .float 0] [] I A B (pk w f) R) (fun i hi ih => ?_)
    intro s x bh v es ex eb
    subst es; subst ex; subst eb
    refine X 200 _ _ _ _ _ _ _ _ _ ?_
    refine And.intro (fun q1 => ?_) (fun q1 => ?_)
    · have e := lpxo hi (by omega) q1
      subst e
      exact h
    · have hl := lpco hi (by omega) q1
      have hb31 : p * P + i < 2 ^ 31 := by omega
      refine And.intro (fun q2 => ?_) (fun q2 => ?_)
      · refine Exists.intro _ (And.intro rfl (And.intro (vin (by omega) (by omega)) ?_))
        refine c_credit X (d := p * P + i) rfl (by omega) hnt hI ?_
        refine And.intro (fun q3 => ?_) (fun q3 => ?_)
        · exact absurd q3 (nI_pos (by omega)) --end
        · refine And.intro (fun q4 => ?_) (fun q4 => ?_)
          · refine Exists.intro _ (Exists.intro _ (Exists.intro _ (And.intro rfl (And.intro (vlit rfl) ?_))))
            refine Exists.intro _ (And.intro rfl (And.intro (vin (by omega) (by omega)) ?_))
            refine c_debtBy X (d := p * P + i) rfl (by omega) ?_
            refine ih hl _ _ _ _ ?_ (nI_1 _) rfl
            simp only [sm, prd, if_pos q2, cl hb31]
            rfl
          · exact absurd (nI_lt (b := 320) (by omega) (by omega)) q4 --end
      · refine Exists.intro _ (And.intro rfl (And.intro (vin (by omega) (by omega)) ?_))
        refine c_credit X (d := p * P + i) rfl (by omega) hnt hI ?_
        refine And.intro (fun q5 => ?_) (fun q5 => ?_)
        · exact absurd q5 (nI_pos (by omega)) --end
        · refine And.intro (fun q6 => ?_) (fun q6 => ?_)
          · refine Exists.intro _ (Exists.intro _ (Exists.intro _ (And.intro rfl (And.intro (vlit rfl) ?_))))
            refine Exists.intro _ (And.intro rfl (And.intro (vin (by omega) (by omega)) ?_))
            refine c_debtBy X (d := p * P + i) rfl (by omega) ?_
            refine ih hl _ _ _ _ ?_ (nI_1 _) rfl
            simp only [sm, prd, if_neg q2, cl hb31]
            rfl
          · exact absurd (nI_lt (b := 320) (by omega) (by omega)) q6 --end
  refine X 200 _ _ _ _ _ _ _ _ _ ?_
  refine Exists.intro _ (Exists.intro _ (And.intro rfl ?_))
  refine G 0 (Nat.zero_le _) _ _ _ _ rfl ?_ ?_
  · rw [hP, pk_mul, nmax (by omega)]; rfl
  · rw [hP, pk_mul, nI_add]; exact nmin hp
set_option maxRecDepth 20000 in
theorem c_productsOf37 {J : mJ} (X : mRules J) {I A : mI} {B : mB} {w f : Nat} {R : mR} {nt P : Nat} (hnt : nt ≤ 4) (hI : I 17 4 = nI nt) (hP : I 16 4 = nI P) {xp fr : Int32} {p : Nat} {mo : Int64} (ex : xp = nI p) (hp : p * P + P ≤ 320) (h : R (some (.long (pds A B nt 37 P p fr mo))) I A B (pk w f)) : J n_Ledger_productsOf 0 [.ref 16, .ref 37, .int xp, .int fr, .long mo, .float 0, .float 0, .float 0, .float 0, .float 0, .float 0, .float 0] [] I A B (pk w f) R := by
  subst ex
  have G : ∀ i, i ≤ P → ∀ (s : Int64) (x bh : Int32) (v : Value), s = sm (fun j => prd A nt (p * P + j) (if fr ≤ nI (p * P + j) then B 37 (p * P + j) + mo else B 37 (p * P + j))) i → x = nI (p * P + i) → bh = nI (p * P + P) → J n_Ledger_productsOf 31 [.ref 16, .ref 37, .int (nI p), .int fr, .long mo, .float 0, .long s, .float 0, .int bh, .int x, v, .float 0] [] I A B (pk w f) R := by
    refine lpz (fun i => ∀ (s : Int64) (x bh : Int32) (v : Value), s = sm (fun j => prd A nt (p * P + j) (if fr ≤ nI (p * P + j) then B 37 (p * P + j) + mo else B 37 (p * P + j))) i → x = nI (p * P + i) → bh = nI (p * P + P) → J n_Ledger_productsOf 31 [.ref 16, .ref 37, .int (nI p), .int fr, .long mo, .float 0, .long s, .float 0, .int bh, .int x, v, .float 0] [] I A B (pk w f) R) (fun i hi ih => ?_)
    intro s x bh v es ex eb
    subst es; subst ex; subst eb
    refine X 200 _ _ _ _ _ _ _ _ _ ?_
    refine And.intro (fun q1 => ?_) (fun q1 => ?_)
    · have e := lpxo hi (by omega) q1
      subst e
      exact h
    · have hl := lpco hi (by omega) q1
      have hb31 : p * P + i < 2 ^ 31 := by omega
      refine And.intro (fun q2 => ?_) (fun q2 => ?_)
      · refine Exists.intro _ (And.intro rfl (And.intro (vin (by omega) (by omega)) ?_))
        refine c_credit X (d := p * P + i) rfl (by omega) hnt hI ?_
        refine And.intro (fun q3 => ?_) (fun q3 => ?_)
        · exact absurd q3 (nI_pos (by omega)) --end
        · refine And.intro (fun q4 => ?_) (fun q4 => ?_)
          · refine Exists.intro _ (Exists.intro _ (Exists.intro _ (And.intro rfl (And.intro (vlit rfl) ?_))))
            refine Exists.intro _ (And.intro rfl (And.intro (vin (by omega) (by omega)) ?_))
            refine c_debtBy X (d := p * P + i) rfl (by omega) ?_
            refine ih hl _ _ _ _ ?_ (nI_1 _) rfl
            simp only [sm, prd, if_pos q2, cl hb31]
            rfl
          · exact absurd (nI_lt (b := 320) (by omega) (by omega)) q4 --end
      · refine Exists.intro _ (And.intro rfl (And.intro (vin (by omega) (by omega)) ?_))
        refine c_credit X (d := p * P + i) rfl (by omega) hnt hI ?_
        refine And.intro (fun q5 => ?_) (fun q5 => ?_)
        · exact absurd q5 (nI_pos (by omega)) --end
        · refine And.intro (fun q6 => ?_) (fun q6 => ?_)
          · refine Exists.intro _ (Exists.intro _ (Exists.intro _ (And.intro rfl (And.intro (vlit rfl) ?_))))
            refine Exists.intro _ (And.intro rfl (And.intro (vin (by omega) (by omega)) ?_))
            refine c_debtBy X (d := p * P + i) rfl (by omega) ?_
            refine ih hl _ _ _ _ ?_ (nI_1 _) rfl
            simp only [sm, prd, if_neg q2, cl hb31]
            rfl
          · exact absurd (nI_lt (b := 320) (by omega) (by omega)) q6 --end
  refine X 200 _ _ _ _ _ _ _ _ _ ?_
  refine Exists.intro _ (Exists.intro _ (And.intro rfl ?_))
  refine G 0 (Nat.zero_le _) _ _ _ _ rfl ?_ ?_
  · rw [hP, pk_mul, nmax (by omega)]; rfl
  · rw [hP, pk_mul, nI_add]; exact nmin hp
/-- the interest of all periods by a row -/
def alb (A : mI) (B : mB) (nt q P N : Nat) (fr : Int32) (mo : Int64) : Int64 := sm (fun p => nea (pds A B nt q P p fr mo)) N
set_option maxRecDepth 20000 in
theorem c_allBy36 {J : mJ} (X : mRules J) {I A : mI} {B : mB} {w f : Nat} {R : mR} {nt P : Nat} (hnt : nt ≤ 4) (hI : I 17 4 = nI nt) (hP : I 16 4 = nI P) {fr : Int32} {N : Nat} {mo : Int64} (hN : I 16 5 = nI N) (hb : N * P ≤ 320) (hN8 : N ≤ 320) (h : R (some (.long (alb A B nt 36 P N fr mo))) I A B (pk w f)) : J n_Ledger_interestOfAllBy 0 [.ref 16, .ref 36, .int fr, .long mo, .float 0, .float 0, .float 0, .float 0] [] I A B (pk w f) R := by
  have G : ∀ i, i ≤ N → ∀ (s : Int64) (x : Int32), s = sm (fun p => nea (pds A B nt 36 P p fr mo)) i → x = nI i → J n_Ledger_interestOfAllBy 6 [.ref 16, .ref 36, .int fr, .long mo, .float 0, .long s, .float 0, .int x] [] I A B (pk w f) R := by
    refine lpz (fun i => ∀ (s : Int64) (x : Int32), s = sm (fun p => nea (pds A B nt 36 P p fr mo)) i → x = nI i → J n_Ledger_interestOfAllBy 6 [.ref 16, .ref 36, .int fr, .long mo, .float 0, .long s, .float 0, .int x] [] I A B (pk w f) R) (fun i hi ih => ?_)
    intro s x es ex
    subst es; subst ex
    refine X 200 _ _ _ _ _ _ _ _ _ ?_
    refine And.intro (fun q1 => ?_) (fun q1 => ?_)
    · rw [hN] at q1
      have e := lpx hi (by omega) q1
      subst e
      exact h
    · rw [hN] at q1
      have hl := lpc hi (by omega) q1
      have hm : i * P + P ≤ 320 := by have := Nat.mul_le_mul_right P (show i + 1 ≤ N from hl); rw [Nat.add_mul, Nat.one_mul] at this; omega
      refine c_productsOf36 X hnt hI hP (p := i) rfl hm ?_
      refine c_nearest X ?_
      exact ih hl _ _ rfl (nI_1 i)
  refine X 200 _ _ _ _ _ _ _ _ _ ?_
  exact G 0 (Nat.zero_le _) _ _ rfl rfl
set_option maxRecDepth 20000 in
theorem c_allBy37 {J : mJ} (X : mRules J) {I A : mI} {B : mB} {w f : Nat} {R : mR} {nt P : Nat} (hnt : nt ≤ 4) (hI : I 17 4 = nI nt) (hP : I 16 4 = nI P) {fr : Int32} {N : Nat} {mo : Int64} (hN : I 16 5 = nI N) (hb : N * P ≤ 320) (hN8 : N ≤ 320) (h : R (some (.long (alb A B nt 37 P N fr mo))) I A B (pk w f)) : J n_Ledger_interestOfAllBy 0 [.ref 16, .ref 37, .int fr, .long mo, .float 0, .float 0, .float 0, .float 0] [] I A B (pk w f) R := by
  have G : ∀ i, i ≤ N → ∀ (s : Int64) (x : Int32), s = sm (fun p => nea (pds A B nt 37 P p fr mo)) i → x = nI i → J n_Ledger_interestOfAllBy 6 [.ref 16, .ref 37, .int fr, .long mo, .float 0, .long s, .float 0, .int x] [] I A B (pk w f) R := by
    refine lpz (fun i => ∀ (s : Int64) (x : Int32), s = sm (fun p => nea (pds A B nt 37 P p fr mo)) i → x = nI i → J n_Ledger_interestOfAllBy 6 [.ref 16, .ref 37, .int fr, .long mo, .float 0, .long s, .float 0, .int x] [] I A B (pk w f) R) (fun i hi ih => ?_)
    intro s x es ex
    subst es; subst ex
    refine X 200 _ _ _ _ _ _ _ _ _ ?_
    refine And.intro (fun q1 => ?_) (fun q1 => ?_)
    · rw [hN] at q1
      have e := lpx hi (by omega) q1
      subst e
      exact h
    · rw [hN] at q1
      have hl := lpc hi (by omega) q1
      have hm : i * P + P ≤ 320 := by have := Nat.mul_le_mul_right P (show i + 1 ≤ N from hl); rw [Nat.add_mul, Nat.one_mul] at this; omega
      refine c_productsOf37 X hnt hI hP (p := i) rfl hm ?_
      refine c_nearest X ?_
      exact ih hl _ _ rfl (nI_1 i)
  refine X 200 _ _ _ _ _ _ _ _ _ ?_
  exact G 0 (Nat.zero_le _) _ _ rfl rfl
set_option maxRecDepth 20000 in
theorem c_shift36 {J : mJ} (X : mRules J) {I A : mI} {B : mB} {w f : Nat} {R : mR} {xv : Int32} {v D : Nat} {a : Int64} (hD : I 16 4 * I 16 5 = nI D) (hb : D ≤ 320) (ex : xv = nI v) (hv : v < 2 ^ 20) (h : R none I A (shf B 36 v a (D - v)) (pk w f)) : J n_Ledger_shift 0 [.ref 16, .ref 36, .int xv, .long a, .float 0, .float 0, .float 0] [] I A B (pk w f) R := by
  subst ex
  have G : ∀ i, i ≤ D - v → ∀ (x bh : Int32) (Bv : mB), x = nI (v + i) → bh = nI D → Bv = shf B 36 v a i → J n_Ledger_shift 18 [.ref 16, .ref 36, .int (nI v), .long a, .float 0, .int bh, .int x] [] I A Bv (pk w f) R := by
    refine lpz (fun i => ∀ (x bh : Int32) (Bv : mB), x = nI (v + i) → bh = nI D → Bv = shf B 36 v a i → J n_Ledger_shift 18 [.ref 16, .ref 36, .int (nI v), .long a, .float 0, .int bh, .int x] [] I A Bv (pk w f) R) (fun i hi ih => ?_)
    intro x bh Bv ex eb eB
    subst ex; subst eb; subst eB
    refine X 200 _ _ _ _ _ _ _ _ _ ?_
    refine And.intro (fun q1 => ?_) (fun q1 => ?_)
    · have e : i = D - v := by have := (nI_leI (by omega) (by omega)).mp q1; omega
      subst e
      exact h
    · have hl : i < D - v := by
        rcases Nat.lt_or_ge i (D - v) with z | z
        · exact z
        · exact absurd (nI_le (show D ≤ v + i by omega) (by omega)) q1
      have hb31 : v + i < 2 ^ 31 := by omega
      refine Exists.intro _ (And.intro rfl (And.intro (vin (by omega) (by omega)) ?_))
      refine Exists.intro _ (And.intro rfl (And.intro (vin (by omega) (by omega)) ?_))
      exact ih hl _ _ _ (nI_1 _) rfl (by rw [cl hb31]; exact shf_1)
  refine X 200 _ _ _ _ _ _ _ _ _ ?_
  refine Exists.intro _ (Exists.intro _ (And.intro rfl ?_))
  refine G 0 (Nat.zero_le _) _ _ _ ?_ ?_ shf_0.symm
  · exact nmax (by omega)
  · rw [hD]; exact nmin hb
set_option maxRecDepth 20000 in
theorem c_shift37 {J : mJ} (X : mRules J) {I A : mI} {B : mB} {w f : Nat} {R : mR} {xv : Int32} {v D : Nat} {a : Int64} (hD : I 16 4 * I 16 5 = nI D) (hb : D ≤ 320) (ex : xv = nI v) (hv : v < 2 ^ 20) (h : R none I A (shf B 37 v a (D - v)) (pk w f)) : J n_Ledger_shift 0 [.ref 16, .ref 37, .int xv, .long a, .float 0, .float 0, .float 0] [] I A B (pk w f) R := by
  subst ex
  have G : ∀ i, i ≤ D - v → ∀ (x bh : Int32) (Bv : mB), x = nI (v + i) → bh = nI D → Bv = shf B 37 v a i → J n_Ledger_shift 18 [.ref 16, .ref 37, .int (nI v), .long a, .float 0, .int bh, .int x] [] I A Bv (pk w f) R := by
    refine lpz (fun i => ∀ (x bh : Int32) (Bv : mB), x = nI (v + i) → bh = nI D → Bv = shf B 37 v a i → J n_Ledger_shift 18 [.ref 16, .ref 37, .int (nI v), .long a, .float 0, .int bh, .int x] [] I A Bv (pk w f) R) (fun i hi ih => ?_)
    intro x bh Bv ex eb eB
    subst ex; subst eb; subst eB
    refine X 200 _ _ _ _ _ _ _ _ _ ?_
    refine And.intro (fun q1 => ?_) (fun q1 => ?_)
    · have e : i = D - v := by have := (nI_leI (by omega) (by omega)).mp q1; omega
      subst e
      exact h
    · have hl : i < D - v := by
        rcases Nat.lt_or_ge i (D - v) with z | z
        · exact z
        · exact absurd (nI_le (show D ≤ v + i by omega) (by omega)) q1
      have hb31 : v + i < 2 ^ 31 := by omega
      refine Exists.intro _ (And.intro rfl (And.intro (vin (by omega) (by omega)) ?_))
      refine Exists.intro _ (And.intro rfl (And.intro (vin (by omega) (by omega)) ?_))
      exact ih hl _ _ _ (nI_1 _) rfl (by rw [cl hb31]; exact shf_1)
  refine X 200 _ _ _ _ _ _ _ _ _ ?_
  refine Exists.intro _ (Exists.intro _ (And.intro rfl ?_))
  refine G 0 (Nat.zero_le _) _ _ _ ?_ ?_ shf_0.symm
  · exact nmax (by omega)
  · rw [hD]; exact nmin hb
end
section
/-! contracts: entries read, added (written by wip/whole/gc5.py) -/
set_option maxRecDepth 20000 in
theorem c_sortOf {J : mJ} (X : mRules J) {I A : mI} {B : mB} {w f : Nat} {R : mR} {n : Nat} (hn : n ≤ 220) (hz : I 29 6 = nI n) {x : Int32} {i : Nat} (ex : x = nI i) (hl : i < n) (h : R (some (.int (A 30 i))) I A B (pk w f)) : J n_Entries_sortOf 0 [.ref 29, .int x] [] I A B (pk w f) R := by
  subst ex
  refine X 200 _ _ _ _ _ _ _ _ _ ?_
  refine c_has X (by omega) hz (fun k hk e => ?_) (fun z => absurd rfl (z i hl))
  refine And.intro (fun q => absurd q (by decide)) (fun _ => ?_)
  refine Exists.intro _ (And.intro rfl (And.intro (vin (show i < 220 by omega) (by omega)) ?_))
  rw [cl (show i < 2 ^ 31 by omega)]
  exact h
set_option maxRecDepth 20000 in
theorem c_amountOf {J : mJ} (X : mRules J) {I A : mI} {B : mB} {w f : Nat} {R : mR} {n : Nat} (hn : n ≤ 220) (hz : I 29 6 = nI n) {x : Int32} {i : Nat} (ex : x = nI i) (hl : i < n) (h : R (some (.long (B 31 i))) I A B (pk w f)) : J n_Entries_amountOf 0 [.ref 29, .int x] [] I A B (pk w f) R := by
  subst ex
  refine X 200 _ _ _ _ _ _ _ _ _ ?_
  refine c_has X (by omega) hz (fun k hk e => ?_) (fun z => absurd rfl (z i hl))
  refine And.intro (fun q => absurd q (by decide)) (fun _ => ?_)
  refine Exists.intro _ (And.intro rfl (And.intro (vin (show i < 220 by omega) (by omega)) ?_))
  rw [cl (show i < 2 ^ 31 by omega)]
  exact h
set_option maxRecDepth 20000 in
theorem c_valueOf {J : mJ} (X : mRules J) {I A : mI} {B : mB} {w f : Nat} {R : mR} {n : Nat} (hn : n ≤ 220) (hz : I 29 6 = nI n) {x : Int32} {i : Nat} (ex : x = nI i) (hl : i < n) (h : R (some (.int (A 32 i))) I A B (pk w f)) : J n_Entries_valueOf 0 [.ref 29, .int x] [] I A B (pk w f) R := by
  subst ex
  refine X 200 _ _ _ _ _ _ _ _ _ ?_
  refine c_has X (by omega) hz (fun k hk e => ?_) (fun z => absurd rfl (z i hl))
  refine And.intro (fun q => absurd q (by decide)) (fun _ => ?_)
  refine Exists.intro _ (And.intro rfl (And.intro (vin (show i < 220 by omega) (by omega)) ?_))
  rw [cl (show i < 2 ^ 31 by omega)]
  exact h
set_option maxRecDepth 20000 in
theorem c_inOrder {J : mJ} (X : mRules J) {I A : mI} {B : mB} {w f : Nat} {R : mR} {n : Nat} (hn : n ≤ 220) (hz : I 29 6 = nI n) {x : Int32} {i : Nat} (ex : x = nI i) (hl : i < n) (h : R (some (.int (A 35 i))) I A B (pk w f)) : J n_Entries_inOrder 0 [.ref 29, .int x] [] I A B (pk w f) R := by
  subst ex
  refine X 200 _ _ _ _ _ _ _ _ _ ?_
  refine c_has X (by omega) hz (fun k hk e => ?_) (fun z => absurd rfl (z i hl))
  refine And.intro (fun q => absurd q (by decide)) (fun _ => ?_)
  refine Exists.intro _ (And.intro rfl (And.intro (vin (show i < 220 by omega) (by omega)) ?_))
  rw [cl (show i < 2 ^ 31 by omega)]
  exact h
theorem lpd (G : Nat → Prop) (h : ∀ a, (∀ a', a = a' + 1 → G a') → G a) : ∀ a, G a := by
  intro a
  induction a with
  | zero => exact h 0 (fun a' q => by omega)
  | succ a ih => exact h (a + 1) (fun a' q => by
      have e : a = a' := by omega
      subst e
      exact ih)
/-- a row opened between a and n -/
def opn (O : Nat → Int32) (a n : Nat) : Nat → Int32 := fun j => if a < j ∧ j ≤ n then O (j - 1) else O j
/-- n put in at p -/
def insr (O : Nat → Int32) (p n : Nat) : Nat → Int32 := fun j => if j = p then nI n else if p < j ∧ j ≤ n then O (j - 1) else O j
/-- the arrays with an entry more -/
def adA (A : mI) (n : Nat) (s v pg og : Int32) : mI := up2 (up2 (up2 (up2 A 30 n s) 32 n v) 33 n pg) 34 n og
theorem adA_35 {A : mI} {n : Nat} {s v pg og : Int32} : adA A n s v pg og 35 = A 35 := by
  funext j
  simp [adA, up2]
theorem adA_32 {A : mI} {n k : Nat} {s v pg og : Int32} (h : k ≠ n) : adA A n s v pg og 32 k = A 32 k := by
  simp [adA, up2, h]
theorem up1_id {α : Type} {F : Nat → Nat → α} {k : Nat} : up1 F k (F k) = F := by
  funext a c
  simp only [up1]
  split
  · rename_i h; rw [h]
  · rfl
theorem opn_n {O : Nat → Int32} {n : Nat} : opn O n n = O := by
  funext j
  simp only [opn]
  rw [if_neg (by omega)]
theorem opn_st {F : mI} {O : Nat → Int32} {a n : Nat} (h : a + 1 ≤ n) : up2 (up1 F 35 (opn O (a + 1) n)) 35 (a + 1) (O a) = up1 F 35 (opn O a n) := by
  funext k j
  simp only [up2, up1, opn]
  by_cases hk : k = 35
  · subst hk
    simp only [if_true, true_and]
    by_cases hj : j = a + 1
    · subst hj
      rw [if_pos rfl, if_pos ⟨by omega, h⟩, Nat.add_sub_cancel]
    · rw [if_neg hj]
      by_cases h2 : a + 1 < j ∧ j ≤ n
      · rw [if_pos h2, if_pos ⟨by omega, h2.2⟩]
      · rw [if_neg h2, if_neg (by omega)]
  · rw [if_neg (fun z => hk z.1), if_neg hk, if_neg hk]
theorem opn_in {F : mI} {O : Nat → Int32} {a n : Nat} : up2 (up1 F 35 (opn O a n)) 35 a (nI n) = up1 F 35 (insr O a n) := by
  funext k j
  simp only [up2, up1, opn, insr]
  by_cases hk : k = 35
  · subst hk
    simp only [if_true, true_and]
  · rw [if_neg (fun z => hk z.1), if_neg hk, if_neg hk]
set_option maxRecDepth 20000 in
theorem c_add {J : mJ} (X : mRules J) {I A : mI} {B : mB} {w f : Nat} {R : mR} {n : Nat} (hn : n < 220) (hz : I 29 6 = nI n) {s v pg og : Int32} {am : Int64} {od : Nat → Nat} (hod : ∀ j, j < n → od j < n ∧ A 35 j = nI (od j)) (h : ∀ p, p ≤ n → (∀ j, p ≤ j → j < n → v < A 32 (od j)) → (p = 0 ∨ A 32 (od (p - 1)) ≤ v) → R none (up2 I 29 6 (nI (n + 1))) (up1 (adA A n s v pg og) 35 (insr (A 35) p n)) (up2 B 31 n am) (pk w f)) : J n_Entries_add 0 [.ref 29, .int s, .long am, .float 0, .int v, .int pg, .int og, .float 0] [] I A B (pk w f) R := by
  have G : ∀ a, ∀ (x : Int32) (Av : mI), x = nI a → Av = up1 (adA A n s v pg og) 35 (opn (A 35) a n) → (∀ j, a ≤ j → j < n → v < A 32 (od j)) → a ≤ n → J n_Entries_add 70 [.ref 29, .int s, .long am, .float 0, .int v, .int pg, .int og, .int x] [] I Av (up2 B 31 n am) (pk w f) R := by
    refine lpd (fun a => ∀ (x : Int32) (Av : mI), x = nI a → Av = up1 (adA A n s v pg og) 35 (opn (A 35) a n) → (∀ j, a ≤ j → j < n → v < A 32 (od j)) → a ≤ n → J n_Entries_add 70 [.ref 29, .int s, .long am, .float 0, .int v, .int pg, .int og, .int x] [] I Av (up2 B 31 n am) (pk w f) R) (fun a ih => ?_)
    intro x Av ex eA hg ha
    subst ex; subst eA
    refine X 200 _ _ _ _ _ _ _ _ _ ?_
    refine And.intro (fun q1 => ?_) (fun q1 => ?_)
    · have e : a = 0 := by
        have := (nI_leI (b := 0) (by omega) (by omega)).mp q1
        omega
      subst e
      refine Exists.intro _ (And.intro rfl (And.intro (by first | (rw [hr]; exact vin (by omega) (by omega)) | (rw [nI_pred]; exact vin (by omega) (by omega)) | (rw [hz]; exact vin (by omega) (by omega)) | exact vin (by omega) (by omega)) ?_))
      rw [hz, cl (by omega), opn_in]
      show R none (up2 I 29 6 (I 29 6 + 1)) _ _ _
      rw [hz, nI_1]
      exact h 0 (Nat.zero_le _) hg (Or.inl rfl)
    · have e : a ≠ 0 := fun z => q1 (by rw [z]; decide)
      obtain ⟨a, rfl⟩ : ∃ c, a = c + 1 := ⟨a - 1, by omega⟩
      have ho := hod a (by omega)
      have hr : (up1 (adA A n s v pg og) 35 (opn (A 35) (a + 1) n)) 35 (nI (a + 1) - 1).toNatClampNeg = nI (od a) := by
        rw [nI_pred, cl (by omega), up1_self]
        simp only [opn]
        rw [if_neg (by omega)]
        exact ho.2
      have hv : (up1 (adA A n s v pg og) 35 (opn (A 35) (a + 1) n)) 32 ((up1 (adA A n s v pg og) 35 (opn (A 35) (a + 1) n)) 35 (nI (a + 1) - 1).toNatClampNeg).toNatClampNeg = A 32 (od a) := by
        rw [hr, cl (by omega), up1_row (by decide), adA_32 (by omega)]
      refine Exists.intro _ (And.intro rfl (And.intro (by first | (rw [hr]; exact vin (by omega) (by omega)) | (rw [nI_pred]; exact vin (by omega) (by omega)) | (rw [hz]; exact vin (by omega) (by omega)) | exact vin (by omega) (by omega)) ?_))
      refine Exists.intro _ (And.intro rfl (And.intro (by first | (rw [hr]; exact vin (by omega) (by omega)) | (rw [nI_pred]; exact vin (by omega) (by omega)) | (rw [hz]; exact vin (by omega) (by omega)) | exact vin (by omega) (by omega)) ?_))
      refine And.intro (fun q2 => ?_) (fun q2 => ?_)
      · refine Exists.intro _ (And.intro rfl (And.intro (by first | (rw [hr]; exact vin (by omega) (by omega)) | (rw [nI_pred]; exact vin (by omega) (by omega)) | (rw [hz]; exact vin (by omega) (by omega)) | exact vin (by omega) (by omega)) ?_))
        rw [hv] at q2
        rw [hz, cl (by omega), opn_in]
        show R none (up2 I 29 6 (I 29 6 + 1)) _ _ _
        rw [hz, nI_1]
        exact h (a + 1) ha hg (Or.inr q2)
      · refine Exists.intro _ (And.intro rfl (And.intro (by first | (rw [hr]; exact vin (by omega) (by omega)) | (rw [nI_pred]; exact vin (by omega) (by omega)) | (rw [hz]; exact vin (by omega) (by omega)) | exact vin (by omega) (by omega)) ?_))
        refine Exists.intro _ (And.intro rfl (And.intro (by first | (rw [hr]; exact vin (by omega) (by omega)) | (rw [nI_pred]; exact vin (by omega) (by omega)) | (rw [hz]; exact vin (by omega) (by omega)) | exact vin (by omega) (by omega)) ?_))
        rw [hv] at q2
        refine ih a rfl _ _ ?_ ?_ ?_ (by omega)
        · exact pk_m1 a
        · rw [cl (show a + 1 < 2 ^ 31 by omega), hr, ← ho.2]
          exact opn_st ha
        · intro j h1 h2
          by_cases e3 : j = a
          · rw [e3]
            exact Int32.not_le.mp q2
          · exact hg j (by omega) h2
  refine X 200 _ _ _ _ _ _ _ _ _ ?_
  refine And.intro (fun q1 => ?_) (fun q1 => ?_)
  · refine Exists.intro _ (And.intro rfl (And.intro (by rw [hz]; exact vin (by omega) (by omega)) ?_))
    refine Exists.intro _ (And.intro rfl (And.intro (by rw [hz]; exact vin (by omega) (by omega)) ?_))
    refine Exists.intro _ (And.intro rfl (And.intro (by rw [hz]; exact vin (by omega) (by omega)) ?_))
    refine Exists.intro _ (And.intro rfl (And.intro (by rw [hz]; exact vin (by omega) (by omega)) ?_))
    refine Exists.intro _ (And.intro rfl (And.intro (by rw [hz]; exact vin (by omega) (by omega)) ?_))
    rw [hz, cl (by omega)]
    refine G n _ _ hz ?_ (fun j h1 h2 => by omega) (Nat.le_refl _)
    rw [opn_n, ← adA_35 (A := A) (n := n) (s := s) (v := v) (pg := pg) (og := og), up1_id]
    rfl
  · exact absurd (by rw [hz]; exact nI_lt (b := 220) hn (by omega)) q1 --end
end
section
/-! contracts: the course of the balance (written by wip/whole/gc6.py) -/
set_option maxRecDepth 20000 in
theorem c_creditOf {J : mJ} (X : mRules J) {I A : mI} {B : mB} {w f : Nat} {R : mR} {nt : Nat} (hnt : nt ≤ 4) (hI : I 17 4 = nI nt) {P p : Nat} (hP : I 16 4 = nI P) {xp : Int32} (exp : xp = nI p) (hp : p * P + P ≤ 320) (h : R (some (.long (sm (fun j => crd A (p * P + j) (B 36 (p * P + j)) nt 0 0 0) P))) I A B (pk w f)) : J n_Course_creditOf 0 [.ref 38, .int xp, .float 0, .float 0, .float 0, .float 0] [] I A B (pk w f) R := by
  subst exp
  have G : ∀ i, i ≤ P → ∀ (s : Int64) (fi : Int32) (x : Int32), s = sm (fun j => crd A (p * P + j) (B 36 (p * P + j)) nt 0 0 0) i → fi = nI (p * P) → x = nI (p * P + i) → J n_Course_creditOf 16 [.ref 38, .int (nI p), .long s, .float 0, .int fi, .int x] [] I A B (pk w f) R := by
    refine lpz (fun i => ∀ (s : Int64) (fi : Int32) (x : Int32), s = sm (fun j => crd A (p * P + j) (B 36 (p * P + j)) nt 0 0 0) i → fi = nI (p * P) → x = nI (p * P + i) → J n_Course_creditOf 16 [.ref 38, .int (nI p), .long s, .float 0, .int fi, .int x] [] I A B (pk w f) R) (fun i hi ih => ?_)
    intro s fi x es efi ex
    subst es; subst efi; subst ex
    refine X 200 _ _ _ _ _ _ _ _ _ ?_
    refine And.intro (fun q1 => ?_) (fun q1 => ?_)
    · rw [hP, nI_add] at q1
      have e := lpxo hi (by omega) q1
      subst e
      exact h
    · rw [hP, nI_add] at q1
      have hl := lpco hi (by omega) q1
      have hb31 : p * P + i < 2 ^ 31 := by omega
      refine c_standing X (d := p * P + i) rfl (by omega) ?_
      refine c_credit X (d := p * P + i) rfl (by omega) hnt hI ?_
      exact ih hl _ _ _ (by simp only [sm, cl hb31] <;> rfl) rfl (nI_1 _)
  refine X 200 _ _ _ _ _ _ _ _ _ ?_
  exact G 0 (Nat.zero_le _) _ _ _ rfl (by rw [hP, pk_mul]) (by rw [hP, pk_mul]; rfl)
set_option maxRecDepth 20000 in
theorem c_debtOf {J : mJ} (X : mRules J) {I A : mI} {B : mB} {w f : Nat} {R : mR} {P p : Nat} (hP : I 16 4 = nI P) {xp : Int32} (exp : xp = nI p) (hp : p * P + P ≤ 320) (h : R (some (.long (sm (fun j => dbt A (A 25 (p * P + j)) (p * P + j) (B 36 (p * P + j))) P))) I A B (pk w f)) : J n_Course_debtOf 0 [.ref 38, .int xp, .float 0, .float 0, .float 0, .float 0] [] I A B (pk w f) R := by
  subst exp
  have G : ∀ i, i ≤ P → ∀ (s : Int64) (fi : Int32) (x : Int32), s = sm (fun j => dbt A (A 25 (p * P + j)) (p * P + j) (B 36 (p * P + j))) i → fi = nI (p * P) → x = nI (p * P + i) → J n_Course_debtOf 16 [.ref 38, .int (nI p), .long s, .float 0, .int fi, .int x] [] I A B (pk w f) R := by
    refine lpz (fun i => ∀ (s : Int64) (fi : Int32) (x : Int32), s = sm (fun j => dbt A (A 25 (p * P + j)) (p * P + j) (B 36 (p * P + j))) i → fi = nI (p * P) → x = nI (p * P + i) → J n_Course_debtOf 16 [.ref 38, .int (nI p), .long s, .float 0, .int fi, .int x] [] I A B (pk w f) R) (fun i hi ih => ?_)
    intro s fi x es efi ex
    subst es; subst efi; subst ex
    refine X 200 _ _ _ _ _ _ _ _ _ ?_
    refine And.intro (fun q1 => ?_) (fun q1 => ?_)
    · rw [hP, nI_add] at q1
      have e := lpxo hi (by omega) q1
      subst e
      exact h
    · rw [hP, nI_add] at q1
      have hl := lpco hi (by omega) q1
      have hb31 : p * P + i < 2 ^ 31 := by omega
      refine c_standing X (d := p * P + i) rfl (by omega) ?_
      refine And.intro (fun q2 => ?_) (fun q2 => ?_)
      · exact absurd q2 (nI_pos (by omega)) --end
      · refine And.intro (fun q3 => ?_) (fun q3 => ?_)
        · refine Exists.intro _ (Exists.intro _ (Exists.intro _ (And.intro rfl (And.intro (vlit rfl) ?_))))
          refine Exists.intro _ (And.intro rfl (And.intro (vin (by omega) (by omega)) ?_))
          refine c_debtBy X (d := p * P + i) rfl (by omega) ?_
          exact ih hl _ _ _ (by simp only [sm, cl hb31] <;> rfl) rfl (nI_1 _)
        · exact absurd (nI_lt (b := 320) (by omega) (by omega)) q3 --end
  refine X 200 _ _ _ _ _ _ _ _ _ ?_
  exact G 0 (Nat.zero_le _) _ _ _ rfl (by rw [hP, pk_mul]) (by rw [hP, pk_mul]; rfl)
set_option maxRecDepth 20000 in
theorem c_creditOfTier {J : mJ} (X : mRules J) {I A : mI} {B : mB} {w f : Nat} {R : mR} {P p : Nat} (hP : I 16 4 = nI P) {xp : Int32} (exp : xp = nI p) (hp : p * P + P ≤ 320) {t : Nat} (ht : t < 4) (h : R (some (.long (sm (fun j => ptO A t (B 36 (p * P + j)) * (A (19 + t) (p * P + j)).toInt64) P))) I A B (pk w f)) : J n_Course_creditOfTier 0 [.ref 38, .int xp, .int (nI t), .float 0, .float 0, .float 0, .float 0] [] I A B (pk w f) R := by
  subst exp
  have G : ∀ i, i ≤ P → ∀ (s : Int64) (fi : Int32) (x : Int32), s = sm (fun j => ptO A t (B 36 (p * P + j)) * (A (19 + t) (p * P + j)).toInt64) i → fi = nI (p * P) → x = nI (p * P + i) → J n_Course_creditOfTier 16 [.ref 38, .int (nI p), .int (nI t), .long s, .float 0, .int fi, .int x] [] I A B (pk w f) R := by
    refine lpz (fun i => ∀ (s : Int64) (fi : Int32) (x : Int32), s = sm (fun j => ptO A t (B 36 (p * P + j)) * (A (19 + t) (p * P + j)).toInt64) i → fi = nI (p * P) → x = nI (p * P + i) → J n_Course_creditOfTier 16 [.ref 38, .int (nI p), .int (nI t), .long s, .float 0, .int fi, .int x] [] I A B (pk w f) R) (fun i hi ih => ?_)
    intro s fi x es efi ex
    subst es; subst efi; subst ex
    refine X 200 _ _ _ _ _ _ _ _ _ ?_
    refine And.intro (fun q1 => ?_) (fun q1 => ?_)
    · rw [hP, nI_add] at q1
      have e := lpxo hi (by omega) q1
      subst e
      exact h
    · rw [hP, nI_add] at q1
      have hl := lpco hi (by omega) q1
      have hb31 : p * P + i < 2 ^ 31 := by omega
      refine c_standing X (d := p * P + i) rfl (by omega) ?_
      refine c_partOf X (t := t) rfl ht ?_
      refine c_rule X (r := t) (d := p * P + i) rfl rfl (by omega) (by omega) ?_
      exact ih hl _ _ _ (by simp only [sm, cl hb31] <;> rfl) rfl (nI_1 _)
  refine X 200 _ _ _ _ _ _ _ _ _ ?_
  exact G 0 (Nat.zero_le _) _ _ _ rfl (by rw [hP, pk_mul]) (by rw [hP, pk_mul]; rfl)
set_option maxRecDepth 20000 in
theorem c_standingsOf {J : mJ} (X : mRules J) {I A : mI} {B : mB} {w f : Nat} {R : mR} {P p : Nat} (hP : I 16 4 = nI P) {xp : Int32} (exp : xp = nI p) (hp : p * P + P ≤ 320) (h : R (some (.long (sm (fun j => B 36 (p * P + j)) P))) I A B (pk w f)) : J n_Course_standingsOf 0 [.ref 38, .int xp, .float 0, .float 0, .float 0, .float 0] [] I A B (pk w f) R := by
  subst exp
  have G : ∀ i, i ≤ P → ∀ (s : Int64) (fi : Int32) (x : Int32), s = sm (fun j => B 36 (p * P + j)) i → fi = nI (p * P) → x = nI (p * P + i) → J n_Course_standingsOf 16 [.ref 38, .int (nI p), .long s, .float 0, .int fi, .int x] [] I A B (pk w f) R := by
    refine lpz (fun i => ∀ (s : Int64) (fi : Int32) (x : Int32), s = sm (fun j => B 36 (p * P + j)) i → fi = nI (p * P) → x = nI (p * P + i) → J n_Course_standingsOf 16 [.ref 38, .int (nI p), .long s, .float 0, .int fi, .int x] [] I A B (pk w f) R) (fun i hi ih => ?_)
    intro s fi x es efi ex
    subst es; subst efi; subst ex
    refine X 200 _ _ _ _ _ _ _ _ _ ?_
    refine And.intro (fun q1 => ?_) (fun q1 => ?_)
    · rw [hP, nI_add] at q1
      have e := lpxo hi (by omega) q1
      subst e
      exact h
    · rw [hP, nI_add] at q1
      have hl := lpco hi (by omega) q1
      have hb31 : p * P + i < 2 ^ 31 := by omega
      refine c_standing X (d := p * P + i) rfl (by omega) ?_
      exact ih hl _ _ _ (by simp only [sm, cl hb31] <;> rfl) rfl (nI_1 _)
  refine X 200 _ _ _ _ _ _ _ _ _ ?_
  exact G 0 (Nat.zero_le _) _ _ _ rfl (by rw [hP, pk_mul]) (by rw [hP, pk_mul]; rfl)
/-- what is left to the limit on a day -/
def rmd (A : mI) (B : mB) (d : Nat) : Int64 := B 36 d + (A 25 d).toInt64
def mnu (g : Nat → Int64) (a : Nat) : Nat → Int64
  | 0 => g a
  | n + 1 => if g (a + n + 1) < mnu g a n then g (a + n + 1) else mnu g a n
set_option maxRecDepth 20000 in
theorem c_daysBeyond {J : mJ} (X : mRules J) {I A : mI} {B : mB} {w f : Nat} {R : mR} {D : Nat} (hD : I 16 4 * I 16 5 = nI D) (hb : D ≤ 320) (h : R (some (.int (nI (ct (fun j => decide (rmd A B j < 0)) D)))) I A B (pk w f)) : J n_Course_daysBeyond 0 [.ref 38, .float 0, .float 0] [] I A B (pk w f) R := by
  have G : ∀ i, i ≤ D → ∀ (s : Int32) (x : Int32), s = nI (ct (fun j => decide (rmd A B j < 0)) i) → x = nI i → J n_Course_daysBeyond 4 [.ref 38, .int s, .int x] [] I A B (pk w f) R := by
    refine lpz (fun i => ∀ (s : Int32) (x : Int32), s = nI (ct (fun j => decide (rmd A B j < 0)) i) → x = nI i → J n_Course_daysBeyond 4 [.ref 38, .int s, .int x] [] I A B (pk w f) R) (fun i hi ih => ?_)
    intro s x es ex
    subst es; subst ex
    refine X 200 _ _ _ _ _ _ _ _ _ ?_
    refine And.intro (fun q1 => ?_) (fun q1 => ?_)
    · rw [hD] at q1
      have e := lpx hi (by omega) q1
      subst e
      exact h
    · rw [hD] at q1
      have hl := lpc hi (by omega) q1
      have hb31 : i < 2 ^ 31 := by omega
      refine c_standing X (d := i) rfl (by omega) ?_
      refine c_rule X (r := 6) (d := i) rfl rfl (by omega) (by omega) ?_
      refine And.intro (fun q2 => ?_) (fun q2 => ?_)
      · have qq : ¬ rmd A B i < 0 := by
          simp only [rmd]
          first | exact Int64.not_lt.mpr q2 | exact Int64.not_le.mp q2
        exact ih hl _ _ (by simp [ct, nI_1, qq]) (nI_1 i)
      · have qq : rmd A B i < 0 := by
          simp only [rmd]
          first | exact Int64.not_lt.mpr q2 | exact Int64.not_le.mp q2
        exact ih hl _ _ (by simp [ct, nI_1, qq]) (nI_1 i)
  refine X 200 _ _ _ _ _ _ _ _ _ ?_
  exact G 0 (Nat.zero_le _) _ _ rfl rfl
set_option maxRecDepth 20000 in
theorem c_firstDayBeyond {J : mJ} (X : mRules J) {I A : mI} {B : mB} {w f : Nat} {R : mR} {D : Nat} (hD : I 16 4 * I 16 5 = nI D) (hb : D ≤ 320) (h : R (some (.int (fI (fd (fun j => decide (rmd A B j < 0)) D)))) I A B (pk w f)) : J n_Course_firstDayBeyond 0 [.ref 38, .float 0] [] I A B (pk w f) R := by
  have G : ∀ i, i ≤ D → ∀ (x : Int32), x = nI i → (∀ j, j < i → (fun j => decide (rmd A B j < 0)) j = false) → J n_Course_firstDayBeyond 2 [.ref 38, .int x] [] I A B (pk w f) R := by
    refine lpz (fun i => ∀ (x : Int32), x = nI i → (∀ j, j < i → (fun j => decide (rmd A B j < 0)) j = false) → J n_Course_firstDayBeyond 2 [.ref 38, .int x] [] I A B (pk w f) R) (fun i hi ih => ?_)
    intro x ex hno
    subst ex
    refine X 200 _ _ _ _ _ _ _ _ _ ?_
    refine And.intro (fun q1 => ?_) (fun q1 => ?_)
    · rw [hD] at q1
      have e := lpx hi (by omega) q1
      subst e
      rw [fd_no hno] at h
      exact h
    · rw [hD] at q1
      have hl := lpc hi (by omega) q1
      have hb31 : i < 2 ^ 31 := by omega
      refine c_standing X (d := i) rfl (by omega) ?_
      refine c_rule X (r := 6) (d := i) rfl rfl (by omega) (by omega) ?_
      refine And.intro (fun q2 => ?_) (fun q2 => ?_)
      · exact ih hl _ (nI_1 i) (all_lt hno (decide_eq_false (Int64.not_lt.mpr q2)))
      · rw [fd_at hl (decide_eq_true (Int64.not_le.mp q2)) hno] at h
        exact h
  refine X 200 _ _ _ _ _ _ _ _ _ ?_
  exact G 0 (Nat.zero_le _) _ rfl (fun j hj => absurd hj (Nat.not_lt_zero j))
set_option maxRecDepth 20000 in
theorem c_firstDayAt {J : mJ} (X : mRules J) {I A : mI} {B : mB} {w f : Nat} {R : mR} {D : Nat} (hD : I 16 4 * I 16 5 = nI D) (hb : D ≤ 320) {am : Int32} (h : R (some (.int (fI (fd (fun j => decide (am.toInt64 ≤ B 36 j)) D)))) I A B (pk w f)) : J n_Course_firstDayAt 0 [.ref 38, .int am, .float 0] [] I A B (pk w f) R := by
  have G : ∀ i, i ≤ D → ∀ (x : Int32), x = nI i → (∀ j, j < i → (fun j => decide (am.toInt64 ≤ B 36 j)) j = false) → J n_Course_firstDayAt 2 [.ref 38, .int am, .int x] [] I A B (pk w f) R := by
    refine lpz (fun i => ∀ (x : Int32), x = nI i → (∀ j, j < i → (fun j => decide (am.toInt64 ≤ B 36 j)) j = false) → J n_Course_firstDayAt 2 [.ref 38, .int am, .int x] [] I A B (pk w f) R) (fun i hi ih => ?_)
    intro x ex hno
    subst ex
    refine X 200 _ _ _ _ _ _ _ _ _ ?_
    refine And.intro (fun q1 => ?_) (fun q1 => ?_)
    · rw [hD] at q1
      have e := lpx hi (by omega) q1
      subst e
      rw [fd_no hno] at h
      exact h
    · rw [hD] at q1
      have hl := lpc hi (by omega) q1
      have hb31 : i < 2 ^ 31 := by omega
      refine c_standing X (d := i) rfl (by omega) ?_
      refine And.intro (fun q2 => ?_) (fun q2 => ?_)
      · exact ih hl _ (nI_1 i) (all_lt hno (decide_eq_false (Int64.not_le.mpr q2)))
      · rw [fd_at hl (decide_eq_true (Int64.not_lt.mp q2)) hno] at h
        exact h
  refine X 200 _ _ _ _ _ _ _ _ _ ?_
  exact G 0 (Nat.zero_le _) _ rfl (fun j hj => absurd hj (Nat.not_lt_zero j))
set_option maxRecDepth 20000 in
theorem c_leastStanding {J : mJ} (X : mRules J) {I A : mI} {B : mB} {w f : Nat} {R : mR} {D : Nat} (hD : I 16 4 * I 16 5 = nI D) (hb : D ≤ 320) (hD1 : 1 ≤ D) (h : R (some (.long (mnu (B 36) 0 (D - 1)))) I A B (pk w f)) : J n_Course_leastStanding 0 [.ref 38, .float 0, .float 0, .float 0] [] I A B (pk w f) R := by
  have G : ∀ i, i ≤ (D - 1) → ∀ (s : Int64) (x : Int32), s = mnu (B 36) 0 i → x = nI (1 + i) → J n_Course_leastStanding 11 [.ref 38, .long s, .float 0, .int x] [] I A B (pk w f) R := by
    refine lpz (fun i => ∀ (s : Int64) (x : Int32), s = mnu (B 36) 0 i → x = nI (1 + i) → J n_Course_leastStanding 11 [.ref 38, .long s, .float 0, .int x] [] I A B (pk w f) R) (fun i hi ih => ?_)
    intro s x es ex
    subst es; subst ex
    refine X 200 _ _ _ _ _ _ _ _ _ ?_
    refine And.intro (fun q1 => ?_) (fun q1 => ?_)
    · rw [hD, show D = 1 + (D - 1) by omega] at q1
      have e := lpxo hi (by omega) q1
      subst e
      exact h
    · rw [hD, show D = 1 + (D - 1) by omega] at q1
      have hl := lpco hi (by omega) q1
      have hb31 : 1 + i < 2 ^ 31 := by omega
      refine c_standing X (d := 1 + i) rfl (by omega) ?_
      exact ih hl _ _ (by simp only [mnu]; rw [show 0 + i + 1 = 1 + i by omega]) (nI_1 _)
  refine X 200 _ _ _ _ _ _ _ _ _ ?_
  refine c_standing X (d := 0) rfl (by omega) ?_
  exact G 0 (Nat.zero_le _) _ _ rfl rfl
set_option maxRecDepth 20000 in
theorem c_roomFrom {J : mJ} (X : mRules J) {I A : mI} {B : mB} {w f : Nat} {R : mR} {D : Nat} (hD : I 16 4 * I 16 5 = nI D) (hb : D ≤ 320) {a : Nat} (ha : a < D) (h : R (some (.long (mnu (rmd A B) a (D - 1 - a)))) I A B (pk w f)) : J n_Course_roomFrom 0 [.ref 38, .int (nI a), .float 0, .float 0, .float 0] [] I A B (pk w f) R := by
  have G : ∀ i, i ≤ (D - 1 - a) → ∀ (s : Int64) (x : Int32), s = mnu (rmd A B) a i → x = nI (a + 1 + i) → J n_Course_roomFrom 11 [.ref 38, .int (nI a), .long s, .float 0, .int x] [] I A B (pk w f) R := by
    refine lpz (fun i => ∀ (s : Int64) (x : Int32), s = mnu (rmd A B) a i → x = nI (a + 1 + i) → J n_Course_roomFrom 11 [.ref 38, .int (nI a), .long s, .float 0, .int x] [] I A B (pk w f) R) (fun i hi ih => ?_)
    intro s x es ex
    subst es; subst ex
    refine X 200 _ _ _ _ _ _ _ _ _ ?_
    refine And.intro (fun q1 => ?_) (fun q1 => ?_)
    · rw [hD, show D = a + 1 + (D - 1 - a) by omega] at q1
      have e := lpxo hi (by omega) q1
      subst e
      exact h
    · rw [hD, show D = a + 1 + (D - 1 - a) by omega] at q1
      have hl := lpco hi (by omega) q1
      have hb31 : a + 1 + i < 2 ^ 31 := by omega
      refine c_standing X (d := a + 1 + i) rfl (by omega) ?_
      refine c_rule X (r := 6) (d := a + 1 + i) rfl rfl (by omega) (by omega) ?_
      exact ih hl _ _ (by simp only [mnu]; rw [show a + i + 1 = a + 1 + i by omega]; rfl) (nI_1 _)
  refine X 200 _ _ _ _ _ _ _ _ _ ?_
  refine c_standing X (d := a) rfl (by omega) ?_
  refine c_rule X (r := 6) (d := a) rfl rfl (by omega) (by omega) ?_
  exact G 0 (Nat.zero_le _) _ _ rfl (by rw [nI_1])
theorem nIp {n : Nat} : nI (1 + n) - 1 = nI n := by rw [Nat.add_comm 1 n]; exact nI_pred n
theorem c_isStep {J : mJ} (X : mRules J) {I A : mI} {B : mB} {w f : Nat} {R : mR} {x : Int32} {d : Nat} (ex : x = nI (1 + d)) (hd : 1 + d < 320) (h1 : ¬ B 36 (1 + d) = B 36 d → R (some (.int 1)) I A B (pk w f)) (h0 : B 36 (1 + d) = B 36 d → R (some (.int 0)) I A B (pk w f)) : J n_Course_isStep 0 [.ref 38, .int x] [] I A B (pk w f) R := by
  subst ex
  refine X 200 _ _ _ _ _ _ _ _ _ ?_
  refine c_standing X (d := 1 + d) rfl (by omega) ?_
  refine c_standing X (d := d) nIp (by omega) ?_
  refine And.intro (fun q1 => ?_) (fun q1 => ?_)
  · refine And.intro (Or.inl rfl) ?_
    first | exact h1 q1 | exact h0 q1
  · refine And.intro (Or.inr rfl) ?_
    first | exact h1 q1 | exact h0 q1
/-- a day ahead of which another balance stands -/
def stp (B : mB) (j : Nat) : Bool := decide (¬ B 36 (1 + j) = B 36 j)
set_option maxRecDepth 20000 in
theorem c_stepsTill {J : mJ} (X : mRules J) {I A : mI} {B : mB} {w f : Nat} {R : mR} {D : Nat} {xD : Int32} (hD : xD = nI D) (hb : D ≤ 320) (hD1 : 1 ≤ D) (h : R (some (.int (nI (ct (stp B) (D - 1))))) I A B (pk w f)) : J n_Course_stepsTill 0 [.ref 38, .int xD, .float 0, .float 0] [] I A B (pk w f) R := by
  have G : ∀ i, i ≤ (D - 1) → ∀ (s : Int32) (x : Int32), s = nI (ct (stp B) i) → x = nI (1 + i) → J n_Course_stepsTill 4 [.ref 38, .int xD, .int s, .int x] [] I A B (pk w f) R := by
    refine lpz (fun i => ∀ (s : Int32) (x : Int32), s = nI (ct (stp B) i) → x = nI (1 + i) → J n_Course_stepsTill 4 [.ref 38, .int xD, .int s, .int x] [] I A B (pk w f) R) (fun i hi ih => ?_)
    intro s x es ex
    subst es; subst ex
    refine X 200 _ _ _ _ _ _ _ _ _ ?_
    refine And.intro (fun q1 => ?_) (fun q1 => ?_)
    · rw [hD, show D = 1 + (D - 1) by omega] at q1
      have e := lpxo hi (by omega) q1
      subst e
      exact h
    · rw [hD, show D = 1 + (D - 1) by omega] at q1
      have hl := lpco hi (by omega) q1
      refine c_isStep X (d := i) rfl (by omega) (fun z1 => ?_) (fun z1 => ?_)
      · refine And.intro (fun q => absurd q (by decide)) (fun _ => ?_)
        exact ih hl _ _ (by simp [ct, nI_1, stp, z1]) (nI_1 _)
      · refine And.intro (fun _ => ?_) (fun q => absurd (by decide) q)
        exact ih hl _ _ (by simp [ct, nI_1, stp, z1]) (nI_1 _)
  refine X 200 _ _ _ _ _ _ _ _ _ ?_
  exact G 0 (Nat.zero_le _) _ _ rfl rfl
set_option maxRecDepth 20000 in
theorem c_stepDay {J : mJ} (X : mRules J) {I A : mI} {B : mB} {w f : Nat} {R : mR} {D : Nat} (hD : I 16 4 * I 16 5 = nI D) (hb : D ≤ 320) {k : Int32} (hD1 : 1 ≤ D) (h : R (some (.int (match fd (fun j => stp B j && decide (nI (ct (stp B) j) = k)) (D - 1) with | some j => nI (1 + j) | none => -1))) I A B (pk w f)) : J n_Course_stepDay 0 [.ref 38, .int k, .float 0, .float 0] [] I A B (pk w f) R := by
  have G : ∀ i, i ≤ (D - 1) → ∀ (s : Int32) (x : Int32), s = nI (ct (stp B) i) → x = nI (1 + i) → (∀ j, j < i → (fun j => stp B j && decide (nI (ct (stp B) j) = k)) j = false) → J n_Course_stepDay 4 [.ref 38, .int k, .int s, .int x] [] I A B (pk w f) R := by
    refine lpz (fun i => ∀ (s : Int32) (x : Int32), s = nI (ct (stp B) i) → x = nI (1 + i) → (∀ j, j < i → (fun j => stp B j && decide (nI (ct (stp B) j) = k)) j = false) → J n_Course_stepDay 4 [.ref 38, .int k, .int s, .int x] [] I A B (pk w f) R) (fun i hi ih => ?_)
    intro s x es ex hno
    subst es; subst ex
    refine X 200 _ _ _ _ _ _ _ _ _ ?_
    refine And.intro (fun q1 => ?_) (fun q1 => ?_)
    · rw [hD, show D = 1 + (D - 1) by omega] at q1
      have e := lpxo hi (by omega) q1
      subst e
      rw [fd_no hno] at h
      exact h
    · rw [hD, show D = 1 + (D - 1) by omega] at q1
      have hl := lpco hi (by omega) q1
      refine c_isStep X (d := i) rfl (by omega) (fun z1 => ?_) (fun z1 => ?_)
      · refine And.intro (fun q => absurd q (by decide)) (fun _ => ?_)
        refine And.intro (fun q2 => ?_) (fun q2 => ?_)
        · exact ih hl _ _ (by simp [ct, nI_1, stp, z1]) (nI_1 _) (all_lt hno (by simp [stp, z1, q2]))
        · rw [fd_at hl (by simp [stp, z1, q2]) hno] at h
          exact h
      · refine And.intro (fun _ => ?_) (fun q => absurd (by decide) q)
        exact ih hl _ _ (by simp [ct, nI_1, stp, z1]) (nI_1 _) (all_lt hno (by simp [stp, z1]))
  refine X 200 _ _ _ _ _ _ _ _ _ ?_
  exact G 0 (Nat.zero_le _) _ _ rfl rfl (fun j hj => absurd hj (Nat.not_lt_zero j))
end
section
/-! contracts: what would be (written by wip/whole/gc7.py) -/
/-- how much more a period's interest is than it would be without an entry -/
def gin (A : mI) (B : mB) (nt P e p : Nat) : Int64 := nea (pds A B nt 36 P p 0 0) - nea (pds A B nt 36 P p (A 32 e) (-(B 31 e)))
def abl (x : Int64) : Int64 := if 0 < x then x else -x
/-- the first of the greatest above 0, and it -/
def mgl (g : Nat → Int64) : Nat → Int32 × Int64
  | 0 => (-1, 0)
  | n + 1 => if g n ≤ (mgl g n).2 then mgl g n else (nI n, g n)
/-- what is booked as a period's interest -/
def ibk (A : mI) (B : mB) (n : Nat) (p : Int32) : Int64 := sm (fun j => if A 34 j = p ∧ (A 30 j = 1 ∨ A 30 j = 2) then B 31 j else 0) n
def tlo (A : mI) (B : mB) (t : Nat) (mo : Int32) (d : Nat) : Int64 := ptO A t (B 36 d) * ((if 0 < A (19 + t) d + mo then A (19 + t) d + mo else 0) - A (19 + t) d).toInt64
def lmo (A : mI) (B : mB) (nt : Nat) (l : Int32) (d : Nat) : Int64 := crd A d (B 36 d) nt 0 0 0 - dbt A l d (B 36 d)
set_option maxRecDepth 20000 in
theorem c_gainBy {J : mJ} (X : mRules J) {I A : mI} {B : mB} {w f : Nat} {R : mR} {nt P N : Nat} (hnt : nt ≤ 4) (hI : I 17 4 = nI nt) (hP : I 16 4 = nI P) (hN : I 16 5 = nI N) (hb : N * P ≤ 320) (hN8 : N ≤ 320) {n : Nat} (hn : n ≤ 220) (hz : I 29 6 = nI n) {xe : Int32} {e0 : Nat} (exe : xe = nI e0) (he : e0 < n) (h : R (some (.long (sm (fun p => gin A B nt P e0 p) N))) I A B (pk w f)) : J n_WhatIf_gainBy 0 [.ref 39, .int xe, .float 0, .float 0, .float 0] [] I A B (pk w f) R := by
  subst exe
  have G : ∀ i, i ≤ N → ∀ (s : Int64) (x : Int32), s = sm (fun p => gin A B nt P e0 p) i → x = nI i → J n_WhatIf_gainBy 5 [.ref 39, .int (nI e0), .long s, .float 0, .int x] [] I A B (pk w f) R := by
    refine lpz (fun i => ∀ (s : Int64) (x : Int32), s = sm (fun p => gin A B nt P e0 p) i → x = nI i → J n_WhatIf_gainBy 5 [.ref 39, .int (nI e0), .long s, .float 0, .int x] [] I A B (pk w f) R) (fun i hi ih => ?_)
    intro s x es ex
    subst es; subst ex
    refine X 200 _ _ _ _ _ _ _ _ _ ?_
    refine And.intro (fun q1 => ?_) (fun q1 => ?_)
    · rw [hN] at q1
      have e := lpx hi (by omega) q1
      subst e
      exact h
    · rw [hN] at q1
      have hl := lpc hi (by omega) q1
      have hm : i * P + P ≤ 320 := by have := Nat.mul_le_mul_right P (show i + 1 ≤ N by omega); rw [Nat.add_mul, Nat.one_mul] at this; omega
      refine c_valueOf X hn hz (i := e0) rfl he ?_
      refine c_amountOf X hn hz (i := e0) rfl he ?_
      refine c_productsOf36 X hnt hI hP (p := i) rfl hm ?_
      refine c_nearest X ?_
      refine c_productsOf36 X hnt hI hP (p := i) rfl hm ?_
      refine c_nearest X ?_
      exact ih hl _ _ rfl (nI_1 i)
  refine X 200 _ _ _ _ _ _ _ _ _ ?_
  exact G 0 (Nat.zero_le _) _ _ rfl rfl
set_option maxRecDepth 20000 in
theorem c_unlikeWith {J : mJ} (X : mRules J) {I A : mI} {B : mB} {w f : Nat} {R : mR} {nt P N : Nat} (hnt : nt ≤ 4) (hI : I 17 4 = nI nt) (hP : I 16 4 = nI P) (hN : I 16 5 = nI N) (hb : N * P ≤ 320) (hN8 : N ≤ 320) {n : Nat} (hn : n ≤ 220) (hz : I 29 6 = nI n) {c : Nat} (hc : I 16 7 = nI c) (hcN : c ≤ N) {dy am : Int32} (h : R (some (.long (sm (fun p => nea (pds A B nt 36 P p dy am.toInt64) - ibk A B n (nI p)) c))) I A B (pk w f)) : J n_WhatIf_unlikeWith 0 [.ref 39, .int dy, .int am, .float 0, .float 0, .float 0] [] I A B (pk w f) R := by
  have G : ∀ i, i ≤ c → ∀ (s : Int64) (x : Int32), s = sm (fun p => nea (pds A B nt 36 P p dy am.toInt64) - ibk A B n (nI p)) i → x = nI i → J n_WhatIf_unlikeWith 5 [.ref 39, .int dy, .int am, .long s, .float 0, .int x] [] I A B (pk w f) R := by
    refine lpz (fun i => ∀ (s : Int64) (x : Int32), s = sm (fun p => nea (pds A B nt 36 P p dy am.toInt64) - ibk A B n (nI p)) i → x = nI i → J n_WhatIf_unlikeWith 5 [.ref 39, .int dy, .int am, .long s, .float 0, .int x] [] I A B (pk w f) R) (fun i hi ih => ?_)
    intro s x es ex
    subst es; subst ex
    refine X 200 _ _ _ _ _ _ _ _ _ ?_
    refine And.intro (fun q1 => ?_) (fun q1 => ?_)
    · rw [hc] at q1
      have e := lpx hi (by omega) q1
      subst e
      exact h
    · rw [hc] at q1
      have hl := lpc hi (by omega) q1
      have hm : i * P + P ≤ 320 := by have := Nat.mul_le_mul_right P (show i + 1 ≤ N by omega); rw [Nat.add_mul, Nat.one_mul] at this; omega
      refine c_productsOf36 X hnt hI hP (p := i) rfl hm ?_
      refine c_nearest X ?_
      refine c_interestBooked X hn hz ?_
      exact ih hl _ _ rfl (nI_1 i)
  refine X 200 _ _ _ _ _ _ _ _ _ ?_
  exact G 0 (Nat.zero_le _) _ _ rfl rfl
set_option maxRecDepth 20000 in
theorem c_firstTouched {J : mJ} (X : mRules J) {I A : mI} {B : mB} {w f : Nat} {R : mR} {nt P N : Nat} (hnt : nt ≤ 4) (hI : I 17 4 = nI nt) (hP : I 16 4 = nI P) (hN : I 16 5 = nI N) (hb : N * P ≤ 320) (hN8 : N ≤ 320) {c : Nat} (hc : I 16 7 = nI c) (hcN : c ≤ N) {dy am : Int32} (h : R (some (.int (fI (fd (fun p => decide (¬ nea (pds A B nt 36 P p dy am.toInt64) = nea (pds A B nt 36 P p 0 0))) c)))) I A B (pk w f)) : J n_WhatIf_firstTouched 0 [.ref 39, .int dy, .int am, .float 0] [] I A B (pk w f) R := by
  have G : ∀ i, i ≤ c → ∀ (x : Int32), x = nI i → (∀ j, j < i → (fun p => decide (¬ nea (pds A B nt 36 P p dy am.toInt64) = nea (pds A B nt 36 P p 0 0))) j = false) → J n_WhatIf_firstTouched 2 [.ref 39, .int dy, .int am, .int x] [] I A B (pk w f) R := by
    refine lpz (fun i => ∀ (x : Int32), x = nI i → (∀ j, j < i → (fun p => decide (¬ nea (pds A B nt 36 P p dy am.toInt64) = nea (pds A B nt 36 P p 0 0))) j = false) → J n_WhatIf_firstTouched 2 [.ref 39, .int dy, .int am, .int x] [] I A B (pk w f) R) (fun i hi ih => ?_)
    intro x ex hno
    subst ex
    refine X 200 _ _ _ _ _ _ _ _ _ ?_
    refine And.intro (fun q1 => ?_) (fun q1 => ?_)
    · rw [hc] at q1
      have e := lpx hi (by omega) q1
      subst e
      rw [fd_no hno] at h
      exact h
    · rw [hc] at q1
      have hl := lpc hi (by omega) q1
      have hm : i * P + P ≤ 320 := by have := Nat.mul_le_mul_right P (show i + 1 ≤ N by omega); rw [Nat.add_mul, Nat.one_mul] at this; omega
      refine c_productsOf36 X hnt hI hP (p := i) rfl hm ?_
      refine c_nearest X ?_
      refine c_productsOf36 X hnt hI hP (p := i) rfl hm ?_
      refine c_nearest X ?_
      refine And.intro (fun q2 => ?_) (fun q2 => ?_)
      · exact ih hl _ (nI_1 i) (all_lt hno (decide_eq_false (fun z => z q2)))
      · rw [fd_at hl (decide_eq_true q2) hno] at h
        exact h
  refine X 200 _ _ _ _ _ _ _ _ _ ?_
  exact G 0 (Nat.zero_le _) _ rfl (fun j hj => absurd hj (Nat.not_lt_zero j))
set_option maxRecDepth 20000 in
theorem c_mostGuilty {J : mJ} (X : mRules J) {I A : mI} {B : mB} {w f : Nat} {R : mR} {nt P N : Nat} (hnt : nt ≤ 4) (hI : I 17 4 = nI nt) (hP : I 16 4 = nI P) (hN : I 16 5 = nI N) (hb : N * P ≤ 320) (hN8 : N ≤ 320) {n : Nat} (hn : n ≤ 220) (hz : I 29 6 = nI n) {xp : Int32} {p : Nat} (exp : xp = nI p) (hp : p < N) (h : R (some (.int (mgl (fun e => abl (gin A B nt P e p)) n).1)) I A B (pk w f)) : J n_WhatIf_mostGuilty 0 [.ref 39, .int xp, .float 0, .float 0, .float 0, .float 0, .float 0, .float 0] [] I A B (pk w f) R := by
  subst exp
  have hm : p * P + P ≤ 320 := by have := Nat.mul_le_mul_right P (show p + 1 ≤ N by omega); rw [Nat.add_mul, Nat.one_mul] at this; omega
  have G : ∀ i, i ≤ n → ∀ (b0 : Int32) (s : Int64) (x : Int32) (v : Value), b0 = (mgl (fun e => abl (gin A B nt P e p)) i).1 → s = (mgl (fun e => abl (gin A B nt P e p)) i).2 → x = nI i → J n_WhatIf_mostGuilty 7 [.ref 39, .int (nI p), .int b0, .long s, .float 0, .int x, v, .float 0] [] I A B (pk w f) R := by
    refine lpz (fun i => ∀ (b0 : Int32) (s : Int64) (x : Int32) (v : Value), b0 = (mgl (fun e => abl (gin A B nt P e p)) i).1 → s = (mgl (fun e => abl (gin A B nt P e p)) i).2 → x = nI i → J n_WhatIf_mostGuilty 7 [.ref 39, .int (nI p), .int b0, .long s, .float 0, .int x, v, .float 0] [] I A B (pk w f) R) (fun i hi ih => ?_)
    intro b0 s x v eb0 es ex
    subst eb0; subst es; subst ex
    refine X 200 _ _ _ _ _ _ _ _ _ ?_
    refine And.intro (fun q1 => ?_) (fun q1 => ?_)
    · rw [hz] at q1
      have e := lpx hi (by omega) q1
      subst e
      exact h
    · rw [hz] at q1
      have hl := lpc hi (by omega) q1
      refine c_valueOf X hn hz (i := i) rfl hl ?_
      refine c_amountOf X hn hz (i := i) rfl hl ?_
      refine c_productsOf36 X hnt hI hP (p := p) rfl hm ?_
      refine c_nearest X ?_
      refine c_productsOf36 X hnt hI hP (p := p) rfl hm ?_
      refine c_nearest X ?_
      refine And.intro (fun q2 => ?_) (fun q2 => ?_)
      · have e1 : mgl (fun e => abl (gin A B nt P e p)) (i + 1) = mgl (fun e => abl (gin A B nt P e p)) i := by
          show (if abl (gin A B nt P i p) ≤ (mgl (fun e => abl (gin A B nt P e p)) i).2 then mgl (fun e => abl (gin A B nt P e p)) i else (nI i, abl (gin A B nt P i p))) = _
          first | exact if_pos q2 | exact if_neg q2
        exact ih hl _ _ _ _ (by rw [e1] <;> rfl) (by rw [e1] <;> rfl) (nI_1 i)
      · have e1 : mgl (fun e => abl (gin A B nt P e p)) (i + 1) = (nI i, abl (gin A B nt P i p)) := by
          show (if abl (gin A B nt P i p) ≤ (mgl (fun e => abl (gin A B nt P e p)) i).2 then mgl (fun e => abl (gin A B nt P e p)) i else (nI i, abl (gin A B nt P i p))) = _
          first | exact if_pos q2 | exact if_neg q2
        exact ih hl _ _ _ _ (by rw [e1] <;> rfl) (by rw [e1] <;> rfl) (nI_1 i)
  refine X 200 _ _ _ _ _ _ _ _ _ ?_
  exact G 0 (Nat.zero_le _) _ _ _ _ rfl rfl rfl
set_option maxRecDepth 20000 in
theorem c_tiltIn {J : mJ} (X : mRules J) {I A : mI} {B : mB} {w f : Nat} {R : mR} {P p : Nat} (hP : I 16 4 = nI P) {xp : Int32} (exp : xp = nI p) (hp : p * P + P ≤ 320) {t : Nat} (ht : t < 4) {mo : Int32} (h : R (some (.long (sm (fun j => tlo A B t mo (p * P + j)) P))) I A B (pk w f)) : J n_WhatIf_tiltIn 0 [.ref 39, .int xp, .int (nI t), .int mo, .float 0, .float 0, .float 0, .float 0] [] I A B (pk w f) R := by
  subst exp
  have G : ∀ i, i ≤ P → ∀ (s : Int64) (fi : Int32) (x : Int32), s = sm (fun j => tlo A B t mo (p * P + j)) i → fi = nI (p * P) → x = nI (p * P + i) → J n_WhatIf_tiltIn 17 [.ref 39, .int (nI p), .int (nI t), .int mo, .long s, .float 0, .int fi, .int x] [] I A B (pk w f) R := by
    refine lpz (fun i => ∀ (s : Int64) (fi : Int32) (x : Int32), s = sm (fun j => tlo A B t mo (p * P + j)) i → fi = nI (p * P) → x = nI (p * P + i) → J n_WhatIf_tiltIn 17 [.ref 39, .int (nI p), .int (nI t), .int mo, .long s, .float 0, .int fi, .int x] [] I A B (pk w f) R) (fun i hi ih => ?_)
    intro s fi x es efi ex
    subst es; subst efi; subst ex
    refine X 200 _ _ _ _ _ _ _ _ _ ?_
    refine And.intro (fun q1 => ?_) (fun q1 => ?_)
    · rw [hP, nI_add] at q1
      have e := lpxo hi (by omega) q1
      subst e
      exact h
    · rw [hP, nI_add] at q1
      have hl := lpco hi (by omega) q1
      have hb31 : p * P + i < 2 ^ 31 := by omega
      refine c_standing X (d := p * P + i) rfl (by omega) ?_
      refine c_rule X (r := t) (d := p * P + i) rfl rfl (by omega) (by omega) ?_
      refine c_partOf X (t := t) rfl ht ?_
      exact ih hl _ _ _ (by simp only [sm, cl hb31] <;> rfl) rfl (nI_1 _)
  refine X 200 _ _ _ _ _ _ _ _ _ ?_
  exact G 0 (Nat.zero_le _) _ _ _ rfl (by rw [hP, pk_mul]) (by rw [hP, pk_mul]; rfl)
set_option maxRecDepth 20000 in
theorem c_limitedProducts {J : mJ} (X : mRules J) {I A : mI} {B : mB} {w f : Nat} {R : mR} {nt : Nat} (hnt : nt ≤ 4) (hI : I 17 4 = nI nt) {P p : Nat} (hP : I 16 4 = nI P) {xp : Int32} (exp : xp = nI p) (hp : p * P + P ≤ 320) {l : Int32} (h : R (some (.long (sm (fun j => lmo A B nt l (p * P + j)) P))) I A B (pk w f)) : J n_WhatIf_limitedProducts 0 [.ref 39, .int xp, .int l, .float 0, .float 0, .float 0, .float 0, .float 0, .float 0] [] I A B (pk w f) R := by
  subst exp
  have G : ∀ i, i ≤ P → ∀ (s : Int64) (fi : Int32) (x : Int32) (v : Value), s = sm (fun j => lmo A B nt l (p * P + j)) i → fi = nI (p * P) → x = nI (p * P + i) → J n_WhatIf_limitedProducts 16 [.ref 39, .int (nI p), .int l, .long s, .float 0, .int fi, .int x, v, .float 0] [] I A B (pk w f) R := by
    refine lpz (fun i => ∀ (s : Int64) (fi : Int32) (x : Int32) (v : Value), s = sm (fun j => lmo A B nt l (p * P + j)) i → fi = nI (p * P) → x = nI (p * P + i) → J n_WhatIf_limitedProducts 16 [.ref 39, .int (nI p), .int l, .long s, .float 0, .int fi, .int x, v, .float 0] [] I A B (pk w f) R) (fun i hi ih => ?_)
    intro s fi x v es efi ex
    subst es; subst efi; subst ex
    refine X 200 _ _ _ _ _ _ _ _ _ ?_
    refine And.intro (fun q1 => ?_) (fun q1 => ?_)
    · rw [hP, nI_add] at q1
      have e := lpxo hi (by omega) q1
      subst e
      exact h
    · rw [hP, nI_add] at q1
      have hl := lpco hi (by omega) q1
      have hb31 : p * P + i < 2 ^ 31 := by omega
      refine c_standing X (d := p * P + i) rfl (by omega) ?_
      refine c_credit X (d := p * P + i) rfl (by omega) hnt hI ?_
      refine c_debtBy X (d := p * P + i) rfl (by omega) ?_
      exact ih hl _ _ _ _ (by simp only [sm, cl hb31] <;> rfl) rfl (nI_1 _)
  refine X 200 _ _ _ _ _ _ _ _ _ ?_
  exact G 0 (Nat.zero_le _) _ _ _ _ rfl (by rw [hP, pk_mul]) (by rw [hP, pk_mul]; rfl)
set_option maxRecDepth 20000 in
theorem c_gainByTilt {J : mJ} (X : mRules J) {I A : mI} {B : mB} {w f : Nat} {R : mR} {nt P N : Nat} (hnt : nt ≤ 4) (hI : I 17 4 = nI nt) (hP : I 16 4 = nI P) (hN : I 16 5 = nI N) (hb : N * P ≤ 320) (hN8 : N ≤ 320) {t : Nat} (ht : t < 4) {mo : Int32} (h : R (some (.long (sm (fun p => nea (pds A B nt 36 P p 0 0 + sm (fun j => tlo A B t mo (p * P + j)) P) - nea (pds A B nt 36 P p 0 0)) N))) I A B (pk w f)) : J n_WhatIf_gainByTilt 0 [.ref 39, .int (nI t), .int mo, .float 0, .float 0, .float 0, .float 0, .float 0] [] I A B (pk w f) R := by
  have G : ∀ i, i ≤ N → ∀ (s : Int64) (x : Int32) (v : Value), s = sm (fun p => nea (pds A B nt 36 P p 0 0 + sm (fun j => tlo A B t mo (p * P + j)) P) - nea (pds A B nt 36 P p 0 0)) i → x = nI i → J n_WhatIf_gainByTilt 5 [.ref 39, .int (nI t), .int mo, .long s, .float 0, .int x, v, .float 0] [] I A B (pk w f) R := by
    refine lpz (fun i => ∀ (s : Int64) (x : Int32) (v : Value), s = sm (fun p => nea (pds A B nt 36 P p 0 0 + sm (fun j => tlo A B t mo (p * P + j)) P) - nea (pds A B nt 36 P p 0 0)) i → x = nI i → J n_WhatIf_gainByTilt 5 [.ref 39, .int (nI t), .int mo, .long s, .float 0, .int x, v, .float 0] [] I A B (pk w f) R) (fun i hi ih => ?_)
    intro s x v es ex
    subst es; subst ex
    refine X 200 _ _ _ _ _ _ _ _ _ ?_
    refine And.intro (fun q1 => ?_) (fun q1 => ?_)
    · rw [hN] at q1
      have e := lpx hi (by omega) q1
      subst e
      exact h
    · rw [hN] at q1
      have hl := lpc hi (by omega) q1
      have hm : i * P + P ≤ 320 := by have := Nat.mul_le_mul_right P (show i + 1 ≤ N by omega); rw [Nat.add_mul, Nat.one_mul] at this; omega
      refine c_productsOf36 X hnt hI hP (p := i) rfl hm ?_
      refine c_tiltIn X hP (p := i) rfl hm ht ?_
      refine c_nearest X ?_
      refine c_nearest X ?_
      exact ih hl _ _ _ rfl (nI_1 i)
  refine X 200 _ _ _ _ _ _ _ _ _ ?_
  exact G 0 (Nat.zero_le _) _ _ _ rfl rfl
set_option maxRecDepth 20000 in
theorem c_gainByLimit {J : mJ} (X : mRules J) {I A : mI} {B : mB} {w f : Nat} {R : mR} {nt P N : Nat} (hnt : nt ≤ 4) (hI : I 17 4 = nI nt) (hP : I 16 4 = nI P) (hN : I 16 5 = nI N) (hb : N * P ≤ 320) (hN8 : N ≤ 320) {l : Int32} (h : R (some (.long (sm (fun p => nea (sm (fun j => lmo A B nt l (p * P + j)) P) - nea (pds A B nt 36 P p 0 0)) N))) I A B (pk w f)) : J n_WhatIf_gainByLimit 0 [.ref 39, .int l, .float 0, .float 0, .float 0] [] I A B (pk w f) R := by
  have G : ∀ i, i ≤ N → ∀ (s : Int64) (x : Int32), s = sm (fun p => nea (sm (fun j => lmo A B nt l (p * P + j)) P) - nea (pds A B nt 36 P p 0 0)) i → x = nI i → J n_WhatIf_gainByLimit 5 [.ref 39, .int l, .long s, .float 0, .int x] [] I A B (pk w f) R := by
    refine lpz (fun i => ∀ (s : Int64) (x : Int32), s = sm (fun p => nea (sm (fun j => lmo A B nt l (p * P + j)) P) - nea (pds A B nt 36 P p 0 0)) i → x = nI i → J n_WhatIf_gainByLimit 5 [.ref 39, .int l, .long s, .float 0, .int x] [] I A B (pk w f) R) (fun i hi ih => ?_)
    intro s x es ex
    subst es; subst ex
    refine X 200 _ _ _ _ _ _ _ _ _ ?_
    refine And.intro (fun q1 => ?_) (fun q1 => ?_)
    · rw [hN] at q1
      have e := lpx hi (by omega) q1
      subst e
      exact h
    · rw [hN] at q1
      have hl := lpc hi (by omega) q1
      have hm : i * P + P ≤ 320 := by have := Nat.mul_le_mul_right P (show i + 1 ≤ N by omega); rw [Nat.add_mul, Nat.one_mul] at this; omega
      refine c_limitedProducts X hnt hI hP (p := i) rfl hm ?_
      refine c_nearest X ?_
      refine c_productsOf36 X hnt hI hP (p := i) rfl hm ?_
      refine c_nearest X ?_
      exact ih hl _ _ rfl (nI_1 i)
  refine X 200 _ _ _ _ _ _ _ _ _ ?_
  exact G 0 (Nat.zero_le _) _ _ rfl rfl
end
section
/-! contracts: rows that are tried on (written by wip/whole/gc8.py) -/
/-- a row filled up to n -/
def fil {α : Type} (F : Nat → Nat → α) (q n : Nat) (v : α) : Nat → Nat → α := fun k j => if k = q ∧ j < n then v else F k j
theorem fil_0 {α : Type} {F : Nat → Nat → α} {q : Nat} {v : α} : fil F q 0 v = F := by
  funext k j
  simp [fil]
theorem fil_1 {α : Type} {F : Nat → Nat → α} {q n : Nat} {v : α} : up2 (fil F q n v) q n v = fil F q (n + 1) v := by
  funext k j
  simp only [fil, up2]
  by_cases hk : k = q
  · subst hk
    by_cases hj : j = n
    · subst hj
      rw [if_pos ⟨rfl, rfl⟩, if_pos ⟨rfl, Nat.lt_succ_self _⟩]
    · rw [if_neg (fun z => hj z.2)]
      by_cases h : j < n
      · rw [if_pos ⟨rfl, h⟩, if_pos ⟨rfl, by omega⟩]
      · rw [if_neg (fun z => h z.2), if_neg (by omega)]
  · rw [if_neg (fun z => hk z.1), if_neg (fun z => hk z.1), if_neg (fun z => hk z.1)]
set_option maxRecDepth 20000 in
theorem c_fill36 {J : mJ} (X : mRules J) {I A : mI} {B : mB} {w f : Nat} {R : mR} {v : Int64} (h : R none I A (fil B 36 320 v) (pk w f)) : J n_Arrays_fill2 0 [.ref 36, .long v, .float 0, .float 0, .float 0] [] I A B (pk w f) R := by
  have G : ∀ i, i ≤ 320 → ∀ (x : Int32) (le : Int32) (Bv : mB), x = nI i → le = nI 320 → Bv = fil B 36 i v → J n_Arrays_fill2 6 [.ref 36, .long v, .float 0, .int x, .int le] [] I A Bv (pk w f) R := by
    refine lpz (fun i => ∀ (x : Int32) (le : Int32) (Bv : mB), x = nI i → le = nI 320 → Bv = fil B 36 i v → J n_Arrays_fill2 6 [.ref 36, .long v, .float 0, .int x, .int le] [] I A Bv (pk w f) R) (fun i hi ih => ?_)
    intro x le Bv ex ele eBv
    subst ex; subst ele; subst eBv
    refine X 200 _ _ _ _ _ _ _ _ _ ?_
    refine And.intro (fun q1 => ?_) (fun q1 => ?_)
    · have e := lpx (n := 320) hi (by omega) q1
      subst e
      exact h
    · have hl := lpc (n := 320) hi (by omega) q1
      have hb31 : i < 2 ^ 31 := by omega
      refine Exists.intro _ (And.intro rfl (And.intro (vin (by omega) (by omega)) ?_))
      exact ih hl _ _ _ (nI_1 i) rfl (by rw [cl hb31]; exact fil_1)
  refine X 200 _ _ _ _ _ _ _ _ _ ?_
  refine Exists.intro _ (Exists.intro _ (And.intro rfl ?_))
  exact G 0 (Nat.zero_le _) _ _ _ rfl rfl fil_0.symm
set_option maxRecDepth 20000 in
theorem c_fill37 {J : mJ} (X : mRules J) {I A : mI} {B : mB} {w f : Nat} {R : mR} {v : Int64} (h : R none I A (fil B 37 320 v) (pk w f)) : J n_Arrays_fill2 0 [.ref 37, .long v, .float 0, .float 0, .float 0] [] I A B (pk w f) R := by
  have G : ∀ i, i ≤ 320 → ∀ (x : Int32) (le : Int32) (Bv : mB), x = nI i → le = nI 320 → Bv = fil B 37 i v → J n_Arrays_fill2 6 [.ref 37, .long v, .float 0, .int x, .int le] [] I A Bv (pk w f) R := by
    refine lpz (fun i => ∀ (x : Int32) (le : Int32) (Bv : mB), x = nI i → le = nI 320 → Bv = fil B 37 i v → J n_Arrays_fill2 6 [.ref 37, .long v, .float 0, .int x, .int le] [] I A Bv (pk w f) R) (fun i hi ih => ?_)
    intro x le Bv ex ele eBv
    subst ex; subst ele; subst eBv
    refine X 200 _ _ _ _ _ _ _ _ _ ?_
    refine And.intro (fun q1 => ?_) (fun q1 => ?_)
    · have e := lpx (n := 320) hi (by omega) q1
      subst e
      exact h
    · have hl := lpc (n := 320) hi (by omega) q1
      have hb31 : i < 2 ^ 31 := by omega
      refine Exists.intro _ (And.intro rfl (And.intro (vin (by omega) (by omega)) ?_))
      exact ih hl _ _ _ (nI_1 i) rfl (by rw [cl hb31]; exact fil_1)
  refine X 200 _ _ _ _ _ _ _ _ _ ?_
  refine Exists.intro _ (Exists.intro _ (And.intro rfl ?_))
  exact G 0 (Nat.zero_le _) _ _ _ rfl rfl fil_0.symm
set_option maxRecDepth 20000 in
theorem c_fill19 {J : mJ} (X : mRules J) {I A : mI} {B : mB} {w f : Nat} {R : mR} {v : Int32} (h : R none I (fil A 19 320 v) B (pk w f)) : J n_Arrays_fill 0 [.ref 19, .int v, .float 0, .float 0] [] I A B (pk w f) R := by
  have G : ∀ i, i ≤ 320 → ∀ (x : Int32) (le : Int32) (Bv : mI), x = nI i → le = nI 320 → Bv = fil A 19 i v → J n_Arrays_fill 5 [.ref 19, .int v, .int x, .int le] [] I Bv B (pk w f) R := by
    refine lpz (fun i => ∀ (x : Int32) (le : Int32) (Bv : mI), x = nI i → le = nI 320 → Bv = fil A 19 i v → J n_Arrays_fill 5 [.ref 19, .int v, .int x, .int le] [] I Bv B (pk w f) R) (fun i hi ih => ?_)
    intro x le Bv ex ele eBv
    subst ex; subst ele; subst eBv
    refine X 200 _ _ _ _ _ _ _ _ _ ?_
    refine And.intro (fun q1 => ?_) (fun q1 => ?_)
    · have e := lpx (n := 320) hi (by omega) q1
      subst e
      exact h
    · have hl := lpc (n := 320) hi (by omega) q1
      have hb31 : i < 2 ^ 31 := by omega
      refine Exists.intro _ (And.intro rfl (And.intro (vin (by omega) (by omega)) ?_))
      exact ih hl _ _ _ (nI_1 i) rfl (by rw [cl hb31]; exact fil_1)
  refine X 200 _ _ _ _ _ _ _ _ _ ?_
  refine Exists.intro _ (Exists.intro _ (And.intro rfl ?_))
  exact G 0 (Nat.zero_le _) _ _ _ rfl rfl fil_0.symm
set_option maxRecDepth 20000 in
theorem c_fill20 {J : mJ} (X : mRules J) {I A : mI} {B : mB} {w f : Nat} {R : mR} {v : Int32} (h : R none I (fil A 20 320 v) B (pk w f)) : J n_Arrays_fill 0 [.ref 20, .int v, .float 0, .float 0] [] I A B (pk w f) R := by
  have G : ∀ i, i ≤ 320 → ∀ (x : Int32) (le : Int32) (Bv : mI), x = nI i → le = nI 320 → Bv = fil A 20 i v → J n_Arrays_fill 5 [.ref 20, .int v, .int x, .int le] [] I Bv B (pk w f) R := by
    refine lpz (fun i => ∀ (x : Int32) (le : Int32) (Bv : mI), x = nI i → le = nI 320 → Bv = fil A 20 i v → J n_Arrays_fill 5 [.ref 20, .int v, .int x, .int le] [] I Bv B (pk w f) R) (fun i hi ih => ?_)
    intro x le Bv ex ele eBv
    subst ex; subst ele; subst eBv
    refine X 200 _ _ _ _ _ _ _ _ _ ?_
    refine And.intro (fun q1 => ?_) (fun q1 => ?_)
    · have e := lpx (n := 320) hi (by omega) q1
      subst e
      exact h
    · have hl := lpc (n := 320) hi (by omega) q1
      have hb31 : i < 2 ^ 31 := by omega
      refine Exists.intro _ (And.intro rfl (And.intro (vin (by omega) (by omega)) ?_))
      exact ih hl _ _ _ (nI_1 i) rfl (by rw [cl hb31]; exact fil_1)
  refine X 200 _ _ _ _ _ _ _ _ _ ?_
  refine Exists.intro _ (Exists.intro _ (And.intro rfl ?_))
  exact G 0 (Nat.zero_le _) _ _ _ rfl rfl fil_0.symm
set_option maxRecDepth 20000 in
theorem c_fill21 {J : mJ} (X : mRules J) {I A : mI} {B : mB} {w f : Nat} {R : mR} {v : Int32} (h : R none I (fil A 21 320 v) B (pk w f)) : J n_Arrays_fill 0 [.ref 21, .int v, .float 0, .float 0] [] I A B (pk w f) R := by
  have G : ∀ i, i ≤ 320 → ∀ (x : Int32) (le : Int32) (Bv : mI), x = nI i → le = nI 320 → Bv = fil A 21 i v → J n_Arrays_fill 5 [.ref 21, .int v, .int x, .int le] [] I Bv B (pk w f) R := by
    refine lpz (fun i => ∀ (x : Int32) (le : Int32) (Bv : mI), x = nI i → le = nI 320 → Bv = fil A 21 i v → J n_Arrays_fill 5 [.ref 21, .int v, .int x, .int le] [] I Bv B (pk w f) R) (fun i hi ih => ?_)
    intro x le Bv ex ele eBv
    subst ex; subst ele; subst eBv
    refine X 200 _ _ _ _ _ _ _ _ _ ?_
    refine And.intro (fun q1 => ?_) (fun q1 => ?_)
    · have e := lpx (n := 320) hi (by omega) q1
      subst e
      exact h
    · have hl := lpc (n := 320) hi (by omega) q1
      have hb31 : i < 2 ^ 31 := by omega
      refine Exists.intro _ (And.intro rfl (And.intro (vin (by omega) (by omega)) ?_))
      exact ih hl _ _ _ (nI_1 i) rfl (by rw [cl hb31]; exact fil_1)
  refine X 200 _ _ _ _ _ _ _ _ _ ?_
  refine Exists.intro _ (Exists.intro _ (And.intro rfl ?_))
  exact G 0 (Nat.zero_le _) _ _ _ rfl rfl fil_0.symm
set_option maxRecDepth 20000 in
theorem c_fill22 {J : mJ} (X : mRules J) {I A : mI} {B : mB} {w f : Nat} {R : mR} {v : Int32} (h : R none I (fil A 22 320 v) B (pk w f)) : J n_Arrays_fill 0 [.ref 22, .int v, .float 0, .float 0] [] I A B (pk w f) R := by
  have G : ∀ i, i ≤ 320 → ∀ (x : Int32) (le : Int32) (Bv : mI), x = nI i → le = nI 320 → Bv = fil A 22 i v → J n_Arrays_fill 5 [.ref 22, .int v, .int x, .int le] [] I Bv B (pk w f) R := by
    refine lpz (fun i => ∀ (x : Int32) (le : Int32) (Bv : mI), x = nI i → le = nI 320 → Bv = fil A 22 i v → J n_Arrays_fill 5 [.ref 22, .int v, .int x, .int le] [] I Bv B (pk w f) R) (fun i hi ih => ?_)
    intro x le Bv ex ele eBv
    subst ex; subst ele; subst eBv
    refine X 200 _ _ _ _ _ _ _ _ _ ?_
    refine And.intro (fun q1 => ?_) (fun q1 => ?_)
    · have e := lpx (n := 320) hi (by omega) q1
      subst e
      exact h
    · have hl := lpc (n := 320) hi (by omega) q1
      have hb31 : i < 2 ^ 31 := by omega
      refine Exists.intro _ (And.intro rfl (And.intro (vin (by omega) (by omega)) ?_))
      exact ih hl _ _ _ (nI_1 i) rfl (by rw [cl hb31]; exact fil_1)
  refine X 200 _ _ _ _ _ _ _ _ _ ?_
  refine Exists.intro _ (Exists.intro _ (And.intro rfl ?_))
  exact G 0 (Nat.zero_le _) _ _ _ rfl rfl fil_0.symm
set_option maxRecDepth 20000 in
theorem c_fill23 {J : mJ} (X : mRules J) {I A : mI} {B : mB} {w f : Nat} {R : mR} {v : Int32} (h : R none I (fil A 23 320 v) B (pk w f)) : J n_Arrays_fill 0 [.ref 23, .int v, .float 0, .float 0] [] I A B (pk w f) R := by
  have G : ∀ i, i ≤ 320 → ∀ (x : Int32) (le : Int32) (Bv : mI), x = nI i → le = nI 320 → Bv = fil A 23 i v → J n_Arrays_fill 5 [.ref 23, .int v, .int x, .int le] [] I Bv B (pk w f) R := by
    refine lpz (fun i => ∀ (x : Int32) (le : Int32) (Bv : mI), x = nI i → le = nI 320 → Bv = fil A 23 i v → J n_Arrays_fill 5 [.ref 23, .int v, .int x, .int le] [] I Bv B (pk w f) R) (fun i hi ih => ?_)
    intro x le Bv ex ele eBv
    subst ex; subst ele; subst eBv
    refine X 200 _ _ _ _ _ _ _ _ _ ?_
    refine And.intro (fun q1 => ?_) (fun q1 => ?_)
    · have e := lpx (n := 320) hi (by omega) q1
      subst e
      exact h
    · have hl := lpc (n := 320) hi (by omega) q1
      have hb31 : i < 2 ^ 31 := by omega
      refine Exists.intro _ (And.intro rfl (And.intro (vin (by omega) (by omega)) ?_))
      exact ih hl _ _ _ (nI_1 i) rfl (by rw [cl hb31]; exact fil_1)
  refine X 200 _ _ _ _ _ _ _ _ _ ?_
  refine Exists.intro _ (Exists.intro _ (And.intro rfl ?_))
  exact G 0 (Nat.zero_le _) _ _ _ rfl rfl fil_0.symm
set_option maxRecDepth 20000 in
theorem c_fill24 {J : mJ} (X : mRules J) {I A : mI} {B : mB} {w f : Nat} {R : mR} {v : Int32} (h : R none I (fil A 24 320 v) B (pk w f)) : J n_Arrays_fill 0 [.ref 24, .int v, .float 0, .float 0] [] I A B (pk w f) R := by
  have G : ∀ i, i ≤ 320 → ∀ (x : Int32) (le : Int32) (Bv : mI), x = nI i → le = nI 320 → Bv = fil A 24 i v → J n_Arrays_fill 5 [.ref 24, .int v, .int x, .int le] [] I Bv B (pk w f) R := by
    refine lpz (fun i => ∀ (x : Int32) (le : Int32) (Bv : mI), x = nI i → le = nI 320 → Bv = fil A 24 i v → J n_Arrays_fill 5 [.ref 24, .int v, .int x, .int le] [] I Bv B (pk w f) R) (fun i hi ih => ?_)
    intro x le Bv ex ele eBv
    subst ex; subst ele; subst eBv
    refine X 200 _ _ _ _ _ _ _ _ _ ?_
    refine And.intro (fun q1 => ?_) (fun q1 => ?_)
    · have e := lpx (n := 320) hi (by omega) q1
      subst e
      exact h
    · have hl := lpc (n := 320) hi (by omega) q1
      have hb31 : i < 2 ^ 31 := by omega
      refine Exists.intro _ (And.intro rfl (And.intro (vin (by omega) (by omega)) ?_))
      exact ih hl _ _ _ (nI_1 i) rfl (by rw [cl hb31]; exact fil_1)
  refine X 200 _ _ _ _ _ _ _ _ _ ?_
  refine Exists.intro _ (Exists.intro _ (And.intro rfl ?_))
  exact G 0 (Nat.zero_le _) _ _ _ rfl rfl fil_0.symm
set_option maxRecDepth 20000 in
theorem c_fill25 {J : mJ} (X : mRules J) {I A : mI} {B : mB} {w f : Nat} {R : mR} {v : Int32} (h : R none I (fil A 25 320 v) B (pk w f)) : J n_Arrays_fill 0 [.ref 25, .int v, .float 0, .float 0] [] I A B (pk w f) R := by
  have G : ∀ i, i ≤ 320 → ∀ (x : Int32) (le : Int32) (Bv : mI), x = nI i → le = nI 320 → Bv = fil A 25 i v → J n_Arrays_fill 5 [.ref 25, .int v, .int x, .int le] [] I Bv B (pk w f) R := by
    refine lpz (fun i => ∀ (x : Int32) (le : Int32) (Bv : mI), x = nI i → le = nI 320 → Bv = fil A 25 i v → J n_Arrays_fill 5 [.ref 25, .int v, .int x, .int le] [] I Bv B (pk w f) R) (fun i hi ih => ?_)
    intro x le Bv ex ele eBv
    subst ex; subst ele; subst eBv
    refine X 200 _ _ _ _ _ _ _ _ _ ?_
    refine And.intro (fun q1 => ?_) (fun q1 => ?_)
    · have e := lpx (n := 320) hi (by omega) q1
      subst e
      exact h
    · have hl := lpc (n := 320) hi (by omega) q1
      have hb31 : i < 2 ^ 31 := by omega
      refine Exists.intro _ (And.intro rfl (And.intro (vin (by omega) (by omega)) ?_))
      exact ih hl _ _ _ (nI_1 i) rfl (by rw [cl hb31]; exact fil_1)
  refine X 200 _ _ _ _ _ _ _ _ _ ?_
  refine Exists.intro _ (Exists.intro _ (And.intro rfl ?_))
  exact G 0 (Nat.zero_le _) _ _ _ rfl rfl fil_0.symm
theorem c_fillR {J : mJ} (X : mRules J) {I A : mI} {B : mB} {w f : Nat} {R : mR} {v : Int32} {r : Nat} (hr : r < 7) (h : R none I (fil A (19 + r) 320 v) B (pk w f)) : J n_Arrays_fill 0 [.ref (19 + r), .int v, .float 0, .float 0] [] I A B (pk w f) R := by
  match r, hr, h with
  | 0, _, h => exact c_fill19 X h
  | 1, _, h => exact c_fill20 X h
  | 2, _, h => exact c_fill21 X h
  | 3, _, h => exact c_fill22 X h
  | 4, _, h => exact c_fill23 X h
  | 5, _, h => exact c_fill24 X h
  | 6, _, h => exact c_fill25 X h
/-- the balances, copied to the row to try on -/
def tbl (B : mB) : mB := up1 B 37 (va_cpy (B 36) (B 37) 0 0 320)
/-- a period's correction on the row: how much, and the row behind -/
def crn (A : mI) (nt P D K n : Nat) (B0 B : mB) (p : Nat) : Int64 := nea (pds A B nt 37 P p 0 0) - ibk A B0 n (nI p)
def cmp_ (P K p : Nat) : Nat := P * K * (p / K + 1)
/-- the row, and the corrections so far, behind k periods -/
def crs (A : mI) (nt P D K n : Nat) (B0 : mB) : Nat → mB
  | 0 => tbl B0
  | p + 1 => shf (crs A nt P D K n B0 p) 37 (cmp_ P K p) (crn A nt P D K n B0 (crs A nt P D K n B0 p) p) (D - cmp_ P K p)
theorem crs_b {A : mI} {nt P D K n : Nat} {B0 : mB} : ∀ {k : Nat} {r : Nat}, r ≠ 37 → crs A nt P D K n B0 k r = B0 r
  | 0, r, h => by
    funext j
    simp [crs, tbl, up1, h]
  | k + 1, r, h => by
    funext j
    show shf _ _ _ _ _ r j = _
    simp only [shf]
    rw [if_neg (fun z => h z.1), crs_b h]
theorem ibk_c {A : mI} {B B' : mB} {n : Nat} {p : Int32} (h : B' 31 = B 31) : ibk A B' n p = ibk A B n p := by
  simp only [ibk, h]
set_option maxRecDepth 20000 in
theorem c_correctionsNow {J : mJ} (X : mRules J) {I A : mI} {B : mB} {w f : Nat} {R : mR} {nt P N : Nat} (hnt : nt ≤ 4) (hI : I 17 4 = nI nt) (hP : I 16 4 = nI P) (hN : I 16 5 = nI N) (hb : N * P ≤ 320) (hN8 : N ≤ 320) {n : Nat} (hn : n ≤ 220) (hz : I 29 6 = nI n) {c : Nat} (hc : I 16 7 = nI c) (hcN : c ≤ N) {K D : Nat} (hK : I 16 6 = nI K) (hK1 : 1 ≤ K) (hK4 : K ≤ 4) (hD : I 16 4 * I 16 5 = nI D) (hDb : D ≤ 320) (hP40 : P ≤ 40) (h : R (some (.int (nI (ct (fun p => decide (¬ crn A nt P D K n B (crs A nt P D K n B p) p = 0)) c)))) I A (crs A nt P D K n B c) (pk w f)) : J n_WhatIf_correctionsNow 0 [.ref 39, .float 0, .float 0, .float 0] [] I A B (pk w f) R := by
  have G : ∀ i, i ≤ c → ∀ (s : Int32) (x : Int32) (Bv : mB), s = nI (ct (fun p => decide (¬ crn A nt P D K n B (crs A nt P D K n B p) p = 0)) i) → x = nI i → Bv = crs A nt P D K n B i → J n_WhatIf_correctionsNow 12 [.ref 39, .int s, .ref 37, .int x] [] I A Bv (pk w f) R := by
    refine lpz (fun i => ∀ (s : Int32) (x : Int32) (Bv : mB), s = nI (ct (fun p => decide (¬ crn A nt P D K n B (crs A nt P D K n B p) p = 0)) i) → x = nI i → Bv = crs A nt P D K n B i → J n_WhatIf_correctionsNow 12 [.ref 39, .int s, .ref 37, .int x] [] I A Bv (pk w f) R) (fun i hi ih => ?_)
    intro s x Bv es ex eBv
    subst es; subst ex; subst eBv
    refine X 200 _ _ _ _ _ _ _ _ _ ?_
    refine And.intro (fun q1 => ?_) (fun q1 => ?_)
    · rw [hc] at q1
      have e := lpx hi (by omega) q1
      subst e
      exact h
    · rw [hc] at q1
      have hl := lpc hi (by omega) q1
      have hm : i * P + P ≤ 320 := by have := Nat.mul_le_mul_right P (show i + 1 ≤ N by omega); rw [Nat.add_mul, Nat.one_mul] at this; omega
      have hcd : I 16 4 * I 16 6 * (nI i / I 16 6 + 1) = nI (cmp_ P K i) := by
        rw [hP, hK, pk_mul, pk_div (by omega) (by omega) (by omega), nI_1, pk_mul]
        rfl
      have hcv : cmp_ P K i < 2 ^ 20 := by
        have h1 : P * K ≤ 160 := Nat.le_trans (Nat.mul_le_mul hP40 hK4) (by omega)
        have h2 : i / K + 1 ≤ 321 := by have := Nat.div_le_self i K; omega
        have := Nat.mul_le_mul h1 h2
        unfold cmp_
        omega
      have hib : ibk A (crs A nt P D K n B i) n (nI i) = ibk A B n (nI i) := ibk_c (crs_b (by decide))
      refine c_productsOf37 X hnt hI hP (p := i) rfl hm ?_
      refine c_nearest X ?_
      refine c_interestBooked X hn hz ?_
      refine c_compDay X ?_ (by rw [hK]; exact nI_nlt (b := 1) hK1 (by omega))
      refine c_shift37 X (v := cmp_ P K i) hD hDb hcd hcv ?_
      refine And.intro (fun q2 => ?_) (fun q2 => ?_)
      · have q3 : crn A nt P D K n B (crs A nt P D K n B i) i = 0 := by
          unfold crn
          rw [← hib]
          exact q2
        exact ih hl _ _ _ (by simp [ct, nI_1, q3]) (nI_1 i) (by simp only [crs, crn]; rw [← hib]; rfl)
      · have q3 : ¬ crn A nt P D K n B (crs A nt P D K n B i) i = 0 := by
          unfold crn
          rw [← hib]
          exact q2
        exact ih hl _ _ _ (by simp [ct, nI_1, q3]) (nI_1 i) (by simp only [crs, crn]; rw [← hib]; rfl)
  refine X 200 _ _ _ _ _ _ _ _ _ ?_
  refine Exists.intro 1 (Exists.intro 320 (Exists.intro 320 (And.intro rfl (And.intro rfl (And.intro (Or.inr rfl) (And.intro (by decide) (And.intro (by decide) (And.intro (by decide) (And.intro (by decide) (And.intro (by decide) (And.intro (fun z => absurd z (by decide)) (fun _ => ?_))))))))))))
  exact G 0 (Nat.zero_le _) _ _ _ rfl rfl rfl
set_option maxRecDepth 20000 in
theorem c_correctedNow {J : mJ} (X : mRules J) {I A : mI} {B : mB} {w f : Nat} {R : mR} {nt P N : Nat} (hnt : nt ≤ 4) (hI : I 17 4 = nI nt) (hP : I 16 4 = nI P) (hN : I 16 5 = nI N) (hb : N * P ≤ 320) (hN8 : N ≤ 320) {n : Nat} (hn : n ≤ 220) (hz : I 29 6 = nI n) {c : Nat} (hc : I 16 7 = nI c) (hcN : c ≤ N) {K D : Nat} (hK : I 16 6 = nI K) (hK1 : 1 ≤ K) (hK4 : K ≤ 4) (hD : I 16 4 * I 16 5 = nI D) (hDb : D ≤ 320) (hP40 : P ≤ 40) (h : R (some (.long (sm (fun p => crn A nt P D K n B (crs A nt P D K n B p) p) c))) I A (crs A nt P D K n B c) (pk w f)) : J n_WhatIf_correctedNow 0 [.ref 39, .float 0, .float 0, .float 0, .float 0] [] I A B (pk w f) R := by
  have G : ∀ i, i ≤ c → ∀ (s : Int64) (x : Int32) (Bv : mB), s = sm (fun p => crn A nt P D K n B (crs A nt P D K n B p) p) i → x = nI i → Bv = crs A nt P D K n B i → J n_WhatIf_correctedNow 13 [.ref 39, .long s, .float 0, .ref 37, .int x] [] I A Bv (pk w f) R := by
    refine lpz (fun i => ∀ (s : Int64) (x : Int32) (Bv : mB), s = sm (fun p => crn A nt P D K n B (crs A nt P D K n B p) p) i → x = nI i → Bv = crs A nt P D K n B i → J n_WhatIf_correctedNow 13 [.ref 39, .long s, .float 0, .ref 37, .int x] [] I A Bv (pk w f) R) (fun i hi ih => ?_)
    intro s x Bv es ex eBv
    subst es; subst ex; subst eBv
    refine X 200 _ _ _ _ _ _ _ _ _ ?_
    refine And.intro (fun q1 => ?_) (fun q1 => ?_)
    · rw [hc] at q1
      have e := lpx hi (by omega) q1
      subst e
      exact h
    · rw [hc] at q1
      have hl := lpc hi (by omega) q1
      have hm : i * P + P ≤ 320 := by have := Nat.mul_le_mul_right P (show i + 1 ≤ N by omega); rw [Nat.add_mul, Nat.one_mul] at this; omega
      have hcd : I 16 4 * I 16 6 * (nI i / I 16 6 + 1) = nI (cmp_ P K i) := by
        rw [hP, hK, pk_mul, pk_div (by omega) (by omega) (by omega), nI_1, pk_mul]
        rfl
      have hcv : cmp_ P K i < 2 ^ 20 := by
        have h1 : P * K ≤ 160 := Nat.le_trans (Nat.mul_le_mul hP40 hK4) (by omega)
        have h2 : i / K + 1 ≤ 321 := by have := Nat.div_le_self i K; omega
        have := Nat.mul_le_mul h1 h2
        unfold cmp_
        omega
      have hib : ibk A (crs A nt P D K n B i) n (nI i) = ibk A B n (nI i) := ibk_c (crs_b (by decide))
      refine c_productsOf37 X hnt hI hP (p := i) rfl hm ?_
      refine c_nearest X ?_
      refine c_interestBooked X hn hz ?_
      refine c_compDay X ?_ (by rw [hK]; exact nI_nlt (b := 1) hK1 (by omega))
      refine c_shift37 X (v := cmp_ P K i) hD hDb hcd hcv ?_
      exact ih hl _ _ _ (by simp only [sm, crn]; rw [← hib]; rfl) (nI_1 i) (by simp only [crs, crn]; rw [← hib]; rfl)
  refine X 200 _ _ _ _ _ _ _ _ _ ?_
  refine Exists.intro 1 (Exists.intro 320 (Exists.intro 320 (And.intro rfl (And.intro rfl (And.intro (Or.inr rfl) (And.intro (by decide) (And.intro (by decide) (And.intro (by decide) (And.intro (by decide) (And.intro (by decide) (And.intro (fun z => absurd z (by decide)) (fun _ => ?_))))))))))))
  exact G 0 (Nat.zero_le _) _ _ _ rfl rfl rfl
/-- paid, drawn and turned back amounts of a day (of D), of the first k -/
def tp1 (A : mI) (B : mB) (vn : Nat → Nat) (D k j : Nat) : Int64 := sm (fun i => if ¬ (A 30 i = 1 ∨ A 30 i = 2) ∧ vn i < D ∧ vn i = j then B 31 i else 0) k
/-- the row behind the first loop's k turns -/
def tpR (A : mI) (B : mB) (vn : Nat → Nat) (D k : Nat) : mB := fun r j => if r = 37 ∧ j < 320 then tp1 A B vn D k j else B r j
/-- the row with its first m places summed up -/
def tpS (A : mI) (B : mB) (vn : Nat → Nat) (D n m : Nat) : mB := fun r j => if r = 37 ∧ j < 320 then (if j < m then sm (tp1 A B vn D n) (j + 1) else tp1 A B vn D n j) else B r j
theorem tpR_0 {A : mI} {B : mB} {vn : Nat → Nat} {D : Nat} : fil B 37 320 0 = tpR A B vn D 0 := by
  funext r j
  rfl
theorem tpR_s {A : mI} {B : mB} {vn : Nat → Nat} {D k : Nat} (h1 : ¬ (A 30 k = 1 ∨ A 30 k = 2)) (h2 : vn k < D) (h3 : D ≤ 320) : up2 (tpR A B vn D k) 37 (vn k) (tpR A B vn D k 37 (vn k) + B 31 k) = tpR A B vn D (k + 1) := by
  funext r j
  show (if r = 37 ∧ j = vn k then (if (37 : Nat) = 37 ∧ vn k < 320 then tp1 A B vn D k (vn k) else B 37 (vn k)) + B 31 k else if r = 37 ∧ j < 320 then tp1 A B vn D k j else B r j) = (if r = 37 ∧ j < 320 then tp1 A B vn D k j + (if ¬ (A 30 k = 1 ∨ A 30 k = 2) ∧ vn k < D ∧ vn k = j then B 31 k else 0) else B r j)
  by_cases hr : r = 37
  · subst hr
    by_cases hj : j = vn k
    · subst hj
      rw [if_pos ⟨rfl, rfl⟩, if_pos ⟨rfl, by omega⟩, if_pos ⟨rfl, by omega⟩, if_pos ⟨h1, h2, rfl⟩]
    · rw [if_neg (fun z => hj z.2), if_neg (c := ¬ (A 30 k = 1 ∨ A 30 k = 2) ∧ vn k < D ∧ vn k = j) (fun z => hj z.2.2.symm), Int64.add_zero]
  · rw [if_neg (fun z => hr z.1), if_neg (fun z => hr z.1), if_neg (fun z => hr z.1)]
theorem tpR_k {A : mI} {B : mB} {vn : Nat → Nat} {D k : Nat} (h : ¬ (¬ (A 30 k = 1 ∨ A 30 k = 2) ∧ vn k < D)) : tpR A B vn D k = tpR A B vn D (k + 1) := by
  funext r j
  simp only [tpR, tp1, sm]
  rw [if_neg (c := ¬ (A 30 k = 1 ∨ A 30 k = 2) ∧ vn k < D ∧ vn k = j) (fun z => h ⟨z.1, z.2.1⟩), Int64.add_zero]
theorem tpS_1 {A : mI} {B : mB} {vn : Nat → Nat} {D n : Nat} : tpR A B vn D n = tpS A B vn D n 1 := by
  funext r j
  simp only [tpR, tpS]
  by_cases h : r = 37 ∧ j < 320
  · rw [if_pos h, if_pos h]
    by_cases hj : j < 1
    · rw [if_pos hj, show j = 0 by omega]
      simp [sm]
    · rw [if_neg hj]
  · rw [if_neg h, if_neg h]
theorem tpS_s {A : mI} {B : mB} {vn : Nat → Nat} {D n m : Nat} (h : 1 + m < 320) : up2 (tpS A B vn D n (1 + m)) 37 (1 + m) (tpS A B vn D n (1 + m) 37 (1 + m) + tpS A B vn D n (1 + m) 37 m) = tpS A B vn D n (1 + m + 1) := by
  have a1 : tpS A B vn D n (1 + m) 37 (1 + m) = tp1 A B vn D n (1 + m) := by
    show (if (37 : Nat) = 37 ∧ 1 + m < 320 then (if 1 + m < 1 + m then sm (tp1 A B vn D n) (1 + m + 1) else tp1 A B vn D n (1 + m)) else B 37 (1 + m)) = _
    rw [if_pos ⟨rfl, h⟩, if_neg (by omega)]
  have a2 : tpS A B vn D n (1 + m) 37 m = sm (tp1 A B vn D n) (m + 1) := by
    show (if (37 : Nat) = 37 ∧ m < 320 then (if m < 1 + m then sm (tp1 A B vn D n) (m + 1) else tp1 A B vn D n m) else B 37 m) = _
    rw [if_pos ⟨rfl, by omega⟩, if_pos (by omega)]
  rw [a1, a2]
  funext r j
  show (if r = 37 ∧ j = 1 + m then tp1 A B vn D n (1 + m) + sm (tp1 A B vn D n) (m + 1) else (if r = 37 ∧ j < 320 then (if j < 1 + m then sm (tp1 A B vn D n) (j + 1) else tp1 A B vn D n j) else B r j)) = (if r = 37 ∧ j < 320 then (if j < 1 + m + 1 then sm (tp1 A B vn D n) (j + 1) else tp1 A B vn D n j) else B r j)
  by_cases hr : r = 37
  · subst hr
    by_cases hj : j = 1 + m
    · subst hj
      rw [if_pos ⟨rfl, rfl⟩, if_pos ⟨rfl, h⟩, if_pos (by omega), show 1 + m + 1 = m + 1 + 1 by omega, show 1 + m = m + 1 by omega, Int64.add_comm]
      rfl
    · rw [if_neg (fun z => hj z.2)]
      by_cases h3 : j < 320
      · rw [if_pos (c := 37 = 37 ∧ j < 320) ⟨rfl, h3⟩, if_pos (c := 37 = 37 ∧ j < 320) ⟨rfl, h3⟩]
        by_cases h4 : j < 1 + m
        · rw [if_pos h4, if_pos (by omega)]
        · rw [if_neg h4, if_neg (by omega)]
      · rw [if_neg (fun z => h3 z.2), if_neg (fun z => h3 z.2)]
  · rw [if_neg (fun z => hr z.1), if_neg (fun z => hr z.1), if_neg (fun z => hr z.1)]
set_option maxRecDepth 20000 in
theorem c_trialPrincipal {J : mJ} (X : mRules J) {I A : mI} {B : mB} {w f : Nat} {R : mR} {n D : Nat} (hn : n ≤ 220) (hz : I 29 6 = nI n) (hD : I 16 4 * I 16 5 = nI D) (hDb : D ≤ 320) {vn : Nat → Nat} (hvn : ∀ j, j < n → A 32 j = nI (vn j) ∧ vn j < 2 ^ 20) (h : R (some (.ref 37)) I A (tpS A B vn D n 320) (pk w f)) : J n_Ledger_trialPrincipal 0 [.ref 16, .float 0, .float 0] [] I A B (pk w f) R := by
  have G2 : ∀ i, i ≤ 319 → ∀ (x : Int32) (v2 : Value) (Bv : mB), x = nI (1 + i) → Bv = tpS A B vn D n (1 + i) → J n_Ledger_trialPrincipal 81 [.ref 16, .int x, v2] [] I A Bv (pk w f) R := by
    refine lpz (fun i => ∀ (x : Int32) (v2 : Value) (Bv : mB), x = nI (1 + i) → Bv = tpS A B vn D n (1 + i) → J n_Ledger_trialPrincipal 81 [.ref 16, .int x, v2] [] I A Bv (pk w f) R) (fun i hi ih => ?_)
    intro x v2 Bv ex eB
    subst ex; subst eB
    refine X 200 _ _ _ _ _ _ _ _ _ ?_
    refine And.intro (fun q1 => ?_) (fun q1 => ?_)
    · have e := lpxo (a := 1) (n := 319) hi (by omega) q1
      subst e
      exact h
    · have hl := lpco (a := 1) (n := 319) hi (by omega) q1
      have hb31 : 1 + i < 2 ^ 31 := by omega
      have hb30 : i < 2 ^ 31 := by omega
      refine Exists.intro _ (And.intro rfl (And.intro (by first | exact vin (by omega) (by omega) | (rw [nIp]; exact vin (by omega) (by omega))) ?_))
      refine Exists.intro _ (And.intro rfl (And.intro (by first | exact vin (by omega) (by omega) | (rw [nIp]; exact vin (by omega) (by omega))) ?_))
      refine Exists.intro _ (And.intro rfl (And.intro (by first | exact vin (by omega) (by omega) | (rw [nIp]; exact vin (by omega) (by omega))) ?_))
      exact ih hl _ _ _ (nI_1 _) (by rw [nIp, cl hb31, cl hb30]; exact tpS_s (by omega))
  have G1 : ∀ i, i ≤ n → ∀ (x : Int32) (v2 : Value) (Bv : mB), x = nI i → Bv = tpR A B vn D i → J n_Ledger_trialPrincipal 10 [.ref 16, .int x, v2] [] I A Bv (pk w f) R := by
    refine lpz (fun i => ∀ (x : Int32) (v2 : Value) (Bv : mB), x = nI i → Bv = tpR A B vn D i → J n_Ledger_trialPrincipal 10 [.ref 16, .int x, v2] [] I A Bv (pk w f) R) (fun i hi ih => ?_)
    intro x v2 Bv ex eB
    subst ex; subst eB
    refine X 200 _ _ _ _ _ _ _ _ _ ?_
    refine And.intro (fun q1 => ?_) (fun q1 => ?_)
    · rw [hz] at q1
      have e := lpx hi (by omega) q1
      subst e
      exact G2 0 (Nat.zero_le _) _ _ _ rfl tpS_1
    · rw [hz] at q1
      have hl := lpc hi (by omega) q1
      refine c_valueOf X hn hz (i := i) rfl hl ?_
      refine c_isInt X hn hl hz (fun z1 => ?_) (fun z1 => ?_)
      · refine And.intro (fun _ => ?_) (fun q => absurd q (by decide))
        exact ih hl _ _ _ (nI_1 i) (tpR_k (fun z => z.1 z1))
      · refine And.intro (fun q => absurd (by decide) q) (fun _ => ?_)
        refine c_isDay X (D := D) (by omega) hD (fun k hk ek => ?_) (fun z2 => ?_)
        · refine And.intro (fun q => absurd q (by decide)) (fun _ => ?_)
          refine And.intro (fun q2 => ?_) (fun q2 => ?_)
          · exact absurd q2 (by rw [ek]; exact nI_ge (b := 320) (by omega) (by omega)) --end
          · refine Exists.intro _ (And.intro rfl (And.intro (by rw [ek]; exact vin (by omega) (by omega)) ?_))
            refine c_amountOf X hn hz (i := i) rfl hl ?_
            refine Exists.intro _ (And.intro rfl (And.intro (by rw [ek]; exact vin (by omega) (by omega)) ?_))
            have e2 : k = vn i := (nI_eq (by omega) (by have := (hvn i hl).2; omega)).mp (ek.symm.trans (hvn i hl).1)
            subst e2
            exact ih hl _ _ _ (nI_1 i) (by rw [(hvn i hl).1, cl (by omega)]; exact tpR_s z1 hk hDb)
        · refine And.intro (fun _ => ?_) (fun q => absurd (by decide) q)
          exact ih hl _ _ _ (nI_1 i) (tpR_k (fun z => z2 (vn i) z.2 (hvn i hl).1))
  refine X 200 _ _ _ _ _ _ _ _ _ ?_
  refine c_fill37 X ?_
  exact G1 0 (Nat.zero_le _) _ _ _ rfl tpR_0
end
section
/-! contracts: settled, ideal, moved, searches (written by wip/whole/gc9.py) -/
/-- the row, behind m payments -/
def shs (B : mB) (P D dy : Nat) (am : Int64) : Nat → mB
  | 0 => B
  | i + 1 => shf (shs B P D dy am i) 37 (dy + i * P) am (D - (dy + i * P))
/-- the row, behind k periods' interest -/
def cps (A : mI) (nt P D K : Nat) (B : mB) : Nat → mB
  | 0 => B
  | p + 1 => shf (cps A nt P D K B p) 37 (cmp_ P K p) (nea (pds A (cps A nt P D K B p) nt 37 P p 0 0)) (D - cmp_ P K p)
theorem shf_b {B : mB} {q lo n r : Nat} {a : Int64} (h : r ≠ q) : shf B q lo a n r = B r := by
  funext j
  simp only [shf]
  rw [if_neg (fun z => h z.1)]
theorem shs_b {B : mB} {P D dy : Nat} {am : Int64} : ∀ {m r : Nat}, r ≠ 37 → shs B P D dy am m r = B r
  | 0, r, h => rfl
  | m + 1, r, h => by rw [shs, shf_b h, shs_b h]
theorem cps_b {A : mI} {nt P D K : Nat} {B : mB} : ∀ {k r : Nat}, r ≠ 37 → cps A nt P D K B k r = B r
  | 0, r, h => rfl
  | k + 1, r, h => by rw [cps, shf_b h, cps_b h]
theorem tpS_b {A : mI} {B : mB} {vn : Nat → Nat} {D n m r : Nat} (h : r ≠ 37) : tpS A B vn D n m r = B r := by
  funext j
  simp only [tpS]
  rw [if_neg (fun z => h z.1)]
/-- paid, drawn and turned back in all -/
def sop (A : mI) (B : mB) (n : Nat) : Int64 := sm (fun j => if A 30 j = 1 ∨ A 30 j = 2 then 0 else B 31 j) n
theorem sop_c {A : mI} {B B' : mB} {n : Nat} (h : B' 31 = B 31) : sop A B' n = sop A B n := by simp only [sop, h]
/-- the row of what is paid, drawn and turned back, with m payments more -/
def plr (A : mI) (B : mB) (vn : Nat → Nat) (P D n dy m : Nat) (am : Int64) : mB := shs (tpS A B vn D n 320) P D dy am m
theorem plr_b {A : mI} {B : mB} {vn : Nat → Nat} {P D n dy m r : Nat} {am : Int64} (h : r ≠ 37) : plr A B vn P D n dy m am r = B r := by rw [plr, shs_b h, tpS_b h]
def stl (A : mI) (B : mB) (vn : Nat → Nat) (nt P D K N n dy m : Nat) (am : Int32) : Int64 := sop A B n + (nI m).toInt64 * am.toInt64 + sm (fun p => nea (pds A (cps A nt P D K (plr A B vn P D n dy m am.toInt64) p) nt 37 P p 0 0)) N
set_option maxRecDepth 20000 in
theorem c_settlementWith {J : mJ} (X : mRules J) {I A : mI} {B : mB} {w f : Nat} {R : mR} {nt P N : Nat} (hnt : nt ≤ 4) (hI : I 17 4 = nI nt) (hP : I 16 4 = nI P) (hN : I 16 5 = nI N) (hb : N * P ≤ 320) (hN8 : N ≤ 320) {n : Nat} (hn : n ≤ 220) (hz : I 29 6 = nI n) {K D : Nat} (hK : I 16 6 = nI K) (hK1 : 1 ≤ K) (hK4 : K ≤ 4) (hD : I 16 4 * I 16 5 = nI D) (hDb : D ≤ 320) (hP40 : P ≤ 40) {vn : Nat → Nat} (hvn : ∀ j, j < n → A 32 j = nI (vn j) ∧ vn j < 2 ^ 20) {xd am : Int32} {dy m : Nat} (exd : xd = nI dy) (hdy : dy < 2 ^ 10) (hm8 : m ≤ 8) (h : R (some (.long (stl A B vn nt P D K N n dy m am))) I A (cps A nt P D K (plr A B vn P D n dy m am.toInt64) N) (pk w f)) : J n_WhatIf_settlementWith 0 [.ref 39, .int xd, .int (nI m), .int am, .float 0, .float 0, .float 0, .float 0] [] I A B (pk w f) R := by
  have G2 : ∀ i, i ≤ N → ∀ (s : Int64) (x : Int32) (Bv : mB), s = sop A B n + (nI m).toInt64 * am.toInt64 + sm (fun p => nea (pds A (cps A nt P D K (plr A B vn P D n dy m am.toInt64) p) nt 37 P p 0 0)) i → x = nI i → Bv = cps A nt P D K (plr A B vn P D n dy m am.toInt64) i → J n_WhatIf_settlementWith 65 [.ref 39, .int xd, .int (nI m), .int am, .ref 37, .long s, .float 0, .int x] [] I A Bv (pk w f) R := by
    refine lpz (fun i => ∀ (s : Int64) (x : Int32) (Bv : mB), s = sop A B n + (nI m).toInt64 * am.toInt64 + sm (fun p => nea (pds A (cps A nt P D K (plr A B vn P D n dy m am.toInt64) p) nt 37 P p 0 0)) i → x = nI i → Bv = cps A nt P D K (plr A B vn P D n dy m am.toInt64) i → J n_WhatIf_settlementWith 65 [.ref 39, .int xd, .int (nI m), .int am, .ref 37, .long s, .float 0, .int x] [] I A Bv (pk w f) R) (fun i hi ih => ?_)
    intro s x Bv es ex eBv
    subst es; subst ex; subst eBv
    refine X 200 _ _ _ _ _ _ _ _ _ ?_
    refine And.intro (fun q1 => ?_) (fun q1 => ?_)
    · rw [hN] at q1
      have e := lpx hi (by omega) q1
      subst e
      exact h
    · rw [hN] at q1
      have hl := lpc hi (by omega) q1
      have hm : i * P + P ≤ 320 := by have := Nat.mul_le_mul_right P (show i + 1 ≤ N by omega); rw [Nat.add_mul, Nat.one_mul] at this; omega
      have hcd : I 16 4 * I 16 6 * (nI i / I 16 6 + 1) = nI (cmp_ P K i) := by
        rw [hP, hK, pk_mul, pk_div (by omega) (by omega) (by omega), nI_1, pk_mul]
        rfl
      have hcv : cmp_ P K i < 2 ^ 20 := by
        have h1 : P * K ≤ 160 := Nat.le_trans (Nat.mul_le_mul hP40 hK4) (by omega)
        have h2 : i / K + 1 ≤ 321 := by have := Nat.div_le_self i K; omega
        have := Nat.mul_le_mul h1 h2
        unfold cmp_
        omega
      refine c_productsOf37 X hnt hI hP (p := i) rfl hm ?_
      refine c_nearest X ?_
      refine c_compDay X ?_ (by rw [hK]; exact nI_nlt (b := 1) hK1 (by omega))
      refine c_shift37 X (v := cmp_ P K i) hD hDb hcd hcv ?_
      exact ih hl _ _ _ (Int64.add_assoc _ _ _) (nI_1 i) rfl
  have G1 : ∀ i, i ≤ m → ∀ (x : Int32) (Bv : mB), x = nI i → Bv = shs (tpS A B vn D n 320) P D dy am.toInt64 i → J n_WhatIf_settlementWith 12 [.ref 39, .int xd, .int (nI m), .int am, .ref 37, .int x, .float 0, .float 0] [] I A Bv (pk w f) R := by
    refine lpz (fun i => ∀ (x : Int32) (Bv : mB), x = nI i → Bv = shs (tpS A B vn D n 320) P D dy am.toInt64 i → J n_WhatIf_settlementWith 12 [.ref 39, .int xd, .int (nI m), .int am, .ref 37, .int x, .float 0, .float 0] [] I A Bv (pk w f) R) (fun i hi ih => ?_)
    intro x Bv ex eBv
    subst ex; subst eBv
    refine X 200 _ _ _ _ _ _ _ _ _ ?_
    refine And.intro (fun q1 => ?_) (fun q1 => ?_)
    · have e := lpx hi (by omega) q1
      subst e
      have hsb : sop A (shs (tpS A B vn D n 320) P D dy am.toInt64 i) n = sop A B n := sop_c (plr_b (by decide))
      refine c_sumOfPrincipal X hn hz ?_
      exact G2 0 (Nat.zero_le _) _ _ _ (by show sop _ _ _ + _ = _; rw [hsb]; exact (Int64.add_zero _).symm) rfl rfl
    · have hl := lpc hi (by omega) q1
      have hdx : xd + nI i * I 16 4 = nI (dy + i * P) := by rw [exd, hP, pk_mul, nI_add]
      have hdv : dy + i * P < 2 ^ 20 := by
        have := Nat.mul_le_mul (show i ≤ 8 by omega) hP40
        omega
      refine c_shift37 X (v := dy + i * P) hD hDb hdx hdv ?_
      exact ih hl _ _ (nI_1 i) rfl
  refine X 200 _ _ _ _ _ _ _ _ _ ?_
  refine c_trialPrincipal X hn hz hD hDb hvn ?_
  exact G1 0 (Nat.zero_le _) _ _ rfl rfl
set_option maxRecDepth 20000 in
theorem c_idealInterest {J : mJ} (X : mRules J) {I A : mI} {B : mB} {w f : Nat} {R : mR} {nt P N : Nat} (hnt : nt ≤ 4) (hI : I 17 4 = nI nt) (hP : I 16 4 = nI P) (hN : I 16 5 = nI N) (hb : N * P ≤ 320) (hN8 : N ≤ 320) {n : Nat} (hn : n ≤ 220) (hz : I 29 6 = nI n) {K D : Nat} (hK : I 16 6 = nI K) (hK1 : 1 ≤ K) (hK4 : K ≤ 4) (hD : I 16 4 * I 16 5 = nI D) (hDb : D ≤ 320) (hP40 : P ≤ 40) {vn : Nat → Nat} (hvn : ∀ j, j < n → A 32 j = nI (vn j) ∧ vn j < 2 ^ 20) {xp : Int32} {p : Nat} (exp : xp = nI p) (hp : p < N) (h : R (some (.long (nea (pds A (cps A nt P D K (tpS A B vn D n 320) p) nt 37 P p 0 0)))) I A (cps A nt P D K (tpS A B vn D n 320) p) (pk w f)) : J n_WhatIf_idealInterest 0 [.ref 39, .int xp, .float 0, .float 0] [] I A B (pk w f) R := by
  subst exp
  have G : ∀ i, i ≤ p → ∀ (x : Int32) (Bv : mB), x = nI i → Bv = cps A nt P D K (tpS A B vn D n 320) i → J n_WhatIf_idealInterest 10 [.ref 39, .int (nI p), .ref 37, .int x] [] I A Bv (pk w f) R := by
    refine lpz (fun i => ∀ (x : Int32) (Bv : mB), x = nI i → Bv = cps A nt P D K (tpS A B vn D n 320) i → J n_WhatIf_idealInterest 10 [.ref 39, .int (nI p), .ref 37, .int x] [] I A Bv (pk w f) R) (fun i hi ih => ?_)
    intro x Bv ex eBv
    subst ex; subst eBv
    refine X 200 _ _ _ _ _ _ _ _ _ ?_
    refine And.intro (fun q1 => ?_) (fun q1 => ?_)
    · have e := lpx hi (by omega) q1
      subst e
      have hm : i * P + P ≤ 320 := by have := Nat.mul_le_mul_right P (show i + 1 ≤ N by omega); rw [Nat.add_mul, Nat.one_mul] at this; omega
      refine c_productsOf37 X hnt hI hP (p := i) rfl hm ?_
      refine c_nearest X ?_
      exact h
    · have hl := lpc hi (by omega) q1
      have hm : i * P + P ≤ 320 := by have := Nat.mul_le_mul_right P (show i + 1 ≤ N by omega); rw [Nat.add_mul, Nat.one_mul] at this; omega
      have hcd : I 16 4 * I 16 6 * (nI i / I 16 6 + 1) = nI (cmp_ P K i) := by
        rw [hP, hK, pk_mul, pk_div (by omega) (by omega) (by omega), nI_1, pk_mul]
        rfl
      have hcv : cmp_ P K i < 2 ^ 20 := by
        have h1 : P * K ≤ 160 := Nat.le_trans (Nat.mul_le_mul hP40 hK4) (by omega)
        have h2 : i / K + 1 ≤ 321 := by have := Nat.div_le_self i K; omega
        have := Nat.mul_le_mul h1 h2
        unfold cmp_
        omega
      refine c_productsOf37 X hnt hI hP (p := i) rfl hm ?_
      refine c_nearest X ?_
      refine c_compDay X ?_ (by rw [hK]; exact nI_nlt (b := 1) hK1 (by omega))
      refine c_shift37 X (v := cmp_ P K i) hD hDb hcd hcv ?_
      exact ih hl _ _ (nI_1 i) rfl
  refine X 200 _ _ _ _ _ _ _ _ _ ?_
  refine c_trialPrincipal X hn hz hD hDb hvn ?_
  exact G 0 (Nat.zero_le _) _ _ rfl rfl
/-- the balances without an entry, on the row to try on -/
def wob (A : mI) (B : mB) (vn : Nat → Nat) (D e : Nat) : mB := shf (tbl B) 37 (vn e) (-(B 31 e)) (D - vn e)
theorem tbl_b {B : mB} {r : Nat} (h : r ≠ 37) : tbl B r = B r := by
  funext j
  simp [tbl, up1, h]
theorem wob_b {A : mI} {B : mB} {vn : Nat → Nat} {D e r : Nat} (h : r ≠ 37) : wob A B vn D e r = B r := by rw [wob, shf_b h, tbl_b h]
theorem alb_c {A : mI} {B B' : mB} {nt q P N : Nat} {fr : Int32} {mo : Int64} (h : B' q = B q) : alb A B' nt q P N fr mo = alb A B nt q P N fr mo := by simp only [alb, pds, h]
set_option maxRecDepth 20000 in
theorem c_gainByMoving {J : mJ} (X : mRules J) {I A : mI} {B : mB} {w f : Nat} {R : mR} {nt P N : Nat} (hnt : nt ≤ 4) (hI : I 17 4 = nI nt) (hP : I 16 4 = nI P) (hN : I 16 5 = nI N) (hb : N * P ≤ 320) (hN8 : N ≤ 320) {n : Nat} (hn : n ≤ 220) (hz : I 29 6 = nI n) {D : Nat} (hD : I 16 4 * I 16 5 = nI D) (hDb : D ≤ 320) {vn : Nat → Nat} (hvn : ∀ j, j < n → A 32 j = nI (vn j) ∧ vn j < 2 ^ 20) {xe : Int32} {e0 : Nat} (exe : xe = nI e0) (he : e0 < n) {dy : Int32} (h : R (some (.long (alb A (wob A B vn D e0) nt 37 P N dy (B 31 e0) - alb A B nt 36 P N 0 0))) I A (wob A B vn D e0) (pk w f)) : J n_WhatIf_gainByMoving 0 [.ref 39, .int xe, .int dy, .float 0] [] I A B (pk w f) R := by
  refine X 200 _ _ _ _ _ _ _ _ _ ?_
  refine Exists.intro 1 (Exists.intro 320 (Exists.intro 320 (And.intro rfl (And.intro rfl (And.intro (Or.inr rfl) (And.intro (by decide) (And.intro (by decide) (And.intro (by decide) (And.intro (by decide) (And.intro (by decide) (And.intro (fun z => absurd z (by decide)) (fun _ => ?_))))))))))))
  refine c_valueOf X hn hz (i := e0) exe he ?_
  refine c_amountOf X hn hz (i := e0) exe he ?_
  refine c_shift37 X (v := vn e0) hD hDb (hvn e0 he).1 (hvn e0 he).2 ?_
  refine c_amountOf X hn hz (i := e0) exe he ?_
  refine c_allBy37 X hnt hI hP hN hb hN8 ?_
  refine c_allBy36 X hnt hI hP hN hb hN8 ?_
  have e1 : (wob A B vn D e0) 31 = B 31 := wob_b (by decide)
  have e2 : alb A (wob A B vn D e0) nt 36 P N 0 0 = alb A B nt 36 P N 0 0 := alb_c (wob_b (by decide))
  rw [← e1, ← e2] at h
  exact h
/-- by halves: the greatest that is too little -/
def hvs (c : Nat → Bool) (M : Nat) : Nat → Nat → Nat
  | 0, t => t
  | k + 1, t => hvs c M k (if t + 2 ^ k ≤ M ∧ c (t + 2 ^ k) = true then t + 2 ^ k else t)
def hvo (M t : Nat) : Int32 := if t < M then nI (t + 1) else -1
theorem bit_s : ∀ k, k < 17 → nI (2 ^ (k + 1) / 2) >>> ((1 : Int32) &&& 31) = nI (2 ^ k / 2) := by decide
theorem bit_h {k : Nat} : 2 ^ (k + 1) / 2 = 2 ^ k := by rw [Nat.pow_succ]; omega
theorem bit_b : ∀ k, k < 17 → 2 ^ k ≤ 65536 := by decide
theorem bit_1 {k : Nat} : 1 ≤ 2 ^ k := Nat.one_le_two_pow
set_option maxRecDepth 20000 in
theorem c_leastFor {J : mJ} (X : mRules J) {I A : mI} {B : mB} {w f : Nat} {R : mR} {nt P N : Nat} (hnt : nt ≤ 4) (hI : I 17 4 = nI nt) (hP : I 16 4 = nI P) (hN : I 16 5 = nI N) (hbb : N * P ≤ 320) (hN8 : N ≤ 320) {dy g : Int32} (h : R (some (.int (hvo 99999 (hvs (fun a => decide (alb A B nt 36 P N dy (nI a).toInt64 < alb A B nt 36 P N 0 0 + g.toInt64)) 99999 17 0)))) I A B (pk w f)) : J n_WhatIf_leastFor 0 [.ref 39, .int dy, .int g, .float 0, .float 0, .float 0, .float 0, .float 0] [] I A B (pk w f) R := by
  have G : ∀ k i, i + k = 17 → ∀ (t : Nat) (x : Int32) (b : Int32) (s : Int64) (v : Value), x = nI t → b = nI (2 ^ k / 2) → s = alb A B nt 36 P N 0 0 + g.toInt64 → t ≤ 99999 → R (some (.int (hvo 99999 (hvs (fun a => decide (alb A B nt 36 P N dy (nI a).toInt64 < alb A B nt 36 P N 0 0 + g.toInt64)) 99999 k t)))) I A B (pk w f) → J n_WhatIf_leastFor 18 [.ref 39, .int dy, .int g, .long s, .float 0, .int x, .int b, v] [] I A B (pk w f) R := by
    refine lpk (fun i k => ∀ (t : Nat) (x : Int32) (b : Int32) (s : Int64) (v : Value), x = nI t → b = nI (2 ^ k / 2) → s = alb A B nt 36 P N 0 0 + g.toInt64 → t ≤ 99999 → R (some (.int (hvo 99999 (hvs (fun a => decide (alb A B nt 36 P N dy (nI a).toInt64 < alb A B nt 36 P N 0 0 + g.toInt64)) 99999 k t)))) I A B (pk w f) → J n_WhatIf_leastFor 18 [.ref 39, .int dy, .int g, .long s, .float 0, .int x, .int b, v] [] I A B (pk w f) R) (fun i k hi ih => ?_)
    intro t x b s v ex eb es hb hr
    subst ex; subst eb; subst es
    refine X 200 _ _ _ _ _ _ _ _ _ ?_
    refine And.intro (fun q1 => ?_) (fun q1 => ?_)
    · have e : k = 0 := by
        rcases Nat.eq_zero_or_pos k with z | z
        · exact z
        · obtain ⟨k, rfl⟩ : ∃ k0, k = k0 + 1 := ⟨k - 1, by omega⟩
          rw [bit_h] at q1
          have hk17 := bit_b k (by omega)
          have := bit_1 (k := k)
          exact absurd q1 (Int32.not_le.mpr (nI_0 ▸ nI_lt (show 0 < 2 ^ k by omega) (by omega)))
      subst e
      refine And.intro (fun q2 => ?_) (fun q2 => ?_)
      · have e : hvo 99999 t = -1 := by
          show (if t < 99999 then nI (t + 1) else -1) = _
          rw [if_neg (by have := (nI_leI (a := 99999) (b := t) (by omega) (by omega)).mp q2; omega)]
        have hr2 := hr
        simp only [hvs, e] at hr2
        exact hr2
      · have e : hvo 99999 t = nI t + 1 := by
          show (if t < 99999 then nI (t + 1) else -1) = _
          rw [if_pos (Nat.lt_of_not_le (fun z => q2 (nI_le (a := 99999) (b := t) z (by omega)))), nI_1]
        have hr2 := hr
        simp only [hvs, e] at hr2
        exact hr2
    · obtain ⟨k, rfl⟩ : ∃ k0, k = k0 + 1 := by
        rcases Nat.eq_zero_or_pos k with z | z
        · subst z
          exact absurd (show nI (2 ^ 0 / 2) ≤ 0 by decide) q1
        · exact ⟨k - 1, by omega⟩
      have hk17 : k < 17 := by omega
      have hk16 := bit_b k hk17
      have hx : nI t + nI (2 ^ (k + 1) / 2) = nI (t + 2 ^ k) := by rw [bit_h, nI_add]
      refine And.intro (fun q3 => ?_) (fun q3 => ?_)
      · rw [hx] at q3
        have e : hvs (fun a => decide (alb A B nt 36 P N dy (nI a).toInt64 < alb A B nt 36 P N 0 0 + g.toInt64)) 99999 (k + 1) t = hvs (fun a => decide (alb A B nt 36 P N dy (nI a).toInt64 < alb A B nt 36 P N 0 0 + g.toInt64)) 99999 k t := by
          show hvs (fun a => decide (alb A B nt 36 P N dy (nI a).toInt64 < alb A B nt 36 P N 0 0 + g.toInt64)) 99999 k (if t + 2 ^ k ≤ 99999 ∧ (fun a => decide (alb A B nt 36 P N dy (nI a).toInt64 < alb A B nt 36 P N 0 0 + g.toInt64)) (t + 2 ^ k) = true then t + 2 ^ k else t) = _
          rw [if_neg (fun z => absurd z.1 (by have := (nI_ltI (a := 99999) (b := t + 2 ^ k) (by omega) (by omega)).mp q3; omega))]
        rw [e] at hr
        exact ih k rfl (t) _ _ _ _ rfl (bit_s k hk17) rfl hb hr
      · rw [hx] at q3
        have htop : t + 2 ^ k ≤ 99999 := by
          rcases Nat.lt_or_ge 99999 (t + 2 ^ k) with z | z
          · exact absurd (nI_lt (a := 99999) (b := t + 2 ^ k) z (by omega)) q3
          · exact z
        refine c_allBy36 X hnt hI hP hN hbb hN8 ?_
        refine And.intro (fun q4 => ?_) (fun q4 => ?_)
        · rw [hx] at q4
          have e : hvs (fun a => decide (alb A B nt 36 P N dy (nI a).toInt64 < alb A B nt 36 P N 0 0 + g.toInt64)) 99999 (k + 1) t = hvs (fun a => decide (alb A B nt 36 P N dy (nI a).toInt64 < alb A B nt 36 P N 0 0 + g.toInt64)) 99999 k t := by
            show hvs (fun a => decide (alb A B nt 36 P N dy (nI a).toInt64 < alb A B nt 36 P N 0 0 + g.toInt64)) 99999 k (if t + 2 ^ k ≤ 99999 ∧ (fun a => decide (alb A B nt 36 P N dy (nI a).toInt64 < alb A B nt 36 P N 0 0 + g.toInt64)) (t + 2 ^ k) = true then t + 2 ^ k else t) = _
            rw [if_neg (fun z => absurd (of_decide_eq_true z.2) (Int64.not_lt.mpr q4))]
          rw [e] at hr
          exact ih k rfl (t) _ _ _ _ rfl (bit_s k hk17) rfl hb hr
        · rw [hx] at q4
          have e : hvs (fun a => decide (alb A B nt 36 P N dy (nI a).toInt64 < alb A B nt 36 P N 0 0 + g.toInt64)) 99999 (k + 1) t = hvs (fun a => decide (alb A B nt 36 P N dy (nI a).toInt64 < alb A B nt 36 P N 0 0 + g.toInt64)) 99999 k (t + 2 ^ k) := by
            show hvs (fun a => decide (alb A B nt 36 P N dy (nI a).toInt64 < alb A B nt 36 P N 0 0 + g.toInt64)) 99999 k (if t + 2 ^ k ≤ 99999 ∧ (fun a => decide (alb A B nt 36 P N dy (nI a).toInt64 < alb A B nt 36 P N 0 0 + g.toInt64)) (t + 2 ^ k) = true then t + 2 ^ k else t) = _
            rw [if_pos ⟨htop, decide_eq_true (Int64.not_le.mp q4)⟩]
          rw [e] at hr
          exact ih k rfl (t + 2 ^ k) _ _ _ _ hx (bit_s k hk17) rfl htop hr
  refine X 200 _ _ _ _ _ _ _ _ _ ?_
  refine c_allBy36 X hnt hI hP hN hbb hN8 ?_
  exact G 17 0 rfl 0 _ _ _ _ rfl rfl rfl (by omega) h
set_option maxRecDepth 20000 in
theorem c_leastTilt {J : mJ} (X : mRules J) {I A : mI} {B : mB} {w f : Nat} {R : mR} {nt P N : Nat} (hnt : nt ≤ 4) (hI : I 17 4 = nI nt) (hP : I 16 4 = nI P) (hN : I 16 5 = nI N) (hbb : N * P ≤ 320) (hN8 : N ≤ 320) {t0 : Nat} (ht : t0 < 4) {g : Int32} (h : R (some (.int (hvo 5000 (hvs (fun a => decide (sm (fun p => nea (pds A B nt 36 P p 0 0 + sm (fun j => tlo A B t0 (nI a) (p * P + j)) P) - nea (pds A B nt 36 P p 0 0)) N < g.toInt64)) 5000 13 0)))) I A B (pk w f)) : J n_WhatIf_leastTilt 0 [.ref 39, .int (nI t0), .int g, .float 0, .float 0, .float 0] [] I A B (pk w f) R := by
  have G : ∀ k i, i + k = 13 → ∀ (t : Nat) (x : Int32) (b : Int32) (v : Value), x = nI t → b = nI (2 ^ k / 2) → t ≤ 5000 → R (some (.int (hvo 5000 (hvs (fun a => decide (sm (fun p => nea (pds A B nt 36 P p 0 0 + sm (fun j => tlo A B t0 (nI a) (p * P + j)) P) - nea (pds A B nt 36 P p 0 0)) N < g.toInt64)) 5000 k t)))) I A B (pk w f) → J n_WhatIf_leastTilt 7 [.ref 39, .int (nI t0), .int g, .int x, .int b, v] [] I A B (pk w f) R := by
    refine lpk (fun i k => ∀ (t : Nat) (x : Int32) (b : Int32) (v : Value), x = nI t → b = nI (2 ^ k / 2) → t ≤ 5000 → R (some (.int (hvo 5000 (hvs (fun a => decide (sm (fun p => nea (pds A B nt 36 P p 0 0 + sm (fun j => tlo A B t0 (nI a) (p * P + j)) P) - nea (pds A B nt 36 P p 0 0)) N < g.toInt64)) 5000 k t)))) I A B (pk w f) → J n_WhatIf_leastTilt 7 [.ref 39, .int (nI t0), .int g, .int x, .int b, v] [] I A B (pk w f) R) (fun i k hi ih => ?_)
    intro t x b v ex eb hb hr
    subst ex; subst eb
    refine X 200 _ _ _ _ _ _ _ _ _ ?_
    refine And.intro (fun q1 => ?_) (fun q1 => ?_)
    · have e : k = 0 := by
        rcases Nat.eq_zero_or_pos k with z | z
        · exact z
        · obtain ⟨k, rfl⟩ : ∃ k0, k = k0 + 1 := ⟨k - 1, by omega⟩
          rw [bit_h] at q1
          have hk17 := bit_b k (by omega)
          have := bit_1 (k := k)
          exact absurd q1 (Int32.not_le.mpr (nI_0 ▸ nI_lt (show 0 < 2 ^ k by omega) (by omega)))
      subst e
      refine And.intro (fun q2 => ?_) (fun q2 => ?_)
      · have e : hvo 5000 t = -1 := by
          show (if t < 5000 then nI (t + 1) else -1) = _
          rw [if_neg (by have := (nI_leI (a := 5000) (b := t) (by omega) (by omega)).mp q2; omega)]
        have hr2 := hr
        simp only [hvs, e] at hr2
        exact hr2
      · have e : hvo 5000 t = nI t + 1 := by
          show (if t < 5000 then nI (t + 1) else -1) = _
          rw [if_pos (Nat.lt_of_not_le (fun z => q2 (nI_le (a := 5000) (b := t) z (by omega)))), nI_1]
        have hr2 := hr
        simp only [hvs, e] at hr2
        exact hr2
    · obtain ⟨k, rfl⟩ : ∃ k0, k = k0 + 1 := by
        rcases Nat.eq_zero_or_pos k with z | z
        · subst z
          exact absurd (show nI (2 ^ 0 / 2) ≤ 0 by decide) q1
        · exact ⟨k - 1, by omega⟩
      have hk17 : k < 17 := by omega
      have hk16 := bit_b k hk17
      have hx : nI t + nI (2 ^ (k + 1) / 2) = nI (t + 2 ^ k) := by rw [bit_h, nI_add]
      refine And.intro (fun q3 => ?_) (fun q3 => ?_)
      · rw [hx] at q3
        have e : hvs (fun a => decide (sm (fun p => nea (pds A B nt 36 P p 0 0 + sm (fun j => tlo A B t0 (nI a) (p * P + j)) P) - nea (pds A B nt 36 P p 0 0)) N < g.toInt64)) 5000 (k + 1) t = hvs (fun a => decide (sm (fun p => nea (pds A B nt 36 P p 0 0 + sm (fun j => tlo A B t0 (nI a) (p * P + j)) P) - nea (pds A B nt 36 P p 0 0)) N < g.toInt64)) 5000 k t := by
          show hvs (fun a => decide (sm (fun p => nea (pds A B nt 36 P p 0 0 + sm (fun j => tlo A B t0 (nI a) (p * P + j)) P) - nea (pds A B nt 36 P p 0 0)) N < g.toInt64)) 5000 k (if t + 2 ^ k ≤ 5000 ∧ (fun a => decide (sm (fun p => nea (pds A B nt 36 P p 0 0 + sm (fun j => tlo A B t0 (nI a) (p * P + j)) P) - nea (pds A B nt 36 P p 0 0)) N < g.toInt64)) (t + 2 ^ k) = true then t + 2 ^ k else t) = _
          rw [if_neg (fun z => absurd z.1 (by have := (nI_ltI (a := 5000) (b := t + 2 ^ k) (by omega) (by omega)).mp q3; omega))]
        rw [e] at hr
        exact ih k rfl (t) _ _ _ rfl (bit_s k hk17) hb hr
      · rw [hx] at q3
        have htop : t + 2 ^ k ≤ 5000 := by
          rcases Nat.lt_or_ge 5000 (t + 2 ^ k) with z | z
          · exact absurd (nI_lt (a := 5000) (b := t + 2 ^ k) z (by omega)) q3
          · exact z
        refine c_gainByTilt X hnt hI hP hN hbb hN8 ht ?_
        refine And.intro (fun q4 => ?_) (fun q4 => ?_)
        · rw [hx] at q4
          have e : hvs (fun a => decide (sm (fun p => nea (pds A B nt 36 P p 0 0 + sm (fun j => tlo A B t0 (nI a) (p * P + j)) P) - nea (pds A B nt 36 P p 0 0)) N < g.toInt64)) 5000 (k + 1) t = hvs (fun a => decide (sm (fun p => nea (pds A B nt 36 P p 0 0 + sm (fun j => tlo A B t0 (nI a) (p * P + j)) P) - nea (pds A B nt 36 P p 0 0)) N < g.toInt64)) 5000 k t := by
            show hvs (fun a => decide (sm (fun p => nea (pds A B nt 36 P p 0 0 + sm (fun j => tlo A B t0 (nI a) (p * P + j)) P) - nea (pds A B nt 36 P p 0 0)) N < g.toInt64)) 5000 k (if t + 2 ^ k ≤ 5000 ∧ (fun a => decide (sm (fun p => nea (pds A B nt 36 P p 0 0 + sm (fun j => tlo A B t0 (nI a) (p * P + j)) P) - nea (pds A B nt 36 P p 0 0)) N < g.toInt64)) (t + 2 ^ k) = true then t + 2 ^ k else t) = _
            rw [if_neg (fun z => absurd (of_decide_eq_true z.2) (Int64.not_lt.mpr q4))]
          rw [e] at hr
          exact ih k rfl (t) _ _ _ rfl (bit_s k hk17) hb hr
        · rw [hx] at q4
          have e : hvs (fun a => decide (sm (fun p => nea (pds A B nt 36 P p 0 0 + sm (fun j => tlo A B t0 (nI a) (p * P + j)) P) - nea (pds A B nt 36 P p 0 0)) N < g.toInt64)) 5000 (k + 1) t = hvs (fun a => decide (sm (fun p => nea (pds A B nt 36 P p 0 0 + sm (fun j => tlo A B t0 (nI a) (p * P + j)) P) - nea (pds A B nt 36 P p 0 0)) N < g.toInt64)) 5000 k (t + 2 ^ k) := by
            show hvs (fun a => decide (sm (fun p => nea (pds A B nt 36 P p 0 0 + sm (fun j => tlo A B t0 (nI a) (p * P + j)) P) - nea (pds A B nt 36 P p 0 0)) N < g.toInt64)) 5000 k (if t + 2 ^ k ≤ 5000 ∧ (fun a => decide (sm (fun p => nea (pds A B nt 36 P p 0 0 + sm (fun j => tlo A B t0 (nI a) (p * P + j)) P) - nea (pds A B nt 36 P p 0 0)) N < g.toInt64)) (t + 2 ^ k) = true then t + 2 ^ k else t) = _
            rw [if_pos ⟨htop, decide_eq_true (Int64.not_le.mp q4)⟩]
          rw [e] at hr
          exact ih k rfl (t + 2 ^ k) _ _ _ hx (bit_s k hk17) htop hr
  refine X 200 _ _ _ _ _ _ _ _ _ ?_
  exact G 13 0 rfl 0 _ _ _ rfl rfl (by omega) h
theorem tpR_c {A : mI} {B B' : mB} {vn : Nat → Nat} {D k : Nat} (h : ∀ r, r ≠ 37 → B' r = B r) {j : Nat} (hj : j < 320) : tpS A B' vn D k 320 37 j = tpS A B vn D k 320 37 j := by
  have e : tp1 A B' vn D k = tp1 A B vn D k := by
    funext i
    simp only [tp1, h 31 (by decide)]
  simp only [tpS, e, hj, and_self, if_true]
theorem pds_c {A : mI} {B B' : mB} {nt q P p : Nat} {fr : Int32} {mo : Int64} (hp : p * P + P ≤ 320) (h : ∀ j, j < 320 → B' q j = B q j) : pds A B' nt q P p fr mo = pds A B nt q P p fr mo := by
  simp only [pds]
  exact sm_congr (fun i hi => by rw [h (p * P + i) (by omega)])
theorem shf_c {B B' : mB} {q lo n : Nat} {a : Int64} (h : ∀ j, j < 320 → B' q j = B q j) : ∀ j, j < 320 → shf B' q lo a n q j = shf B q lo a n q j := fun j hj => by
  simp only [shf, h j hj]
theorem shs_c {B B' : mB} {P D dy : Nat} {am : Int64} (h : ∀ j, j < 320 → B' 37 j = B 37 j) : ∀ m j, j < 320 → shs B' P D dy am m 37 j = shs B P D dy am m 37 j
  | 0 => h
  | m + 1 => shf_c (shs_c h m)
theorem cps_c {A : mI} {nt P D K : Nat} {B B' : mB} (h : ∀ j, j < 320 → B' 37 j = B 37 j) : ∀ k, k * P ≤ 320 → ∀ j, j < 320 → cps A nt P D K B' k 37 j = cps A nt P D K B k 37 j
  | 0, _ => h
  | k + 1, hk => by
    rw [Nat.add_mul, Nat.one_mul] at hk
    have := cps_c (A := A) (nt := nt) (P := P) (D := D) (K := K) h k (by omega)
    intro j hj
    simp only [cps]
    rw [pds_c hk this]
    exact shf_c this j hj
theorem stl_c {A : mI} {B B' : mB} {vn : Nat → Nat} {nt P D K N n dy m : Nat} {am : Int32} (hb : N * P ≤ 320) (h : ∀ r, r ≠ 37 → B' r = B r) : stl A B' vn nt P D K N n dy m am = stl A B vn nt P D K N n dy m am := by
  simp only [stl]
  rw [sop_c (h 31 (by decide))]
  congr 1
  refine sm_congr (fun i hi => ?_)
  have := Nat.mul_le_mul_right P (show i + 1 ≤ N by omega)
  rw [Nat.add_mul, Nat.one_mul] at this
  have z := cps_c (A := A) (nt := nt) (P := P) (D := D) (K := K) (shs_c (P := P) (D := D) (dy := dy) (am := am.toInt64) (fun j hj => tpR_c (A := A) (vn := vn) (D := D) (k := n) h hj) m) i (by omega)
  exact congrArg nea (pds_c (by omega) z)
theorem stl_r {A : mI} {B : mB} {vn : Nat → Nat} {nt P D K N n dy m r : Nat} {am : Int64} (h : r ≠ 37) : cps A nt P D K (plr A B vn P D n dy m am) N r = B r := by rw [cps_b h, plr_b h]
set_option maxRecDepth 20000 in
theorem c_leastPlan {J : mJ} (X : mRules J) {I A : mI} {B : mB} {w f : Nat} {R : mR} {nt P N : Nat} (hnt : nt ≤ 4) (hI : I 17 4 = nI nt) (hP : I 16 4 = nI P) (hN : I 16 5 = nI N) (hbb : N * P ≤ 320) (hN8 : N ≤ 320) {n : Nat} (hn : n ≤ 220) (hz : I 29 6 = nI n) {K D : Nat} (hK : I 16 6 = nI K) (hK1 : 1 ≤ K) (hK4 : K ≤ 4) (hD : I 16 4 * I 16 5 = nI D) (hDb : D ≤ 320) (hP40 : P ≤ 40) {vn : Nat → Nat} (hvn : ∀ j, j < n → A 32 j = nI (vn j) ∧ vn j < 2 ^ 20) {xd : Int32} {dy m : Nat} (exd : xd = nI dy) (hdy : dy < 2 ^ 10) (hm8 : m ≤ 8) (h : (∀ Bv, (∀ r, r ≠ 37 → Bv r = B r) → R (some (.int (if 0 ≤ stl A B vn nt P D K N n dy m 0 then 0 else hvo 99999 (hvs (fun a => decide (stl A B vn nt P D K N n dy m (nI a) < 0)) 99999 17 0)))) I A Bv (pk w f))) : J n_WhatIf_leastPlan 0 [.ref 39, .int xd, .int (nI m), .float 0, .float 0, .float 0] [] I A B (pk w f) R := by
  have G : ∀ k i, i + k = 17 → ∀ (t : Nat) (x : Int32) (b : Int32) (v : Value) (Bv : mB), x = nI t → b = nI (2 ^ k / 2) → t ≤ 99999 → (∀ r, r ≠ 37 → Bv r = B r) → (∀ Bv, (∀ r, r ≠ 37 → Bv r = B r) → R (some (.int (hvo 99999 (hvs (fun a => decide (stl A B vn nt P D K N n dy m (nI a) < 0)) 99999 k t)))) I A Bv (pk w f)) → J n_WhatIf_leastPlan 20 [.ref 39, .int xd, .int (nI m), .int x, .int b, v] [] I A Bv (pk w f) R := by
    refine lpk (fun i k => ∀ (t : Nat) (x : Int32) (b : Int32) (v : Value) (Bv : mB), x = nI t → b = nI (2 ^ k / 2) → t ≤ 99999 → (∀ r, r ≠ 37 → Bv r = B r) → (∀ Bv, (∀ r, r ≠ 37 → Bv r = B r) → R (some (.int (hvo 99999 (hvs (fun a => decide (stl A B vn nt P D K N n dy m (nI a) < 0)) 99999 k t)))) I A Bv (pk w f)) → J n_WhatIf_leastPlan 20 [.ref 39, .int xd, .int (nI m), .int x, .int b, v] [] I A Bv (pk w f) R) (fun i k hi ih => ?_)
    intro t x b v Bv ex eb hb hB hr
    subst ex; subst eb
    refine X 200 _ _ _ _ _ _ _ _ _ ?_
    refine And.intro (fun q1 => ?_) (fun q1 => ?_)
    · have e : k = 0 := by
        rcases Nat.eq_zero_or_pos k with z | z
        · exact z
        · obtain ⟨k, rfl⟩ : ∃ k0, k = k0 + 1 := ⟨k - 1, by omega⟩
          rw [bit_h] at q1
          have hk17 := bit_b k (by omega)
          have := bit_1 (k := k)
          exact absurd q1 (Int32.not_le.mpr (nI_0 ▸ nI_lt (show 0 < 2 ^ k by omega) (by omega)))
      subst e
      refine And.intro (fun q2 => ?_) (fun q2 => ?_)
      · have e : hvo 99999 t = -1 := by
          show (if t < 99999 then nI (t + 1) else -1) = _
          rw [if_neg (by have := (nI_leI (a := 99999) (b := t) (by omega) (by omega)).mp q2; omega)]
        have hr2 := hr
        simp only [hvs, e] at hr2
        exact hr2 Bv hB
      · have e : hvo 99999 t = nI t + 1 := by
          show (if t < 99999 then nI (t + 1) else -1) = _
          rw [if_pos (Nat.lt_of_not_le (fun z => q2 (nI_le (a := 99999) (b := t) z (by omega)))), nI_1]
        have hr2 := hr
        simp only [hvs, e] at hr2
        exact hr2 Bv hB
    · obtain ⟨k, rfl⟩ : ∃ k0, k = k0 + 1 := by
        rcases Nat.eq_zero_or_pos k with z | z
        · subst z
          exact absurd (show nI (2 ^ 0 / 2) ≤ 0 by decide) q1
        · exact ⟨k - 1, by omega⟩
      have hk17 : k < 17 := by omega
      have hk16 := bit_b k hk17
      have hx : nI t + nI (2 ^ (k + 1) / 2) = nI (t + 2 ^ k) := by rw [bit_h, nI_add]
      refine And.intro (fun q3 => ?_) (fun q3 => ?_)
      · rw [hx] at q3
        have e : hvs (fun a => decide (stl A B vn nt P D K N n dy m (nI a) < 0)) 99999 (k + 1) t = hvs (fun a => decide (stl A B vn nt P D K N n dy m (nI a) < 0)) 99999 k t := by
          show hvs (fun a => decide (stl A B vn nt P D K N n dy m (nI a) < 0)) 99999 k (if t + 2 ^ k ≤ 99999 ∧ (fun a => decide (stl A B vn nt P D K N n dy m (nI a) < 0)) (t + 2 ^ k) = true then t + 2 ^ k else t) = _
          rw [if_neg (fun z => absurd z.1 (by have := (nI_ltI (a := 99999) (b := t + 2 ^ k) (by omega) (by omega)).mp q3; omega))]
        rw [e] at hr
        exact ih k rfl (t) _ _ _ _ rfl (bit_s k hk17) hb hB hr
      · rw [hx] at q3
        have htop : t + 2 ^ k ≤ 99999 := by
          rcases Nat.lt_or_ge 99999 (t + 2 ^ k) with z | z
          · exact absurd (nI_lt (a := 99999) (b := t + 2 ^ k) z (by omega)) q3
          · exact z
        refine c_settlementWith X hnt hI hP hN hbb hN8 hn hz hK hK1 hK4 hD hDb hP40 hvn exd hdy hm8 ?_
        refine And.intro (fun q4 => ?_) (fun q4 => ?_)
        · rw [hx, stl_c hbb hB] at q4
          have e : hvs (fun a => decide (stl A B vn nt P D K N n dy m (nI a) < 0)) 99999 (k + 1) t = hvs (fun a => decide (stl A B vn nt P D K N n dy m (nI a) < 0)) 99999 k t := by
            show hvs (fun a => decide (stl A B vn nt P D K N n dy m (nI a) < 0)) 99999 k (if t + 2 ^ k ≤ 99999 ∧ (fun a => decide (stl A B vn nt P D K N n dy m (nI a) < 0)) (t + 2 ^ k) = true then t + 2 ^ k else t) = _
            rw [if_neg (fun z => absurd (of_decide_eq_true z.2) (Int64.not_lt.mpr q4))]
          rw [e] at hr
          exact ih k rfl (t) _ _ _ _ rfl (bit_s k hk17) hb (fun r hr0 => (stl_r hr0).trans (hB r hr0)) hr
        · rw [hx, stl_c hbb hB] at q4
          have e : hvs (fun a => decide (stl A B vn nt P D K N n dy m (nI a) < 0)) 99999 (k + 1) t = hvs (fun a => decide (stl A B vn nt P D K N n dy m (nI a) < 0)) 99999 k (t + 2 ^ k) := by
            show hvs (fun a => decide (stl A B vn nt P D K N n dy m (nI a) < 0)) 99999 k (if t + 2 ^ k ≤ 99999 ∧ (fun a => decide (stl A B vn nt P D K N n dy m (nI a) < 0)) (t + 2 ^ k) = true then t + 2 ^ k else t) = _
            rw [if_pos ⟨htop, decide_eq_true (Int64.not_le.mp q4)⟩]
          rw [e] at hr
          exact ih k rfl (t + 2 ^ k) _ _ _ _ hx (bit_s k hk17) htop (fun r hr0 => (stl_r hr0).trans (hB r hr0)) hr
  refine X 200 _ _ _ _ _ _ _ _ _ ?_
  refine c_settlementWith X hnt hI hP hN hbb hN8 hn hz hK hK1 hK4 hD hDb hP40 hvn exd hdy hm8 ?_
  refine And.intro (fun q1 => ?_) (fun q1 => ?_)
  · rw [if_neg (Int64.not_le.mpr q1)] at h
    exact G 17 0 rfl 0 _ _ _ _ rfl rfl (by omega) (fun r hr0 => stl_r hr0) h
  · rw [if_pos (Int64.not_lt.mp q1)] at h
    exact h _ (fun r hr0 => stl_r hr0)
end
section
/-! contracts: the best day, the mean (written by wip/whole/gc10.py) -/
theorem nm1 {a : Nat} (h : a < 2 ^ 31) : nI a - 1 < nI a := by
  cases a with
  | zero => decide
  | succ a => rw [nI_pred]; exact nI_lt (by omega) h
theorem dwe {a n i : Nat} (h : i < n) : nI (a + (n - i)) - 1 = nI (a + (n - (i + 1))) := by
  rw [show a + (n - i) = a + (n - (i + 1)) + 1 by omega, nI_pred]
theorem dwx {a n i : Nat} (hi : i ≤ n) (hb : a + n < 2 ^ 31) (h : nI (a + (n - i)) - 1 < nI a) : i = n := by
  rcases Nat.lt_or_ge i n with z | z
  · rw [dwe z] at h
    exact absurd h (nI_nlt (by omega) (by omega))
  · omega
theorem dwc {a n i : Nat} (hi : i ≤ n) (hb : a + n < 2 ^ 31) (h : ¬ nI (a + (n - i)) - 1 < nI a) : i < n := by
  rcases Nat.lt_or_ge i n with z | z
  · exact z
  · rw [show i = n by omega, Nat.sub_self] at h
    exact absurd (nm1 (by omega)) h
theorem dwm {x : Int32} : x + (-1) = x - 1 := (Int32.sub_eq_add_neg x 1).symm
/-- a period's days from its last on: products, the most so far, its day -/
def dmI (A : mI) (B : mB) (nt : Nat) (am gb w0 : Int64) (lo P : Nat) (s0 : Int64 × Int64 × Int32) : Nat → Int64 × Int64 × Int32
  | 0 => s0
  | j + 1 => if (dmI A B nt am gb w0 lo P s0 j).2.2 = -1 ∨ (dmI A B nt am gb w0 lo P s0 j).2.1 ≤ gb + nea ((dmI A B nt am gb w0 lo P s0 j).1 + (prd A nt (lo + (P - (j + 1))) (B 37 (lo + (P - (j + 1))) + am) - prd A nt (lo + (P - (j + 1))) (B 37 (lo + (P - (j + 1)))))) - w0
    then ((dmI A B nt am gb w0 lo P s0 j).1 + (prd A nt (lo + (P - (j + 1))) (B 37 (lo + (P - (j + 1))) + am) - prd A nt (lo + (P - (j + 1))) (B 37 (lo + (P - (j + 1))))), gb + nea ((dmI A B nt am gb w0 lo P s0 j).1 + (prd A nt (lo + (P - (j + 1))) (B 37 (lo + (P - (j + 1))) + am) - prd A nt (lo + (P - (j + 1))) (B 37 (lo + (P - (j + 1)))))) - w0, nI (lo + (P - (j + 1))))
    else ((dmI A B nt am gb w0 lo P s0 j).1 + (prd A nt (lo + (P - (j + 1))) (B 37 (lo + (P - (j + 1))) + am) - prd A nt (lo + (P - (j + 1))) (B 37 (lo + (P - (j + 1))))), (dmI A B nt am gb w0 lo P s0 j).2.1, (dmI A B nt am gb w0 lo P s0 j).2.2)
/-- all periods from the last on: the gain of those behind, the most so far, its day -/
def dmO (A : mI) (B : mB) (nt : Nat) (am : Int64) (P N : Nat) : Nat → Int64 × Int64 × Int32
  | 0 => (0, 0, -1)
  | i + 1 => ((dmO A B nt am P N i).1 + (nea (dmI A B nt am (dmO A B nt am P N i).1 (nea (pds A B nt 37 P (N - (i + 1)) 0 0)) ((N - (i + 1)) * P) P (pds A B nt 37 P (N - (i + 1)) 0 0, (dmO A B nt am P N i).2) P).1 - nea (pds A B nt 37 P (N - (i + 1)) 0 0)), (dmI A B nt am (dmO A B nt am P N i).1 (nea (pds A B nt 37 P (N - (i + 1)) 0 0)) ((N - (i + 1)) * P) P (pds A B nt 37 P (N - (i + 1)) 0 0, (dmO A B nt am P N i).2) P).2)
set_option maxRecDepth 20000 in
theorem c_dayOfMost {J : mJ} (X : mRules J) {I A : mI} {B : mB} {w f : Nat} {R : mR} {nt P N : Nat} (hnt : nt ≤ 4) (hI : I 17 4 = nI nt) (hP : I 16 4 = nI P) (hN : I 16 5 = nI N) (hb : N * P ≤ 320) (hN8 : N ≤ 320) {n : Nat} (hn : n ≤ 220) (hz : I 29 6 = nI n) {D : Nat} (hD : I 16 4 * I 16 5 = nI D) (hDb : D ≤ 320) {vn : Nat → Nat} (hvn : ∀ j, j < n → A 32 j = nI (vn j) ∧ vn j < 2 ^ 20) {xe : Int32} {e0 : Nat} (exe : xe = nI e0) (he : e0 < n) (h : R (some (.int (dmO A (wob A B vn D e0) nt (B 31 e0) P N N).2.2)) I A (wob A B vn D e0) (pk w f)) : J n_WhatIf_dayOfMost 0 [.ref 39, .int xe, .float 0, .float 0, .float 0, .float 0, .float 0, .float 0, .float 0, .float 0, .float 0, .float 0, .float 0, .float 0, .float 0, .float 0, .float 0, .float 0, .float 0, .float 0] [] I A B (pk w f) R := by
  generalize eam : B 31 e0 = am at h
  generalize eBw : wob A B vn D e0 = Bw at h
  have G : ∀ i, i ≤ N → ∀ (gb : Int64) (mo : Int64) (be : Int32) (x : Int32) (v1 : Value) (v2 : Value) (v3 : Value) (v4 : Value) (v5 : Value) (v6 : Value), gb = (dmO A Bw nt am P N i).1 → mo = (dmO A Bw nt am P N i).2.1 → be = (dmO A Bw nt am P N i).2.2 → x = nI (0 + (N - i)) - 1 → J n_WhatIf_dayOfMost 57 [.ref 39, .int xe, .long am, .float 0, .ref 37, .long gb, .float 0, .long mo, .float 0, .int be, .int x, v1, v2, v3, .float 0, v4, .float 0, v5, v6, .float 0] [] I A Bw (pk w f) R := by
    refine lpz (fun i => ∀ (gb : Int64) (mo : Int64) (be : Int32) (x : Int32) (v1 : Value) (v2 : Value) (v3 : Value) (v4 : Value) (v5 : Value) (v6 : Value), gb = (dmO A Bw nt am P N i).1 → mo = (dmO A Bw nt am P N i).2.1 → be = (dmO A Bw nt am P N i).2.2 → x = nI (0 + (N - i)) - 1 → J n_WhatIf_dayOfMost 57 [.ref 39, .int xe, .long am, .float 0, .ref 37, .long gb, .float 0, .long mo, .float 0, .int be, .int x, v1, v2, v3, .float 0, v4, .float 0, v5, v6, .float 0] [] I A Bw (pk w f) R) (fun i hi ih => ?_)
    intro gb mo be x v1 v2 v3 v4 v5 v6 egb emo ebe ex
    subst egb; subst emo; subst ebe
    refine X 200 _ _ _ _ _ _ _ _ _ ?_
    refine And.intro (fun q1 => ?_) (fun q1 => ?_)
    · rw [ex] at q1
      have e := dwx (a := 0) hi (by omega) q1
      subst e
      exact h
    · rw [ex] at q1
      have hl := dwc (a := 0) hi (by omega) q1
      have ex2 : x = nI (N - (i + 1)) := (ex.trans (dwe hl)).trans (by rw [Nat.zero_add])
      subst ex2
      have hm : (N - (i + 1)) * P + P ≤ 320 := by have := Nat.mul_le_mul_right P (show N - (i + 1) + 1 ≤ N by omega); rw [Nat.add_mul, Nat.one_mul] at this; omega
      have Gj : ∀ j, j ≤ P → ∀ (pr : Int64) (mo : Int64) (be : Int32) (x : Int32) (v : Value), pr = (dmI A Bw nt am (dmO A Bw nt am P N i).1 (nea (pds A Bw nt 37 P (N - (i + 1)) 0 0)) ((N - (i + 1)) * P) P (pds A Bw nt 37 P (N - (i + 1)) 0 0, (dmO A Bw nt am P N i).2) j).1 → mo = (dmI A Bw nt am (dmO A Bw nt am P N i).1 (nea (pds A Bw nt 37 P (N - (i + 1)) 0 0)) ((N - (i + 1)) * P) P (pds A Bw nt 37 P (N - (i + 1)) 0 0, (dmO A Bw nt am P N i).2) j).2.1 → be = (dmI A Bw nt am (dmO A Bw nt am P N i).1 (nea (pds A Bw nt 37 P (N - (i + 1)) 0 0)) ((N - (i + 1)) * P) P (pds A Bw nt 37 P (N - (i + 1)) 0 0, (dmO A Bw nt am P N i).2) j).2.2 → x = nI ((N - (i + 1)) * P + (P - j)) - 1 → J n_WhatIf_dayOfMost 123 [.ref 39, .int xe, .long am, .float 0, .ref 37, .long (dmO A Bw nt am P N i).1, .float 0, .long mo, .float 0, .int be, .int (nI (N - (i + 1))), .int (nI ((N - (i + 1)) * P)), .int (nI ((N - (i + 1)) * P + P)), .long pr, .float 0, .long (nea (pds A Bw nt 37 P (N - (i + 1)) 0 0)), .float 0, .int x, v, .float 0] [] I A Bw (pk w f) R := by
        refine lpz (fun j => ∀ (pr : Int64) (mo : Int64) (be : Int32) (x : Int32) (v : Value), pr = (dmI A Bw nt am (dmO A Bw nt am P N i).1 (nea (pds A Bw nt 37 P (N - (i + 1)) 0 0)) ((N - (i + 1)) * P) P (pds A Bw nt 37 P (N - (i + 1)) 0 0, (dmO A Bw nt am P N i).2) j).1 → mo = (dmI A Bw nt am (dmO A Bw nt am P N i).1 (nea (pds A Bw nt 37 P (N - (i + 1)) 0 0)) ((N - (i + 1)) * P) P (pds A Bw nt 37 P (N - (i + 1)) 0 0, (dmO A Bw nt am P N i).2) j).2.1 → be = (dmI A Bw nt am (dmO A Bw nt am P N i).1 (nea (pds A Bw nt 37 P (N - (i + 1)) 0 0)) ((N - (i + 1)) * P) P (pds A Bw nt 37 P (N - (i + 1)) 0 0, (dmO A Bw nt am P N i).2) j).2.2 → x = nI ((N - (i + 1)) * P + (P - j)) - 1 → J n_WhatIf_dayOfMost 123 [.ref 39, .int xe, .long am, .float 0, .ref 37, .long (dmO A Bw nt am P N i).1, .float 0, .long mo, .float 0, .int be, .int (nI (N - (i + 1))), .int (nI ((N - (i + 1)) * P)), .int (nI ((N - (i + 1)) * P + P)), .long pr, .float 0, .long (nea (pds A Bw nt 37 P (N - (i + 1)) 0 0)), .float 0, .int x, v, .float 0] [] I A Bw (pk w f) R) (fun j hij ihj => ?_)
        intro pr mo be x v epr emo ebe ex
        subst epr; subst emo; subst ebe
        refine X 200 _ _ _ _ _ _ _ _ _ ?_
        refine And.intro (fun q1 => ?_) (fun q1 => ?_)
        · rw [ex] at q1
          have ej := dwx hij (by omega) q1
          subst ej
          refine c_nearest X ?_
          exact ih hl _ _ _ _ _ _ _ _ _ _ rfl rfl rfl (by rw [Nat.zero_add]; exact dwm)
        · rw [ex] at q1
          have hlj := dwc hij (by omega) q1
          have ex2 := ex.trans (dwe hlj)
          subst ex2
          have hdd : ((N - (i + 1)) * P + (P - (j + 1))) < 320 := by omega
          have hde : 0 ≤ ((N - (i + 1)) * P + (P - (j + 1))) := Nat.zero_le _
          refine Exists.intro _ (And.intro rfl (And.intro (vin (by omega) (by omega)) ?_))
          refine c_credit X (d := ((N - (i + 1)) * P + (P - (j + 1)))) rfl (by omega) hnt hI ?_
          refine And.intro (fun q2 => ?_) (fun q2 => ?_)
          · exact absurd q2 (nI_pos (by omega)) --end
          · refine And.intro (fun q3 => ?_) (fun q3 => ?_)
            · refine Exists.intro _ (Exists.intro _ (Exists.intro _ (And.intro rfl (And.intro (vlit rfl) ?_))))
              refine Exists.intro _ (And.intro rfl (And.intro (vin (by omega) (by omega)) ?_))
              refine c_debtBy X (d := ((N - (i + 1)) * P + (P - (j + 1)))) rfl (by omega) ?_
              refine Exists.intro _ (And.intro rfl (And.intro (vin (by omega) (by omega)) ?_))
              refine c_credit X (d := ((N - (i + 1)) * P + (P - (j + 1)))) rfl (by omega) hnt hI ?_
              refine And.intro (fun q4 => ?_) (fun q4 => ?_)
              · exact absurd q4 (nI_pos (by omega)) --end
              · refine And.intro (fun q5 => ?_) (fun q5 => ?_)
                · refine Exists.intro _ (Exists.intro _ (Exists.intro _ (And.intro rfl (And.intro (vlit rfl) ?_))))
                  refine Exists.intro _ (And.intro rfl (And.intro (vin (by omega) (by omega)) ?_))
                  refine c_debtBy X (d := ((N - (i + 1)) * P + (P - (j + 1)))) rfl (by omega) ?_
                  refine c_nearest X ?_
                  refine And.intro (fun q6 => ?_) (fun q6 => ?_)
                  · have c1 : (nI ((N - (i + 1)) * P + (P - (j + 1)))).toNatClampNeg = ((N - (i + 1)) * P + (P - (j + 1))) := cl (by omega)
                    have e2 : dmI A Bw nt am (dmO A Bw nt am P N i).1 (nea (pds A Bw nt 37 P (N - (i + 1)) 0 0)) ((N - (i + 1)) * P) P (pds A Bw nt 37 P (N - (i + 1)) 0 0, (dmO A Bw nt am P N i).2) (j + 1) = _ := if_pos (Or.inl q6)
                    have hdm : nI ((N - (i + 1)) * P + (P - (j + 1))) + (-1) = nI ((N - (i + 1)) * P + (P - (j + 1))) - 1 := dwm
                    exact ihj hlj _ _ _ _ _ (by first | (rw [e2, c1] <;> rfl) | (rw [e2] <;> rfl)) (by first | (rw [e2, c1] <;> rfl) | (rw [e2] <;> rfl)) (by rw [e2] <;> rfl) hdm
                  · refine And.intro (fun q7 => ?_) (fun q7 => ?_)
                    · have c1 : (nI ((N - (i + 1)) * P + (P - (j + 1)))).toNatClampNeg = ((N - (i + 1)) * P + (P - (j + 1))) := cl (by omega)
                      simp only [c1] at q7
                      have e2 : dmI A Bw nt am (dmO A Bw nt am P N i).1 (nea (pds A Bw nt 37 P (N - (i + 1)) 0 0)) ((N - (i + 1)) * P) P (pds A Bw nt 37 P (N - (i + 1)) 0 0, (dmO A Bw nt am P N i).2) (j + 1) = _ := if_neg (fun z => z.elim q6 (Int64.not_le.mpr q7))
                      have hdm : nI ((N - (i + 1)) * P + (P - (j + 1))) + (-1) = nI ((N - (i + 1)) * P + (P - (j + 1))) - 1 := dwm
                      exact ihj hlj _ _ _ _ _ (by first | (rw [e2, c1] <;> rfl) | (rw [e2] <;> rfl)) (by first | (rw [e2, c1] <;> rfl) | (rw [e2] <;> rfl)) (by rw [e2] <;> rfl) hdm
                    · have c1 : (nI ((N - (i + 1)) * P + (P - (j + 1)))).toNatClampNeg = ((N - (i + 1)) * P + (P - (j + 1))) := cl (by omega)
                      simp only [c1] at q7
                      have e2 : dmI A Bw nt am (dmO A Bw nt am P N i).1 (nea (pds A Bw nt 37 P (N - (i + 1)) 0 0)) ((N - (i + 1)) * P) P (pds A Bw nt 37 P (N - (i + 1)) 0 0, (dmO A Bw nt am P N i).2) (j + 1) = _ := if_pos (Or.inr (Int64.not_lt.mp q7))
                      have hdm : nI ((N - (i + 1)) * P + (P - (j + 1))) + (-1) = nI ((N - (i + 1)) * P + (P - (j + 1))) - 1 := dwm
                      exact ihj hlj _ _ _ _ _ (by first | (rw [e2, c1] <;> rfl) | (rw [e2] <;> rfl)) (by first | (rw [e2, c1] <;> rfl) | (rw [e2] <;> rfl)) (by rw [e2] <;> rfl) hdm
                · exact absurd (nI_lt (b := 320) (by omega) (by omega)) q5 --end
            · exact absurd (nI_lt (b := 320) (by omega) (by omega)) q3 --end
      have hgo := True.intro
      refine Exists.intro _ (Exists.intro _ (And.intro rfl ?_))
      refine c_productsOf37 X hnt hI hP (p := N - (i + 1)) rfl hm ?_
      refine c_nearest X ?_
      have f1 : (if (0 : Int32) < nI (N - (i + 1)) * I 16 4 then nI (N - (i + 1)) * I 16 4 else 0) = nI ((N - (i + 1)) * P) := by rw [hP, pk_mul]; exact nmax (by omega)
      have f2 : (if nI ((N - (i + 1)) * P) + I 16 4 < Int32.ofNat 320 then nI ((N - (i + 1)) * P) + I 16 4 else Int32.ofNat 320) = nI ((N - (i + 1)) * P + P) := by rw [hP, nI_add]; exact nmin hm
      rw [f1, f2]
      exact Gj 0 (Nat.zero_le _) _ _ _ _ v6 rfl rfl rfl rfl
  refine X 200 _ _ _ _ _ _ _ _ _ ?_
  refine c_amountOf X hn hz (i := e0) exe he ?_
  refine Exists.intro 1 (Exists.intro 320 (Exists.intro 320 (And.intro rfl (And.intro rfl (And.intro (Or.inr rfl) (And.intro (by decide) (And.intro (by decide) (And.intro (by decide) (And.intro (by decide) (And.intro (by decide) (And.intro (fun z => absurd z (by decide)) (fun _ => ?_))))))))))))
  refine c_valueOf X hn hz (i := e0) exe he ?_
  refine c_shift37 X (v := vn e0) hD hDb (hvn e0 he).1 (hvn e0 he).2 ?_
  subst eam
  subst eBw
  exact G 0 (Nat.zero_le _) _ _ _ _ _ _ _ _ _ _ rfl rfl rfl (by rw [hN, Nat.zero_add]; rfl)
/-- the greatest one up to k, of those that do; 1 at least -/
def cdv (c : Nat → Bool) : Nat → Nat
  | 0 => 1
  | k + 1 => if 1 < k + 1 ∧ c (k + 1) = true then k + 1 else cdv c k
theorem cdv_1 {c : Nat → Bool} : ∀ {k : Nat}, k ≤ 1 → cdv c k = 1
  | 0, _ => rfl
  | k + 1, h => by
    rw [cdv, if_neg (by omega), cdv_1 (by omega)]
theorem lnz {k : Nat} (h0 : 0 < k) (h : k < 2 ^ 31) : ¬ (nI k).toInt64 = 0 := fun e => by
  rw [nI_l h] at e
  have := congrArg Int64.toInt e
  rw [pk_lT (by omega)] at this
  have h2 : (0 : Int64).toInt = 0 := rfl
  rw [h2] at this
  omega
set_option maxRecDepth 20000 in
theorem c_commonDivisor {J : mJ} (X : mRules J) {I A : mI} {B : mB} {w f : Nat} {R : mR} {s : Int64} {P : Nat} (hP : I 16 4 = nI P) (hPb : P < 2 ^ 20) (h : R (some (.int (nI (cdv (fun k => decide (P % k = 0 ∧ s - s / (nI k).toInt64 * (nI k).toInt64 = 0)) P)))) I A B (pk w f)) : J n_Course_commonDivisor 0 [.ref 38, .long s, .float 0, .float 0] [] I A B (pk w f) R := by
  have G : ∀ k i, i + k = P → ∀ (x : Int32), x = nI k → R (some (.int (nI (cdv (fun k => decide (P % k = 0 ∧ s - s / (nI k).toInt64 * (nI k).toInt64 = 0)) k)))) I A B (pk w f) → J n_Course_commonDivisor 8 [.ref 38, .long s, .float 0, .int x] [] I A B (pk w f) R := by
    refine lpk (fun i k => ∀ (x : Int32), x = nI k → R (some (.int (nI (cdv (fun k => decide (P % k = 0 ∧ s - s / (nI k).toInt64 * (nI k).toInt64 = 0)) k)))) I A B (pk w f) → J n_Course_commonDivisor 8 [.ref 38, .long s, .float 0, .int x] [] I A B (pk w f) R) (fun i k hi ih => ?_)
    intro x ex hr
    subst ex
    refine X 200 _ _ _ _ _ _ _ _ _ ?_
    refine And.intro (fun q1 => ?_) (fun q1 => ?_)
    · have hk1 : k ≤ 1 := (nI_leI (a := k) (b := 1) (by omega) (by omega)).mp q1
      rw [cdv_1 hk1] at hr
      exact hr
    · have hk1 : 1 < k := Nat.lt_of_not_le (fun z => q1 (nI_le (a := k) (b := 1) z (by omega)))
      obtain ⟨k, rfl⟩ : ∃ k0, k = k0 + 1 := ⟨k - 1, by omega⟩
      have hrem : I 16 4 - I 16 4 / nI (k + 1) * nI (k + 1) = nI (P % (k + 1)) := by rw [hP]; exact pk_rem (by omega) (by omega) (by omega)
      refine And.intro (by first | exact nI_ne0 (by omega) (by omega) | exact lnz (by omega) (by omega)) ?_
      refine And.intro (fun q2 => ?_) (fun q2 => ?_)
      · rw [hrem] at q2
        have e : cdv (fun k => decide (P % k = 0 ∧ s - s / (nI k).toInt64 * (nI k).toInt64 = 0)) (k + 1) = cdv (fun k => decide (P % k = 0 ∧ s - s / (nI k).toInt64 * (nI k).toInt64 = 0)) k := by
          rw [cdv, if_neg (fun z => absurd (of_decide_eq_true z.2) (fun z => q2 (by rw [z.1]; rfl)))]
        rw [e] at hr
        exact ih k rfl _ (by rw [dwm, nI_pred]) hr
      · rw [hrem] at q2
        have hz2 : P % (k + 1) = 0 := by
          have hml : P % (k + 1) < k + 1 := Nat.mod_lt _ (by omega)
          exact (nI_eq (a := P % (k + 1)) (b := 0) (by omega) (by omega)).mp q2
        refine And.intro (by first | exact nI_ne0 (by omega) (by omega) | exact lnz (by omega) (by omega)) ?_
        refine And.intro (fun q3 => ?_) (fun q3 => ?_)
        · have e : cdv (fun k => decide (P % k = 0 ∧ s - s / (nI k).toInt64 * (nI k).toInt64 = 0)) (k + 1) = cdv (fun k => decide (P % k = 0 ∧ s - s / (nI k).toInt64 * (nI k).toInt64 = 0)) k := by
            rw [cdv, if_neg (fun z => absurd (of_decide_eq_true z.2) (fun z => q3 z.2))]
          rw [e] at hr
          exact ih k rfl _ (by rw [dwm, nI_pred]) hr
        · rw [cdv, if_pos ⟨hk1, decide_eq_true ⟨hz2, q3⟩⟩] at hr
          exact hr
  refine X 200 _ _ _ _ _ _ _ _ _ ?_
  exact G P 0 (Nat.zero_add P) _ hP h
end
section
/-! the account, as both sides know it: whole numbers, no machine -/
abbrev Ac : Type := (Nat) × (Nat) × (Nat) × (Nat) × (Nat) × (Nat) × (Nat) × (Nat → Nat) × (Nat → Nat) × (Nat → Nat) × (Nat → Int) × (Nat → Int32) × (Nat → Nat) × (Nat → Nat) × (Nat → Nat) × (Nat → Nat) × (Nat → Nat) × (Nat → Nat) × (Option Nat) × (Int) × (Option Nat)
abbrev Ac.P (self : Ac) : Nat := self.1
abbrev Ac.N (self : Ac) : Nat := self.2.1
abbrev Ac.K (self : Ac) : Nat := self.2.2.1
abbrev Ac.c (self : Ac) : Nat := self.2.2.2.1
abbrev Ac.n (self : Ac) : Nat := self.2.2.2.2.1
abbrev Ac.nt (self : Ac) : Nat := self.2.2.2.2.2.1
abbrev Ac.nc (self : Ac) : Nat := self.2.2.2.2.2.2.1
abbrev Ac.so (self : Ac) : Nat → Nat := self.2.2.2.2.2.2.2.1
abbrev Ac.va (self : Ac) : Nat → Nat := self.2.2.2.2.2.2.2.2.1
abbrev Ac.pg (self : Ac) : Nat → Nat := self.2.2.2.2.2.2.2.2.2.1
abbrev Ac.am (self : Ac) : Nat → Int := self.2.2.2.2.2.2.2.2.2.2.1
abbrev Ac.og (self : Ac) : Nat → Int32 := self.2.2.2.2.2.2.2.2.2.2.2.1
abbrev Ac.tr (self : Ac) : Nat → Nat := self.2.2.2.2.2.2.2.2.2.2.2.2.1
abbrev Ac.tt (self : Ac) : Nat → Nat := self.2.2.2.2.2.2.2.2.2.2.2.2.2.1
abbrev Ac.db (self : Ac) : Nat → Nat := self.2.2.2.2.2.2.2.2.2.2.2.2.2.2.1
abbrev Ac.cd (self : Ac) : Nat → Nat := self.2.2.2.2.2.2.2.2.2.2.2.2.2.2.2.1
abbrev Ac.co (self : Ac) : Nat → Nat := self.2.2.2.2.2.2.2.2.2.2.2.2.2.2.2.2.1
abbrev Ac.cv (self : Ac) : Nat → Nat := self.2.2.2.2.2.2.2.2.2.2.2.2.2.2.2.2.2.1
abbrev Ac.ti (self : Ac) : Option Nat := self.2.2.2.2.2.2.2.2.2.2.2.2.2.2.2.2.2.2.1
abbrev Ac.tb (self : Ac) : Int := self.2.2.2.2.2.2.2.2.2.2.2.2.2.2.2.2.2.2.2.1
abbrev Ac.fo (self : Ac) : Option Nat := self.2.2.2.2.2.2.2.2.2.2.2.2.2.2.2.2.2.2.2.2
abbrev Ac.mk (pP : Nat) (pN : Nat) (pK : Nat) (pc : Nat) (pn : Nat) (pnt : Nat) (pnc : Nat) (pso : Nat → Nat) (pva : Nat → Nat) (ppg : Nat → Nat) (pam : Nat → Int) (pog : Nat → Int32) (ptr : Nat → Nat) (ptt : Nat → Nat) (pdb : Nat → Nat) (pcd : Nat → Nat) (pco : Nat → Nat) (pcv : Nat → Nat) (pti : Option Nat) (ptb : Int) (pfo : Option Nat) : Ac := (pP, pN, pK, pc, pn, pnt, pnc, pso, pva, ppg, pam, pog, ptr, ptt, pdb, pcd, pco, pcv, pti, ptb, pfo)
abbrev zL (z : Int) : Int64 := Int64.ofInt z
abbrev zN (z : Int) : Int32 := Int32.ofInt z
/-- the sum of the first n -/
def zsm (g : Nat → Int) : Nat → Int
  | 0 => 0
  | n + 1 => zsm g n + g n
theorem zsm_congr {g g' : Nat → Int} : ∀ {n : Nat}, (∀ i, i < n → g i = g' i) → zsm g n = zsm g' n
  | 0, _ => rfl
  | n + 1, h => by rw [zsm, zsm, zsm_congr (fun i hi => h i (by omega)), h n (by omega)]
theorem zsm_le {g : Nat → Int} {M : Int} : ∀ {n : Nat}, (∀ i, i < n → g i ≤ M) → zsm g n ≤ n * M
  | 0, _ => by simp [zsm]
  | n + 1, h => by
    have h1 := zsm_le (n := n) (fun i hi => h i (by omega))
    have h2 := h n (by omega)
    have e : ((n + 1 : Nat) : Int) * M = n * M + M := by rw [Int.natCast_add, Int.add_mul]; simp
    rw [zsm, e]
    omega
theorem zsm_ge {g : Nat → Int} {M : Int} : ∀ {n : Nat}, (∀ i, i < n → M ≤ g i) → n * M ≤ zsm g n
  | 0, _ => by simp [zsm]
  | n + 1, h => by
    have h1 := zsm_ge (n := n) (fun i hi => h i (by omega))
    have h2 := h n (by omega)
    have e : ((n + 1 : Nat) : Int) * M = n * M + M := by rw [Int.natCast_add, Int.add_mul]; simp
    rw [zsm, e]
    omega
theorem zsm_add {g g' : Nat → Int} : ∀ {n : Nat}, zsm (fun i => g i + g' i) n = zsm g n + zsm g' n
  | 0 => rfl
  | n + 1 => by rw [zsm, zsm, zsm, zsm_add]; omega
theorem zsm_sub {g g' : Nat → Int} : ∀ {n : Nat}, zsm (fun i => g i - g' i) n = zsm g n - zsm g' n
  | 0 => rfl
  | n + 1 => by rw [zsm, zsm, zsm, zsm_sub]; omega
theorem zsm_0 : ∀ {n : Nat}, zsm (fun _ => 0) n = 0
  | 0 => rfl
  | n + 1 => by rw [zsm, zsm_0]; rfl
theorem zsm_z {g : Nat → Int} {n : Nat} (h : ∀ i, i < n → g i = 0) : zsm g n = 0 := (zsm_congr h).trans zsm_0
theorem zsm_mono {g g' : Nat → Int} : ∀ {n : Nat}, (∀ i, i < n → g i ≤ g' i) → zsm g n ≤ zsm g' n
  | 0, _ => Int.le_refl _
  | n + 1, h => by
    have h1 := zsm_mono (n := n) (fun i hi => h i (by omega))
    have h2 := h n (by omega)
    rw [zsm, zsm]
    omega
/-- only one of them is not 0 -/
theorem zsm_one {g : Nat → Int} {e : Nat} : ∀ {n : Nat}, e < n → (∀ i, i < n → i ≠ e → g i = 0) → zsm g n = g e
  | 0, h, _ => by omega
  | n + 1, h, h2 => by
    rw [zsm]
    by_cases hn : e = n
    · subst hn
      rw [zsm_z (fun i hi => h2 i (by omega) (by omega))]
      omega
    · rw [zsm_one (by omega) (fun i hi => h2 i (by omega)), h2 n (by omega) (by omega)]
      omega
/-- since when, and what, by the first k changes -/
def zlt (a : Ac) (r d : Nat) : Nat → Int × Int
  | 0 => (-1, if r < 4 then a.tr r else a.db (r - 4))
  | k + 1 => if a.co k ≠ r ∨ d < a.cd k ∨ (a.cd k : Int) < (zlt a r d k).1 then zlt a r d k else (a.cd k, a.cv k)
/-- what holds on a day -/
def zhl (a : Ac) (r d : Nat) : Int :=
  if r = 6 ∧ a.fo.isSome = true then (a.fo.getD 0 : Nat)
  else if a.ti = some r then (if 0 < (zlt a r d a.nc).2 + a.tb then (zlt a r d a.nc).2 + a.tb else 0) else (zlt a r d a.nc).2
def zbl (a : Ac) (d : Nat) : Int := zsm (fun j => if a.va j ≤ d then a.am j else 0) a.n
def zod (b : Int) : Int := if b < 0 then -b else 0
def zwi (a : Ac) (d : Nat) (b : Int) : Int := if zod b = 0 then 0 else if zhl a 6 d < zod b then zhl a 6 d else zod b
def zfr (a : Ac) (t : Nat) : Int := if t = 0 then 0 else (a.tt (t - 1) : Nat)
def zab (a : Ac) (b : Int) (t : Nat) : Int := if b - zfr a t < 0 then 0 else b - zfr a t
/-- what of a balance is in a tier; behind the tiers what is above all, what is owed within the limit, above it -/
def zpt (a : Ac) (d : Nat) (b : Int) (t : Nat) : Int :=
  if a.nt < t then (if t = a.nt + 1 then zwi a d b else zod b - zwi a d b)
  else if b ≤ 0 then 0
  else if 0 < t ∧ a.tt (t - 1) = 0 then 0
  else if t < a.nt ∧ 0 < a.tt t then (if (a.tt t : Int) - zfr a t < zab a b t then (a.tt t : Int) - zfr a t else zab a b t)
  else zab a b t
def zer (a : Ac) (d : Nat) (b : Int) : Int := zsm (fun t => zpt a d b t * zhl a t d) a.nt
def zow (a : Ac) (d : Nat) (b : Int) : Int := if b < 0 then zpt a d b (a.nt + 1) * zhl a 4 d + zpt a d b (a.nt + 2) * zhl a 5 d else 0
def zpr (a : Ac) (d : Nat) (b : Int) : Int := zer a d b - zow a d b
/-- a period's products, by balances -/
def zpz (a : Ac) (b : Nat → Int) (p : Nat) : Int := zsm (fun i => zpr a (a.P * p + i) (b (a.P * p + i))) a.P
/-- to the nearest whole number, a half away from 0 -/
def znr (z : Int) : Int := if z < 0 then -((2 * (-z) + 3600000) / 7200000) else (2 * z + 3600000) / 7200000
def zit (a : Ac) (p : Nat) : Int := znr (zpz a (zbl a) p)
def zal (a : Ac) : Int := zsm (zit a) a.N
def zbk (a : Ac) (p : Nat) : Int := zsm (fun j => if (a.so j = 1 ∨ a.so j = 2) ∧ a.og j = nI p then a.am j else 0) a.n
def zcm (a : Ac) (p : Nat) : Nat := a.P * a.K * (p / a.K + 1)
/-- one value more -/
def zup {α : Type} (f : Nat → α) (k : Nat) (v : α) : Nat → α := fun j => if j = k then v else f j
theorem zup_s {α : Type} {f : Nat → α} {k : Nat} {v : α} : zup f k v k = v := if_pos rfl
theorem zup_n {α : Type} {f : Nat → α} {k j : Nat} {v : α} (h : j ≠ k) : zup f k v j = f j := if_neg h
/-- an entry more -/
def zen (a : Ac) (s : Nat) (m : Int) (v : Nat) (o : Int32) : Ac := (Ac.mk (Ac.P a) (Ac.N a) (Ac.K a) (Ac.c a) (a.n + 1) (Ac.nt a) (Ac.nc a) (zup a.so a.n s) (zup a.va a.n v) (zup a.pg a.n a.c) (zup a.am a.n m) (zup a.og a.n o) (Ac.tr a) (Ac.tt a) (Ac.db a) (Ac.cd a) (Ac.co a) (Ac.cv a) (Ac.ti a) (Ac.tb a) (Ac.fo a))
def Ac.setC (a : Ac) (x : Nat) : Ac := (Ac.mk (Ac.P a) (Ac.N a) (Ac.K a) (x) (Ac.n a) (Ac.nt a) (Ac.nc a) (Ac.so a) (Ac.va a) (Ac.pg a) (Ac.am a) (Ac.og a) (Ac.tr a) (Ac.tt a) (Ac.db a) (Ac.cd a) (Ac.co a) (Ac.cv a) (Ac.ti a) (Ac.tb a) (Ac.fo a))
def zcl (a : Ac) : Ac := (zen a 1 (zit a a.c) (zcm a a.c) (nI a.c)).setC (a.c + 1)
/-- the first k periods run anew -/
def zrr (a : Ac) : Nat → Ac
  | 0 => a
  | p + 1 => if zit (zrr a p) p - zbk (zrr a p) p = 0 then zrr a p else zen (zrr a p) 2 (zit (zrr a p) p - zbk (zrr a p) p) (zcm (zrr a p) p) (nI p)
/-- what is asked of every account: bounds -/
def Vw (a : Ac) : Prop :=
  (a.P ≤ 40) ∧
  (a.N ≤ 8) ∧
  (1 ≤ a.K) ∧
  (a.K ≤ 4) ∧
  (a.c ≤ a.N) ∧
  (a.n ≤ 480) ∧
  (a.nt ≤ 4) ∧
  (a.nc ≤ 40) ∧
  (∀ j, j < a.n → a.so j ≤ 3) ∧
  (∀ j, j < a.n → a.va j ≤ 4000) ∧
  (∀ j, j < a.n → a.pg j ≤ 8) ∧
  (∀ j, j < a.n → -16777216 ≤ a.am j ∧ a.am j ≤ 16777216) ∧
  (∀ t, t < a.nt → a.tr t ≤ 5000) ∧
  (∀ t, t < a.nt → a.tt t ≤ 99999) ∧
  (∀ k, k < 2 → a.db k ≤ 5000) ∧
  (a.db 2 ≤ 99999) ∧
  (∀ k, k < a.nc → a.cd k < 320) ∧
  (∀ k, k < a.nc → a.co k ≤ 6) ∧
  (∀ k, k < a.nc → a.co k ≠ 6 → a.cv k ≤ 5000) ∧
  (∀ k, k < a.nc → a.cv k ≤ 99999) ∧
  (-5000 ≤ a.tb ∧ a.tb ≤ 5000) ∧
  (∀ t, a.ti = some t → t < a.nt) ∧
  (∀ v, a.fo = some v → v ≤ 99999)
theorem Vw.P40 {a : Ac} (self : Vw a) : a.P ≤ 40 := self.1
theorem Vw.N8 {a : Ac} (self : Vw a) : a.N ≤ 8 := self.2.1
theorem Vw.K1 {a : Ac} (self : Vw a) : 1 ≤ a.K := self.2.2.1
theorem Vw.K4 {a : Ac} (self : Vw a) : a.K ≤ 4 := self.2.2.2.1
theorem Vw.cN {a : Ac} (self : Vw a) : a.c ≤ a.N := self.2.2.2.2.1
theorem Vw.n4 {a : Ac} (self : Vw a) : a.n ≤ 480 := self.2.2.2.2.2.1
theorem Vw.nt4 {a : Ac} (self : Vw a) : a.nt ≤ 4 := self.2.2.2.2.2.2.1
theorem Vw.nc4 {a : Ac} (self : Vw a) : a.nc ≤ 40 := self.2.2.2.2.2.2.2.1
theorem Vw.so3 {a : Ac} (self : Vw a) : ∀ j, j < a.n → a.so j ≤ 3 := self.2.2.2.2.2.2.2.2.1
theorem Vw.va9 {a : Ac} (self : Vw a) : ∀ j, j < a.n → a.va j ≤ 4000 := self.2.2.2.2.2.2.2.2.2.1
theorem Vw.pg8 {a : Ac} (self : Vw a) : ∀ j, j < a.n → a.pg j ≤ 8 := self.2.2.2.2.2.2.2.2.2.2.1
theorem Vw.am1 {a : Ac} (self : Vw a) : ∀ j, j < a.n → -16777216 ≤ a.am j ∧ a.am j ≤ 16777216 := self.2.2.2.2.2.2.2.2.2.2.2.1
theorem Vw.tr5 {a : Ac} (self : Vw a) : ∀ t, t < a.nt → a.tr t ≤ 5000 := self.2.2.2.2.2.2.2.2.2.2.2.2.1
theorem Vw.tt9 {a : Ac} (self : Vw a) : ∀ t, t < a.nt → a.tt t ≤ 99999 := self.2.2.2.2.2.2.2.2.2.2.2.2.2.1
theorem Vw.db0 {a : Ac} (self : Vw a) : ∀ k, k < 2 → a.db k ≤ 5000 := self.2.2.2.2.2.2.2.2.2.2.2.2.2.2.1
theorem Vw.db2 {a : Ac} (self : Vw a) : a.db 2 ≤ 99999 := self.2.2.2.2.2.2.2.2.2.2.2.2.2.2.2.1
theorem Vw.cd3 {a : Ac} (self : Vw a) : ∀ k, k < a.nc → a.cd k < 320 := self.2.2.2.2.2.2.2.2.2.2.2.2.2.2.2.2.1
theorem Vw.co6 {a : Ac} (self : Vw a) : ∀ k, k < a.nc → a.co k ≤ 6 := self.2.2.2.2.2.2.2.2.2.2.2.2.2.2.2.2.2.1
theorem Vw.cv5 {a : Ac} (self : Vw a) : ∀ k, k < a.nc → a.co k ≠ 6 → a.cv k ≤ 5000 := self.2.2.2.2.2.2.2.2.2.2.2.2.2.2.2.2.2.2.1
theorem Vw.cv9 {a : Ac} (self : Vw a) : ∀ k, k < a.nc → a.cv k ≤ 99999 := self.2.2.2.2.2.2.2.2.2.2.2.2.2.2.2.2.2.2.2.1
theorem Vw.tb5 {a : Ac} (self : Vw a) : -5000 ≤ a.tb ∧ a.tb ≤ 5000 := self.2.2.2.2.2.2.2.2.2.2.2.2.2.2.2.2.2.2.2.2.1
theorem Vw.ti4 {a : Ac} (self : Vw a) : ∀ t, a.ti = some t → t < a.nt := self.2.2.2.2.2.2.2.2.2.2.2.2.2.2.2.2.2.2.2.2.2.1
theorem Vw.fo9 {a : Ac} (self : Vw a) : ∀ v, a.fo = some v → v ≤ 99999 := self.2.2.2.2.2.2.2.2.2.2.2.2.2.2.2.2.2.2.2.2.2.2
theorem Vw.mk {a : Ac} (h_P40 : a.P ≤ 40) (h_N8 : a.N ≤ 8) (h_K1 : 1 ≤ a.K) (h_K4 : a.K ≤ 4) (h_cN : a.c ≤ a.N) (h_n4 : a.n ≤ 480) (h_nt4 : a.nt ≤ 4) (h_nc4 : a.nc ≤ 40) (h_so3 : ∀ j, j < a.n → a.so j ≤ 3) (h_va9 : ∀ j, j < a.n → a.va j ≤ 4000) (h_pg8 : ∀ j, j < a.n → a.pg j ≤ 8) (h_am1 : ∀ j, j < a.n → -16777216 ≤ a.am j ∧ a.am j ≤ 16777216) (h_tr5 : ∀ t, t < a.nt → a.tr t ≤ 5000) (h_tt9 : ∀ t, t < a.nt → a.tt t ≤ 99999) (h_db0 : ∀ k, k < 2 → a.db k ≤ 5000) (h_db2 : a.db 2 ≤ 99999) (h_cd3 : ∀ k, k < a.nc → a.cd k < 320) (h_co6 : ∀ k, k < a.nc → a.co k ≤ 6) (h_cv5 : ∀ k, k < a.nc → a.co k ≠ 6 → a.cv k ≤ 5000) (h_cv9 : ∀ k, k < a.nc → a.cv k ≤ 99999) (h_tb5 : -5000 ≤ a.tb ∧ a.tb ≤ 5000) (h_ti4 : ∀ t, a.ti = some t → t < a.nt) (h_fo9 : ∀ v, a.fo = some v → v ≤ 99999) : Vw a := ⟨h_P40, h_N8, h_K1, h_K4, h_cN, h_n4, h_nt4, h_nc4, h_so3, h_va9, h_pg8, h_am1, h_tr5, h_tt9, h_db0, h_db2, h_cd3, h_co6, h_cv5, h_cv9, h_tb5, h_ti4, h_fo9⟩
theorem zlt_b {a : Ac} (V : Vw a) {r d : Nat} (hr : r < a.nt ∨ 4 ≤ r ∧ r ≤ 6) : ∀ {k : Nat}, k ≤ a.nc → 0 ≤ (zlt a r d k).2 ∧ (zlt a r d k).2 ≤ (if r = 6 then 99999 else 5000) ∧ -1 ≤ (zlt a r d k).1 ∧ (zlt a r d k).1 < 320
  | 0, _ => by
    have h4 := V.nt4
    simp only [zlt]
    rcases hr with h | h
    · have := V.tr5 r h
      rw [if_pos (by omega), if_neg (by omega)]
      omega
    · rw [if_neg (by omega)]
      by_cases h6 : r = 6
      · subst h6
        have : a.db (6 - 4) ≤ 99999 := V.db2
        simp only [if_true]
        omega
      · have := V.db0 (r - 4) (by omega)
        rw [if_neg h6]
        omega
  | k + 1, hk => by
    have ih := zlt_b V (d := d) hr (k := k) (by omega)
    simp only [zlt]
    split
    · exact ih
    · rename_i h
      have h1 : a.co k = r := by omega
      have h2 := V.cv9 k (by omega)
      have h3 := V.cd3 k (by omega)
      by_cases h6 : r = 6
      · rw [if_pos h6]
        show (0 : Int) ≤ a.cv k ∧ (a.cv k : Int) ≤ 99999 ∧ (-1 : Int) ≤ a.cd k ∧ (a.cd k : Int) < 320
        omega
      · have h5 := V.cv5 k (by omega) (by omega)
        rw [if_neg h6]
        show (0 : Int) ≤ a.cv k ∧ (a.cv k : Int) ≤ 5000 ∧ (-1 : Int) ≤ a.cd k ∧ (a.cd k : Int) < 320
        omega
theorem zhl_b {a : Ac} (V : Vw a) {r d : Nat} (hr : r < a.nt ∨ 4 ≤ r ∧ r ≤ 6) : 0 ≤ zhl a r d ∧ zhl a r d ≤ (if r = 6 then 104999 else 10000) := by
  have h := zlt_b V (d := d) hr (Nat.le_refl a.nc)
  have htb := V.tb5
  unfold zhl
  split
  · rename_i h6
    obtain ⟨e, h6⟩ := h6
    subst e
    cases hf : a.fo with
    | none => rw [hf] at h6; cases h6
    | some v =>
      have := V.fo9 v hf
      simp only [if_true, Option.getD_some]
      omega
  · split
    · split <;> split at h <;> split <;> omega
    · split at h <;> split <;> omega
theorem zbl_b {a : Ac} (V : Vw a) (d : Nat) : -8053063680 ≤ zbl a d ∧ zbl a d ≤ 8053063680 := by
  have h1 := zsm_le (g := fun j => if a.va j ≤ d then a.am j else 0) (M := 16777216) (n := a.n) (fun i hi => by
    have := V.am1 i hi
    show (if _ then _ else _) ≤ _
    split <;> omega)
  have h2 := zsm_ge (g := fun j => if a.va j ≤ d then a.am j else 0) (M := -16777216) (n := a.n) (fun i hi => by
    have := V.am1 i hi
    show _ ≤ (if _ then _ else _)
    split <;> omega)
  have h3 := V.n4
  unfold zbl
  omega
theorem zmul_b {x y X Y : Int} (h1 : -X ≤ x) (h2 : x ≤ X) (h3 : 0 ≤ y) (h4 : y ≤ Y) : -(X * Y) ≤ x * y ∧ x * y ≤ X * Y := by
  have hX : 0 ≤ X := by omega
  have a1 : x * y ≤ X * y := Int.mul_le_mul_of_nonneg_right h2 h3
  have a2 : X * y ≤ X * Y := Int.mul_le_mul_of_nonneg_left h4 hX
  have a3 : -X * y ≤ x * y := Int.mul_le_mul_of_nonneg_right h1 h3
  have a4 : -X * y = -(X * y) := Int.neg_mul X y
  omega
theorem zpt_b {a : Ac} (V : Vw a) {d t : Nat} {b : Int} (hb : -17179869184 ≤ b ∧ b ≤ 17179869184) (ht : t ≤ a.nt + 2) : -17180000000 ≤ zpt a d b t ∧ zpt a d b t ≤ 17180000000 := by
  have h6 := zhl_b V (r := 6) (d := d) (by omega)
  simp only [if_true] at h6
  have hw : 0 ≤ zwi a d b ∧ zwi a d b ≤ 17180000000 ∧ 0 ≤ zod b ∧ zod b ≤ 17180000000 := by
    unfold zwi zod
    repeat' split
    all_goals omega
  have hf : t ≤ a.nt → 0 ≤ zfr a t ∧ zfr a t ≤ 99999 := fun z => by
    unfold zfr
    split
    · omega
    · have := V.tt9 (t - 1) (by omega)
      omega
  unfold zpt
  split
  · split <;> omega
  · have hf := hf (by omega)
    split
    · omega
    · split
      · omega
      · unfold zab
        split
        · rename_i z
          have := V.tt9 t z.1
          repeat' split
          all_goals omega
        · split <;> omega
theorem zer_b {a : Ac} (V : Vw a) {d : Nat} {b : Int} (hb : -17179869184 ≤ b ∧ b ≤ 17179869184) : -687200000000000 ≤ zer a d b ∧ zer a d b ≤ 687200000000000 := by
  have h1 : ∀ t, t < a.nt → -(17180000000 * 10000) ≤ zpt a d b t * zhl a t d ∧ zpt a d b t * zhl a t d ≤ 17180000000 * 10000 := fun t ht => by
    have h4 := V.nt4
    have p := zpt_b V (d := d) (t := t) hb (by omega)
    have q := zhl_b V (r := t) (d := d) (Or.inl ht)
    rw [if_neg (by omega)] at q
    exact zmul_b p.1 p.2 q.1 q.2
  have a1 := zsm_le (g := fun t => zpt a d b t * zhl a t d) (n := a.nt) (fun t ht => (h1 t ht).2)
  have a2 := zsm_ge (g := fun t => zpt a d b t * zhl a t d) (n := a.nt) (fun t ht => (h1 t ht).1)
  have h4 := V.nt4
  unfold zer
  omega
theorem zow_b {a : Ac} (V : Vw a) {d : Nat} {b : Int} (hb : -17179869184 ≤ b ∧ b ≤ 17179869184) : -343600000000000 ≤ zow a d b ∧ zow a d b ≤ 343600000000000 := by
  have p1 := zpt_b V (d := d) (t := a.nt + 1) hb (by omega)
  have p2 := zpt_b V (d := d) (t := a.nt + 2) hb (by omega)
  have q1 := zhl_b V (r := 4) (d := d) (by omega)
  have q2 := zhl_b V (r := 5) (d := d) (by omega)
  rw [if_neg (by omega)] at q1 q2
  have m1 := zmul_b p1.1 p1.2 q1.1 q1.2
  have m2 := zmul_b p2.1 p2.2 q2.1 q2.2
  unfold zow
  split <;> omega
theorem zpr_b {a : Ac} (V : Vw a) {d : Nat} {b : Int} (hb : -17179869184 ≤ b ∧ b ≤ 17179869184) : -1030800000000000 ≤ zpr a d b ∧ zpr a d b ≤ 1030800000000000 := by
  have p1 := zer_b V (d := d) hb
  have p2 := zow_b V (d := d) hb
  unfold zpr
  omega
theorem zpz_b {a : Ac} (V : Vw a) {b : Nat → Int} {p : Nat} (hb : ∀ i, i < a.P → -17179869184 ≤ b (a.P * p + i) ∧ b (a.P * p + i) ≤ 17179869184) : -41232000000000000 ≤ zpz a b p ∧ zpz a b p ≤ 41232000000000000 := by
  have a1 := zsm_le (g := fun i => zpr a (a.P * p + i) (b (a.P * p + i))) (n := a.P) (fun t ht => (zpr_b V (hb t ht)).2)
  have a2 := zsm_ge (g := fun i => zpr a (a.P * p + i) (b (a.P * p + i))) (n := a.P) (fun t ht => (zpr_b V (hb t ht)).1)
  have h4 := V.P40
  unfold zpz
  omega
/-! whole numbers and the machine's -/
theorem zl_lt {x y : Int} (h1 : -2 ^ 63 ≤ x) (h2 : x < 2 ^ 63) (h3 : -2 ^ 63 ≤ y) (h4 : y < 2 ^ 63) : zL x < zL y ↔ x < y := by
  rw [Int64.lt_iff_toInt_lt, Int64.toInt_ofInt_of_le h1 h2, Int64.toInt_ofInt_of_le h3 h4]
theorem zl_le {x y : Int} (h1 : -2 ^ 63 ≤ x) (h2 : x < 2 ^ 63) (h3 : -2 ^ 63 ≤ y) (h4 : y < 2 ^ 63) : zL x ≤ zL y ↔ x ≤ y := by
  rw [Int64.le_iff_toInt_le, Int64.toInt_ofInt_of_le h1 h2, Int64.toInt_ofInt_of_le h3 h4]
theorem zl_eq {x y : Int} (h1 : -2 ^ 63 ≤ x) (h2 : x < 2 ^ 63) (h3 : -2 ^ 63 ≤ y) (h4 : y < 2 ^ 63) : zL x = zL y ↔ x = y := by
  rw [← Int64.toInt_inj, Int64.toInt_ofInt_of_le h1 h2, Int64.toInt_ofInt_of_le h3 h4]
theorem zl_lt0 {x : Int} (h1 : -2 ^ 63 ≤ x) (h2 : x < 2 ^ 63) : zL x < 0 ↔ x < 0 := zl_lt (y := 0) h1 h2 (by decide) (by decide)
theorem zl_gt0 {x : Int} (h1 : -2 ^ 63 ≤ x) (h2 : x < 2 ^ 63) : 0 < zL x ↔ 0 < x := zl_lt (x := 0) (by decide) (by decide) h1 h2
theorem zl_le0 {x : Int} (h1 : -2 ^ 63 ≤ x) (h2 : x < 2 ^ 63) : zL x ≤ 0 ↔ x ≤ 0 := zl_le (y := 0) h1 h2 (by decide) (by decide)
theorem zl_ge0 {x : Int} (h1 : -2 ^ 63 ≤ x) (h2 : x < 2 ^ 63) : 0 ≤ zL x ↔ 0 ≤ x := zl_le (x := 0) (by decide) (by decide) h1 h2
theorem zl_eq0 {x : Int} (h1 : -2 ^ 63 ≤ x) (h2 : x < 2 ^ 63) : zL x = 0 ↔ x = 0 := zl_eq (y := 0) h1 h2 (by decide) (by decide)
theorem zl_div {x y : Int} (h1 : 0 ≤ x) (h2 : x < 2 ^ 63) (h3 : 0 < y) (h4 : y < 2 ^ 63) : zL x / zL y = zL (x / y) := by
  rw [← Int.tdiv_eq_ediv_of_nonneg h1]
  have e1 : Int64.minValue.toInt = -2 ^ 63 := rfl
  have e2 : Int64.maxValue.toInt = 2 ^ 63 - 1 := rfl
  exact (Int64.ofInt_tdiv (by rw [e1]; omega) (by rw [e2]; omega) (by rw [e1]; omega) (by rw [e2]; omega)).symm
theorem zn_l {x : Int} (h1 : -2 ^ 31 ≤ x) (h2 : x < 2 ^ 31) : (zN x).toInt64 = zL x := by
  have e1 : Int32.minValue.toInt = -2 ^ 31 := rfl
  have e2 : Int32.maxValue.toInt = 2 ^ 31 - 1 := rfl
  exact Int32.toInt64_ofInt (by rw [e1]; omega) (by rw [e2]; omega)
theorem zn_nI (n : Nat) : zN (n : Int) = nI n := Int32.ofInt_eq_ofNat
theorem zn_eq {x y : Int} (h1 : -2 ^ 31 ≤ x) (h2 : x < 2 ^ 31) (h3 : -2 ^ 31 ≤ y) (h4 : y < 2 ^ 31) : zN x = zN y ↔ x = y := by
  rw [← Int32.toInt_inj, Int32.toInt_ofInt_of_le h1 h2, Int32.toInt_ofInt_of_le h3 h4]
theorem zn_lt {x y : Int} (h1 : -2 ^ 31 ≤ x) (h2 : x < 2 ^ 31) (h3 : -2 ^ 31 ≤ y) (h4 : y < 2 ^ 31) : zN x < zN y ↔ x < y := by
  rw [Int32.lt_iff_toInt_lt, Int32.toInt_ofInt_of_le h1 h2, Int32.toInt_ofInt_of_le h3 h4]
theorem zn_le {x y : Int} (h1 : -2 ^ 31 ≤ x) (h2 : x < 2 ^ 31) (h3 : -2 ^ 31 ≤ y) (h4 : y < 2 ^ 31) : zN x ≤ zN y ↔ x ≤ y := by
  rw [Int32.le_iff_toInt_le, Int32.toInt_ofInt_of_le h1 h2, Int32.toInt_ofInt_of_le h3 h4]
/-- as the machine reckons it -/
theorem znr_m {z : Int} (h1 : -2 ^ 61 ≤ z) (h2 : z ≤ 2 ^ 61) : (if zL z < 0 then -((2 * (if 0 < zL z then zL z else -zL z) + 3600000) / 7200000) else (2 * (if 0 < zL z then zL z else -zL z) + 3600000) / 7200000) = zL (znr z) := by
  have e0 : (if 0 < zL z then zL z else -zL z) = zL (if z < 0 then -z else z) := by
    by_cases h : z < 0
    · rw [if_pos h, if_neg (by rw [zl_gt0 (by omega) (by omega)]; omega)]
      exact (Int64.ofInt_neg z).symm
    · rw [if_neg h]
      by_cases h0 : 0 < z
      · rw [if_pos ((zl_gt0 (by omega) (by omega)).mpr h0)]
      · have : z = 0 := by omega
        subst this
        rfl
  have e1 : ∀ y : Int, 0 ≤ y → y ≤ 2 ^ 61 → (2 * zL y + 3600000) / 7200000 = zL ((2 * y + 3600000) / 7200000) := fun y h3 h4 => by
    rw [← zl_div (by omega) (by omega) (by omega) (by omega)]
    show _ = Int64.ofInt (2 * y + 3600000) / _
    rw [Int64.ofInt_add, Int64.ofInt_mul]
    rfl
  rw [e0]
  unfold znr
  by_cases h : z < 0
  · rw [if_pos ((zl_lt0 (by omega) (by omega)).mpr h), if_pos h, if_pos h, e1 _ (by omega) (by omega)]
    exact (Int64.ofInt_neg _).symm
  · rw [if_neg (by rw [zl_lt0 (by omega) (by omega)]; exact h), if_neg h, if_neg h, e1 _ (by omega) (by omega)]
end
section
/-! the reference's store, as an account -/
def MR (a : Ac) (w : Nat) (I A : mI) (B : mB) : Prop :=
  (ash w = some (0, 606)) ∧
  (w = 44 ∨ w = 45) ∧
  (A w 0 = nI a.P) ∧
  (A w 1 = nI a.N) ∧
  (A w 2 = nI a.K) ∧
  (I 43 7 = nI a.nt) ∧
  (∀ t, t < a.nt → A 48 t = nI (a.tr t)) ∧
  (∀ t, t < a.nt → A 49 t = nI (a.tt t)) ∧
  (∀ k, k < 3 → A 50 k = nI (a.db k)) ∧
  (I 43 13 = nI a.nc) ∧
  (∀ k, k < a.nc → A 51 k = nI (a.cd k)) ∧
  (∀ k, k < a.nc → A 52 k = nI (a.co k)) ∧
  (∀ k, k < a.nc → A 53 k = nI (a.cv k)) ∧
  (I 43 19 = nI a.n) ∧
  (∀ j, j < a.n → A 54 j = nI (a.so j)) ∧
  (∀ j, j < a.n → B 55 j = zL (a.am j)) ∧
  (∀ j, j < a.n → A 56 j = nI (a.va j)) ∧
  (∀ j, j < a.n → A 57 j = nI (a.pg j)) ∧
  (∀ j, j < a.n → A 58 j = a.og j) ∧
  (I 43 20 = nI a.c) ∧
  (I 43 21 = fI a.ti) ∧
  (a.ti ≠ none → I 43 22 = zN a.tb) ∧
  (I 43 23 = fI a.fo)
theorem MR.hw {a : Ac} {w : Nat} {I A : mI} {B : mB} (self : MR a w I A B) : ash w = some (0, 606) := self.1
theorem MR.w5 {a : Ac} {w : Nat} {I A : mI} {B : mB} (self : MR a w I A B) : w = 44 ∨ w = 45 := self.2.1
theorem MR.hP {a : Ac} {w : Nat} {I A : mI} {B : mB} (self : MR a w I A B) : A w 0 = nI a.P := self.2.2.1
theorem MR.hN {a : Ac} {w : Nat} {I A : mI} {B : mB} (self : MR a w I A B) : A w 1 = nI a.N := self.2.2.2.1
theorem MR.hK {a : Ac} {w : Nat} {I A : mI} {B : mB} (self : MR a w I A B) : A w 2 = nI a.K := self.2.2.2.2.1
theorem MR.hnt {a : Ac} {w : Nat} {I A : mI} {B : mB} (self : MR a w I A B) : I 43 7 = nI a.nt := self.2.2.2.2.2.1
theorem MR.htr {a : Ac} {w : Nat} {I A : mI} {B : mB} (self : MR a w I A B) : ∀ t, t < a.nt → A 48 t = nI (a.tr t) := self.2.2.2.2.2.2.1
theorem MR.htt {a : Ac} {w : Nat} {I A : mI} {B : mB} (self : MR a w I A B) : ∀ t, t < a.nt → A 49 t = nI (a.tt t) := self.2.2.2.2.2.2.2.1
theorem MR.hdb {a : Ac} {w : Nat} {I A : mI} {B : mB} (self : MR a w I A B) : ∀ k, k < 3 → A 50 k = nI (a.db k) := self.2.2.2.2.2.2.2.2.1
theorem MR.hnc {a : Ac} {w : Nat} {I A : mI} {B : mB} (self : MR a w I A B) : I 43 13 = nI a.nc := self.2.2.2.2.2.2.2.2.2.1
theorem MR.hcd {a : Ac} {w : Nat} {I A : mI} {B : mB} (self : MR a w I A B) : ∀ k, k < a.nc → A 51 k = nI (a.cd k) := self.2.2.2.2.2.2.2.2.2.2.1
theorem MR.hco {a : Ac} {w : Nat} {I A : mI} {B : mB} (self : MR a w I A B) : ∀ k, k < a.nc → A 52 k = nI (a.co k) := self.2.2.2.2.2.2.2.2.2.2.2.1
theorem MR.hcv {a : Ac} {w : Nat} {I A : mI} {B : mB} (self : MR a w I A B) : ∀ k, k < a.nc → A 53 k = nI (a.cv k) := self.2.2.2.2.2.2.2.2.2.2.2.2.1
theorem MR.hn {a : Ac} {w : Nat} {I A : mI} {B : mB} (self : MR a w I A B) : I 43 19 = nI a.n := self.2.2.2.2.2.2.2.2.2.2.2.2.2.1
theorem MR.hso {a : Ac} {w : Nat} {I A : mI} {B : mB} (self : MR a w I A B) : ∀ j, j < a.n → A 54 j = nI (a.so j) := self.2.2.2.2.2.2.2.2.2.2.2.2.2.2.1
theorem MR.ham {a : Ac} {w : Nat} {I A : mI} {B : mB} (self : MR a w I A B) : ∀ j, j < a.n → B 55 j = zL (a.am j) := self.2.2.2.2.2.2.2.2.2.2.2.2.2.2.2.1
theorem MR.hva {a : Ac} {w : Nat} {I A : mI} {B : mB} (self : MR a w I A B) : ∀ j, j < a.n → A 56 j = nI (a.va j) := self.2.2.2.2.2.2.2.2.2.2.2.2.2.2.2.2.1
theorem MR.hpg {a : Ac} {w : Nat} {I A : mI} {B : mB} (self : MR a w I A B) : ∀ j, j < a.n → A 57 j = nI (a.pg j) := self.2.2.2.2.2.2.2.2.2.2.2.2.2.2.2.2.2.1
theorem MR.hog {a : Ac} {w : Nat} {I A : mI} {B : mB} (self : MR a w I A B) : ∀ j, j < a.n → A 58 j = a.og j := self.2.2.2.2.2.2.2.2.2.2.2.2.2.2.2.2.2.2.1
theorem MR.hc {a : Ac} {w : Nat} {I A : mI} {B : mB} (self : MR a w I A B) : I 43 20 = nI a.c := self.2.2.2.2.2.2.2.2.2.2.2.2.2.2.2.2.2.2.2.1
theorem MR.hti {a : Ac} {w : Nat} {I A : mI} {B : mB} (self : MR a w I A B) : I 43 21 = fI a.ti := self.2.2.2.2.2.2.2.2.2.2.2.2.2.2.2.2.2.2.2.2.1
theorem MR.htb {a : Ac} {w : Nat} {I A : mI} {B : mB} (self : MR a w I A B) : a.ti ≠ none → I 43 22 = zN a.tb := self.2.2.2.2.2.2.2.2.2.2.2.2.2.2.2.2.2.2.2.2.2.1
theorem MR.hfo {a : Ac} {w : Nat} {I A : mI} {B : mB} (self : MR a w I A B) : I 43 23 = fI a.fo := self.2.2.2.2.2.2.2.2.2.2.2.2.2.2.2.2.2.2.2.2.2.2
theorem MR.mk {a : Ac} {w : Nat} {I A : mI} {B : mB} (h_hw : ash w = some (0, 606)) (h_w5 : w = 44 ∨ w = 45) (h_hP : A w 0 = nI a.P) (h_hN : A w 1 = nI a.N) (h_hK : A w 2 = nI a.K) (h_hnt : I 43 7 = nI a.nt) (h_htr : ∀ t, t < a.nt → A 48 t = nI (a.tr t)) (h_htt : ∀ t, t < a.nt → A 49 t = nI (a.tt t)) (h_hdb : ∀ k, k < 3 → A 50 k = nI (a.db k)) (h_hnc : I 43 13 = nI a.nc) (h_hcd : ∀ k, k < a.nc → A 51 k = nI (a.cd k)) (h_hco : ∀ k, k < a.nc → A 52 k = nI (a.co k)) (h_hcv : ∀ k, k < a.nc → A 53 k = nI (a.cv k)) (h_hn : I 43 19 = nI a.n) (h_hso : ∀ j, j < a.n → A 54 j = nI (a.so j)) (h_ham : ∀ j, j < a.n → B 55 j = zL (a.am j)) (h_hva : ∀ j, j < a.n → A 56 j = nI (a.va j)) (h_hpg : ∀ j, j < a.n → A 57 j = nI (a.pg j)) (h_hog : ∀ j, j < a.n → A 58 j = a.og j) (h_hc : I 43 20 = nI a.c) (h_hti : I 43 21 = fI a.ti) (h_htb : a.ti ≠ none → I 43 22 = zN a.tb) (h_hfo : I 43 23 = fI a.fo) : MR a w I A B := ⟨h_hw, h_w5, h_hP, h_hN, h_hK, h_hnt, h_htr, h_htt, h_hdb, h_hnc, h_hcd, h_hco, h_hcv, h_hn, h_hso, h_ham, h_hva, h_hpg, h_hog, h_hc, h_hti, h_htb, h_hfo⟩
theorem MR.fB {a : Ac} {w : Nat} {I A : mI} {B B' : mB} (M : MR a w I A B) (h : B' 55 = B 55) : MR a w I A B' :=
  (MR.mk (MR.hw M) (MR.w5 M) (MR.hP M) (MR.hN M) (MR.hK M) (MR.hnt M) (MR.htr M) (MR.htt M) (MR.hdb M) (MR.hnc M) (MR.hcd M) (MR.hco M) (MR.hcv M) (MR.hn M) (MR.hso M) (fun j hj => by rw [h]; exact M.ham j hj) (MR.hva M) (MR.hpg M) (MR.hog M) (MR.hc M) (MR.hti M) (MR.htb M) (MR.hfo M))
/-- what stays, whatever is asked of the reference -/
def fM (I A : mI) (B : mB) (I' A' : mI) (B' : mB) : Prop :=
  (∀ k, k ≤ 42 ∨ 65 ≤ k → I' k = I k ∧ A' k = A k ∧ B' k = B k) ∧
  (∀ j, j ≠ 7 → j ≠ 9 → j ≠ 13 → j ≠ 19 → j ≠ 20 → j ≠ 21 → j ≠ 22 → j ≠ 23 → I' 43 j = I 43 j) ∧
  (∀ r, r = 44 ∨ r = 45 ∨ r = 46 ∨ r = 47 ∨ r = 60 → A' r = A r)
theorem fM.out {I A : mI} {B : mB} {I' A' : mI} {B' : mB} (self : fM I A B I' A' B') : ∀ k, k ≤ 42 ∨ 65 ≤ k → I' k = I k ∧ A' k = A k ∧ B' k = B k := self.1
theorem fM.i43 {I A : mI} {B : mB} {I' A' : mI} {B' : mB} (self : fM I A B I' A' B') : ∀ j, j ≠ 7 → j ≠ 9 → j ≠ 13 → j ≠ 19 → j ≠ 20 → j ≠ 21 → j ≠ 22 → j ≠ 23 → I' 43 j = I 43 j := self.2.1
theorem fM.row {I A : mI} {B : mB} {I' A' : mI} {B' : mB} (self : fM I A B I' A' B') : ∀ r, r = 44 ∨ r = 45 ∨ r = 46 ∨ r = 47 ∨ r = 60 → A' r = A r := self.2.2
theorem fM.mk {I A : mI} {B : mB} {I' A' : mI} {B' : mB} (h_out : ∀ k, k ≤ 42 ∨ 65 ≤ k → I' k = I k ∧ A' k = A k ∧ B' k = B k) (h_i43 : ∀ j, j ≠ 7 → j ≠ 9 → j ≠ 13 → j ≠ 19 → j ≠ 20 → j ≠ 21 → j ≠ 22 → j ≠ 23 → I' 43 j = I 43 j) (h_row : ∀ r, r = 44 ∨ r = 45 ∨ r = 46 ∨ r = 47 ∨ r = 60 → A' r = A r) : fM I A B I' A' B' := ⟨h_out, h_i43, h_row⟩
theorem fM.refl (I A : mI) (B : mB) : fM I A B I A B := ⟨fun _ _ => ⟨rfl, rfl, rfl⟩, fun _ _ _ _ _ _ _ _ _ => rfl, fun _ _ => rfl⟩
theorem fM.trans {I A : mI} {B : mB} {I' A' : mI} {B' : mB} {I2 A2 : mI} {B2 : mB} (h : fM I A B I' A' B') (h2 : fM I' A' B' I2 A2 B2) : fM I A B I2 A2 B2 :=
  ⟨fun k hk => ⟨(h2.out k hk).1.trans (h.out k hk).1, (h2.out k hk).2.1.trans (h.out k hk).2.1, (h2.out k hk).2.2.trans (h.out k hk).2.2⟩,
   fun j a1 a2 a3 a4 a5 a6 a7 a8 => (h2.i43 j a1 a2 a3 a4 a5 a6 a7 a8).trans (h.i43 j a1 a2 a3 a4 a5 a6 a7 a8), fun r hr => (h2.row r hr).trans (h.row r hr)⟩
theorem fM.ofB {I A : mI} {B B' : mB} (h : ∀ r, r ≤ 42 ∨ 65 ≤ r → B' r = B r) : fM I A B I A B' := ⟨fun k hk => ⟨rfl, rfl, h k hk⟩, fun _ _ _ _ _ _ _ _ _ => rfl, fun _ _ => rfl⟩
theorem fM.b59 {I A : mI} {B B' : mB} (h : ∀ r, r ≠ 59 → B' r = B r) : fM I A B I A B' := fM.ofB (fun r hr => h r (by omega))
/-- an answer that leaves the account -/
def qM (a : Ac) (w f : Nat) (I A : mI) (B : mB) (R : mR) (v : Option Value) : Prop := ∀ I' A' B', MR a w I' A' B' → fM I A B I' A' B' → R v I' A' B' (pk w f)
theorem zhl_f {a : Ac} {d v : Nat} (h : a.fo = some v) : zhl a 6 d = v := by simp [zhl, h]
theorem zhl_t {a : Ac} {r d : Nat} (h : ¬ (r = 6 ∧ a.fo.isSome = true)) (h2 : a.ti = some r) : zhl a r d = if 0 < (zlt a r d a.nc).2 + a.tb then (zlt a r d a.nc).2 + a.tb else 0 := by
  unfold zhl
  rw [if_neg h, if_pos h2]
theorem zhl_n {a : Ac} {r d : Nat} (h : ¬ (r = 6 ∧ a.fo.isSome = true)) (h2 : ¬ a.ti = some r) : zhl a r d = (zlt a r d a.nc).2 := by
  unfold zhl
  rw [if_neg h, if_neg h2]
theorem fI_no {o : Option Nat} (h : ∀ v, o = some v → v < 2 ^ 31) : fI o = -1 ↔ o = none := by
  cases o with
  | none => exact ⟨fun _ => rfl, fun _ => rfl⟩
  | some v =>
    refine ⟨fun z => absurd z (fun e => ?_), fun z => by cases z⟩
    have := nI_pos (h v rfl)
    rw [show nI v = -1 from e] at this
    exact this (by decide)
theorem fI_so {o : Option Nat} {r : Nat} (h : ∀ v, o = some v → v < 2 ^ 31) (hr : r < 2 ^ 31) : nI r = fI o ↔ o = some r := by
  cases o with
  | none =>
    refine ⟨fun z => ?_, fun z => by cases z⟩
    have := nI_pos hr
    rw [show nI r = -1 from z] at this
    exact absurd (by decide) this
  | some v =>
    refine ⟨fun z => ?_, fun z => ?_⟩
    · have := (nI_eq hr (h v rfl)).mp z
      rw [this]
    · cases z
      rfl
theorem zsm_m {g : Nat → Int} {h : Nat → Int64} : ∀ {n : Nat}, (∀ i, i < n → h i = zL (g i)) → sm h n = zL (zsm g n)
  | 0, _ => rfl
  | n + 1, e => by rw [sm, zsm, zsm_m (fun i hi => e i (by omega)), e n (by omega)]; exact (Int64.ofInt_add _ _).symm
theorem zL_add {x y : Int} : zL x + zL y = zL (x + y) := (Int64.ofInt_add x y).symm
theorem zL_sub {x y : Int} : zL x - zL y = zL (x - y) := (Int64.ofInt_sub x y).symm
theorem zL_mul {x y : Int} : zL x * zL y = zL (x * y) := (Int64.ofInt_mul x y).symm
theorem zL_neg {x : Int} : -zL x = zL (-x) := (Int64.ofInt_neg x).symm
theorem nI_z (n : Nat) : nI n = zN n := (zn_nI n).symm
theorem nL {n : Nat} (h : n < 2 ^ 31) : (nI n).toInt64 = zL n := by rw [nI_z, zn_l (by omega) (by omega)]
end
section
/-! contracts of the reference: interest (written by wip/whole/gm1.py) -/
set_option maxRecDepth 20000 in
theorem c_Mholds {J : mJ} (X : mRules J) {I A : mI} {B : mB} {w f : Nat} {R : mR} {a : Ac} (M : MR a w I A B) (V : Vw a) {r d : Nat} (hr : r < a.nt ∨ 4 ≤ r ∧ r ≤ 6) (hd : d < 2 ^ 20) (h : R (some (.int (zN (zhl a r d)))) I A B (pk w f)) : J n_M_holds 0 [.ref 43, .int (nI r), .int (nI d), .float 0, .float 0, .float 0] [] I A B (pk w f) R := by
  have hnt4 := V.nt4
  have hnc4 := V.nc4
  have hr6 : r ≤ 6 := by omega
  have hG : ¬ (r = 6 ∧ a.fo.isSome = true) → ∀ (v s x : Int32), v = zN (zlt a r d 0).2 → s = -1 → x = 0 → J n_M_holds 48 [.ref 43, .int (nI r), .int (nI d), .int v, .int s, .int x] [] I A B (pk w f) R := by
    intro hfo
    have G : ∀ i, i ≤ a.nc → ∀ (v : Int32) (s : Int32) (x : Int32), v = zN (zlt a r d i).2 → s = zN (zlt a r d i).1 → x = nI i → J n_M_holds 48 [.ref 43, .int (nI r), .int (nI d), .int v, .int s, .int x] [] I A B (pk w f) R := by
      refine lpz (fun i => ∀ (v : Int32) (s : Int32) (x : Int32), v = zN (zlt a r d i).2 → s = zN (zlt a r d i).1 → x = nI i → J n_M_holds 48 [.ref 43, .int (nI r), .int (nI d), .int v, .int s, .int x] [] I A B (pk w f) R) (fun i hi ih => ?_)
      intro v s x ev es ex
      subst ev; subst es; subst ex
      refine X 200 _ _ _ _ _ _ _ _ _ ?_
      refine And.intro (fun q1 => ?_) (fun q1 => ?_)
      · rw [M.hnc] at q1
        have e := lpx hi (by omega) q1
        subst e
        refine And.intro (fun q2 => ?_) (fun q2 => ?_)
        · rw [M.hti] at q2
          have ct : ¬ a.ti = some r := fun z => q2 ((fI_so (fun v hv => by have := V.ti4 v hv; omega) (by omega)).mpr z)
          rw [zhl_n hfo ct] at h
          exact h
        · rw [M.hti] at q2
          have ct : a.ti = some r := (fI_so (fun v hv => by have := V.ti4 v hv; omega) (by omega)).mp q2
          have hzb := zlt_b V (d := d) hr (Nat.le_refl a.nc)
          have htb := V.tb5
          have e : (if (0 : Int32) < zN (zlt a r d a.nc).2 + I 43 22 then zN (zlt a r d a.nc).2 + I 43 22 else 0) = zN (zhl a r d) := by
            rw [zhl_t hfo ct, M.htb (by rw [ct]; simp), ← Int32.ofInt_add]
            have hb2 : (zlt a r d a.nc).2 ≤ 99999 := by have := hzb.2.1; split at this <;> omega
            by_cases z : 0 < (zlt a r d a.nc).2 + a.tb
            · rw [if_pos z, if_pos (show (0 : Int32) < zN ((zlt a r d a.nc).2 + a.tb) from (zn_lt (x := 0) (by omega) (by omega) (by omega) (by omega)).mpr z)]
            · rw [if_neg z, if_neg (fun y : (0 : Int32) < zN ((zlt a r d a.nc).2 + a.tb) => z ((zn_lt (x := 0) (by omega) (by omega) (by omega) (by omega)).mp y))]
              rfl
          rw [← e] at h
          exact h
      · rw [M.hnc] at q1
        have hl := lpc hi (by omega) q1
        have hb31 : i < 2 ^ 31 := by omega
        have hcd3 := V.cd3 i hl
        have hco6 := V.co6 i hl
        have hzb := zlt_b V (d := d) hr (k := i) hi
        refine Exists.intro _ (And.intro rfl (And.intro (vin (by omega) (by omega)) ?_))
        refine And.intro (fun q3 => ?_) (fun q3 => ?_)
        · have c1 : a.co i ≠ r := fun z => q3 (by rw [cl hb31, M.hco i hl, z])
          have e : zlt a r d (i + 1) = zlt a r d i := if_pos (by omega)
          exact ih hl _ _ _ (by rw [e]) (by rw [e]) (nI_1 i)
        · rw [cl hb31, M.hco i hl] at q3
          have c1 : a.co i = r := (nI_eq (by omega) (by omega)).mp q3
          refine Exists.intro _ (And.intro rfl (And.intro (vin (by omega) (by omega)) ?_))
          refine And.intro (fun q4 => ?_) (fun q4 => ?_)
          · rw [cl hb31, M.hcd i hl] at q4
            have c2 : d < a.cd i := (nI_ltI (by omega) (by omega)).mp q4
            have e : zlt a r d (i + 1) = zlt a r d i := if_pos (by omega)
            exact ih hl _ _ _ (by rw [e]) (by rw [e]) (nI_1 i)
          · rw [cl hb31, M.hcd i hl] at q4
            have c2 : ¬ d < a.cd i := fun z => q4 (nI_lt z (by omega))
            refine Exists.intro _ (And.intro rfl (And.intro (vin (by omega) (by omega)) ?_))
            refine And.intro (fun q5 => ?_) (fun q5 => ?_)
            · rw [cl hb31, M.hcd i hl, nI_z] at q5
              have c3 : ¬ (a.cd i : Int) < (zlt a r d i).1 := by have := (zn_le (by omega) (by omega) (by omega) (by omega)).mp q5; omega
              refine Exists.intro _ (And.intro rfl (And.intro (vin (by omega) (by omega)) ?_))
              refine Exists.intro _ (And.intro rfl (And.intro (vin (by omega) (by omega)) ?_))
              have e : zlt a r d (i + 1) = ((a.cd i : Int), (a.cv i : Int)) := if_neg (by omega)
              exact ih hl _ _ _ (by rw [e, cl hb31, M.hcv i hl, nI_z]) (by rw [e, cl hb31, M.hcd i hl, nI_z]) (nI_1 i)
            · rw [cl hb31, M.hcd i hl, nI_z] at q5
              have c3 : (a.cd i : Int) < (zlt a r d i).1 := by have := fun z => q5 ((zn_le (by omega) (by omega) (by omega) (by omega)).mpr z); omega
              have e : zlt a r d (i + 1) = zlt a r d i := if_pos (by omega)
              exact ih hl _ _ _ (by rw [e]) (by rw [e]) (nI_1 i)
    exact fun v s x e1 e2 e3 => G 0 (Nat.zero_le _) v s x e1 e2 e3
  refine X 200 _ _ _ _ _ _ _ _ _ ?_
  refine And.intro (fun q1 => ?_) (fun q1 => ?_)
  · refine And.intro (fun q2 => ?_) (fun q2 => ?_)
    · refine Exists.intro _ (And.intro rfl (And.intro (by first | (have h4 : r < 4 := Nat.lt_of_not_le (fun z => (by assumption : ¬ (4 : Int32) ≤ nI r) (nI_le (a := 4) z (by omega))); exact vin (by omega) (by omega)) | (have h4 : 4 ≤ r := (nI_leI (a := 4) (by omega) (by omega)).mp (by assumption); have e1 : nI r - 4 = nI (r - 4) := pk_sub (b := 4) h4; rw [e1]; exact vin (by omega) (by omega))) ?_))
      exact hG (fun z => q1 (by rw [z.1]; rfl)) _ _ _ (by
        have h4 : 4 ≤ r := (nI_leI (a := 4) (by omega) (by omega)).mp q2
        have e1 : nI r - 4 = nI (r - 4) := pk_sub (b := 4) h4
        rw [e1, cl (by omega), M.hdb (r - 4) (by omega), nI_z]
        show _ = zN (if r < 4 then _ else _)
        rw [if_neg (by omega)]) rfl rfl
    · refine Exists.intro _ (And.intro rfl (And.intro (by first | (have h4 : r < 4 := Nat.lt_of_not_le (fun z => (by assumption : ¬ (4 : Int32) ≤ nI r) (nI_le (a := 4) z (by omega))); exact vin (by omega) (by omega)) | (have h4 : 4 ≤ r := (nI_leI (a := 4) (by omega) (by omega)).mp (by assumption); have e1 : nI r - 4 = nI (r - 4) := pk_sub (b := 4) h4; rw [e1]; exact vin (by omega) (by omega))) ?_))
      exact hG (fun z => q1 (by rw [z.1]; rfl)) _ _ _ (by
        have h4 : r < 4 := Nat.lt_of_not_le (fun z => q2 (nI_le (a := 4) z (by omega)))
        rw [cl (by omega), M.htr r (by omega), nI_z]
        show _ = zN (if r < 4 then _ else _)
        rw [if_pos h4]) rfl rfl
  · refine And.intro (fun q3 => ?_) (fun q3 => ?_)
    · refine And.intro (fun q4 => ?_) (fun q4 => ?_)
      · refine Exists.intro _ (And.intro rfl (And.intro (by first | (have h4 : r < 4 := Nat.lt_of_not_le (fun z => (by assumption : ¬ (4 : Int32) ≤ nI r) (nI_le (a := 4) z (by omega))); exact vin (by omega) (by omega)) | (have h4 : 4 ≤ r := (nI_leI (a := 4) (by omega) (by omega)).mp (by assumption); have e1 : nI r - 4 = nI (r - 4) := pk_sub (b := 4) h4; rw [e1]; exact vin (by omega) (by omega))) ?_))
        exact hG (fun z => by
          rw [M.hfo, fI_no (fun v hv => by have := V.fo9 v hv; omega)] at q3
          rw [q3] at z
          cases z.2) _ _ _ (by
          have h4 : 4 ≤ r := (nI_leI (a := 4) (by omega) (by omega)).mp q4
          have e1 : nI r - 4 = nI (r - 4) := pk_sub (b := 4) h4
          rw [e1, cl (by omega), M.hdb (r - 4) (by omega), nI_z]
          show _ = zN (if r < 4 then _ else _)
          rw [if_neg (by omega)]) rfl rfl
      · refine Exists.intro _ (And.intro rfl (And.intro (by first | (have h4 : r < 4 := Nat.lt_of_not_le (fun z => (by assumption : ¬ (4 : Int32) ≤ nI r) (nI_le (a := 4) z (by omega))); exact vin (by omega) (by omega)) | (have h4 : 4 ≤ r := (nI_leI (a := 4) (by omega) (by omega)).mp (by assumption); have e1 : nI r - 4 = nI (r - 4) := pk_sub (b := 4) h4; rw [e1]; exact vin (by omega) (by omega))) ?_))
        exact hG (fun z => by
          rw [M.hfo, fI_no (fun v hv => by have := V.fo9 v hv; omega)] at q3
          rw [q3] at z
          cases z.2) _ _ _ (by
          have h4 : r < 4 := Nat.lt_of_not_le (fun z => q4 (nI_le (a := 4) z (by omega)))
          rw [cl (by omega), M.htr r (by omega), nI_z]
          show _ = zN (if r < 4 then _ else _)
          rw [if_pos h4]) rfl rfl
    · have e6 : r = 6 := (nI_eq (b := 6) (by omega) (by omega)).mp (by first | exact q1 | exact Classical.not_not.mp q1)
      subst e6
      cases hf : a.fo with
      | none => exact absurd (by rw [M.hfo, hf]; rfl) q3
      | some v =>
        rw [zhl_f hf, zn_nI] at h
        have e := M.hfo
        rw [hf] at e
        show R (some (.int (I 43 23))) I A B (pk w f)
        rw [e]
        exact h
end
