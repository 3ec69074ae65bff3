-- ===== PART A: goes FIRST, ahead of the names: the tables' words, and 'selects' of the private methods out of them =====
/-- a private method of a class that the tables say can be made, by its rows of tables_1 -/
def lw_okq (q : MethodName × Nat) : Prop := (q.1.cls ≠ "java/lang/invoke/MethodHandle" ∧ q.1.cls ≠ "java/lang/invoke/VarHandle") ∧ Cond.instantiable q.1.cls q.2 ∈ tables_1 ∧ Cond.privateMethod q.1 ∈ tables_1 ∧ Cond.instanceMethod q.1 ∈ tables_1
theorem lw_p0 : lw_okq (⟨"HalfByFive", "refuse", "(I)I"⟩, 12) := ⟨⟨by decide +kernel, by decide +kernel⟩, List.mem_of_getElem? (i := 22) (by decide +kernel), List.mem_of_getElem? (i := 312) (by decide +kernel), List.mem_of_getElem? (i := 313) (by decide +kernel)⟩
theorem lw_p1 : lw_okq (⟨"HalfByFive$Market", "startAnew", "(II)V"⟩, 17) := ⟨⟨by decide +kernel, by decide +kernel⟩, List.mem_of_getElem? (i := 30) (by decide +kernel), List.mem_of_getElem? (i := 316) (by decide +kernel), List.mem_of_getElem? (i := 317) (by decide +kernel)⟩
theorem lw_p2 : lw_okq (⟨"HalfByFive$Market", "priceIn", "(I)I"⟩, 17) := ⟨⟨by decide +kernel, by decide +kernel⟩, List.mem_of_getElem? (i := 30) (by decide +kernel), List.mem_of_getElem? (i := 331) (by decide +kernel), List.mem_of_getElem? (i := 332) (by decide +kernel)⟩
theorem lw_p3 : lw_okq (⟨"HalfByFive$Market", "setPricesFrom", "(II)V"⟩, 17) := ⟨⟨by decide +kernel, by decide +kernel⟩, List.mem_of_getElem? (i := 30) (by decide +kernel), List.mem_of_getElem? (i := 335) (by decide +kernel), List.mem_of_getElem? (i := 336) (by decide +kernel)⟩
theorem lw_p4 : lw_okq (⟨"HalfByFive$Market", "theirPriceIn", "(I)I"⟩, 17) := ⟨⟨by decide +kernel, by decide +kernel⟩, List.mem_of_getElem? (i := 30) (by decide +kernel), List.mem_of_getElem? (i := 346) (by decide +kernel), List.mem_of_getElem? (i := 347) (by decide +kernel)⟩
theorem lw_p5 : lw_okq (⟨"HalfByFive$Market", "setTheirPrice", "(II)V"⟩, 17) := ⟨⟨by decide +kernel, by decide +kernel⟩, List.mem_of_getElem? (i := 30) (by decide +kernel), List.mem_of_getElem? (i := 350) (by decide +kernel), List.mem_of_getElem? (i := 351) (by decide +kernel)⟩
theorem lw_p6 : lw_okq (⟨"HalfByFive$Market", "addBuyer", "(IIII)V"⟩, 17) := ⟨⟨by decide +kernel, by decide +kernel⟩, List.mem_of_getElem? (i := 30) (by decide +kernel), List.mem_of_getElem? (i := 362) (by decide +kernel), List.mem_of_getElem? (i := 363) (by decide +kernel)⟩
theorem lw_p7 : lw_okq (⟨"HalfByFive$Reader", "addByte", "(I)V"⟩, 6) := ⟨⟨by decide +kernel, by decide +kernel⟩, List.mem_of_getElem? (i := 242) (by decide +kernel), List.mem_of_getElem? (i := 370) (by decide +kernel), List.mem_of_getElem? (i := 371) (by decide +kernel)⟩
theorem lw_p8 : lw_okq (⟨"HalfByFive$Reader", "readInto", "(LHalfByFive$Market;)I"⟩, 6) := ⟨⟨by decide +kernel, by decide +kernel⟩, List.mem_of_getElem? (i := 242) (by decide +kernel), List.mem_of_getElem? (i := 382) (by decide +kernel), List.mem_of_getElem? (i := 383) (by decide +kernel)⟩
theorem lw_p9 : lw_okq (⟨"HalfByFive$Reader", "step", "()V"⟩, 6) := ⟨⟨by decide +kernel, by decide +kernel⟩, List.mem_of_getElem? (i := 242) (by decide +kernel), List.mem_of_getElem? (i := 386) (by decide +kernel), List.mem_of_getElem? (i := 387) (by decide +kernel)⟩
theorem lw_p10 : lw_okq (⟨"HalfByFive$Reader", "byteAt", "(I)I"⟩, 6) := ⟨⟨by decide +kernel, by decide +kernel⟩, List.mem_of_getElem? (i := 242) (by decide +kernel), List.mem_of_getElem? (i := 390) (by decide +kernel), List.mem_of_getElem? (i := 391) (by decide +kernel)⟩
theorem lw_p11 : lw_okq (⟨"HalfByFive$Reader", "readsMarket", "(LHalfByFive$Market;)Z"⟩, 6) := ⟨⟨by decide +kernel, by decide +kernel⟩, List.mem_of_getElem? (i := 242) (by decide +kernel), List.mem_of_getElem? (i := 400) (by decide +kernel), List.mem_of_getElem? (i := 401) (by decide +kernel)⟩
theorem lw_p12 : lw_okq (⟨"HalfByFive$Reader", "isWord", "(Ljava/lang/String;)Z"⟩, 6) := ⟨⟨by decide +kernel, by decide +kernel⟩, List.mem_of_getElem? (i := 242) (by decide +kernel), List.mem_of_getElem? (i := 405) (by decide +kernel), List.mem_of_getElem? (i := 406) (by decide +kernel)⟩
theorem lw_p13 : lw_okq (⟨"HalfByFive$Reader", "readNumber", "(II)I"⟩, 6) := ⟨⟨by decide +kernel, by decide +kernel⟩, List.mem_of_getElem? (i := 242) (by decide +kernel), List.mem_of_getElem? (i := 457) (by decide +kernel), List.mem_of_getElem? (i := 458) (by decide +kernel)⟩
theorem lw_p14 : lw_okq (⟨"HalfByFive$Reader", "readsStop", "()Z"⟩, 6) := ⟨⟨by decide +kernel, by decide +kernel⟩, List.mem_of_getElem? (i := 242) (by decide +kernel), List.mem_of_getElem? (i := 462) (by decide +kernel), List.mem_of_getElem? (i := 463) (by decide +kernel)⟩
theorem lw_p15 : lw_okq (⟨"HalfByFive$Reader", "readsItem", "(LHalfByFive$Market;)Z"⟩, 6) := ⟨⟨by decide +kernel, by decide +kernel⟩, List.mem_of_getElem? (i := 242) (by decide +kernel), List.mem_of_getElem? (i := 467) (by decide +kernel), List.mem_of_getElem? (i := 468) (by decide +kernel)⟩
def lw_privs_1 : List (MethodName × Nat) := [(⟨"HalfByFive", "refuse", "(I)I"⟩, 12), (⟨"HalfByFive$Market", "startAnew", "(II)V"⟩, 17), (⟨"HalfByFive$Market", "priceIn", "(I)I"⟩, 17), (⟨"HalfByFive$Market", "setPricesFrom", "(II)V"⟩, 17), (⟨"HalfByFive$Market", "theirPriceIn", "(I)I"⟩, 17), (⟨"HalfByFive$Market", "setTheirPrice", "(II)V"⟩, 17), (⟨"HalfByFive$Market", "addBuyer", "(IIII)V"⟩, 17), (⟨"HalfByFive$Reader", "addByte", "(I)V"⟩, 6), (⟨"HalfByFive$Reader", "readInto", "(LHalfByFive$Market;)I"⟩, 6), (⟨"HalfByFive$Reader", "step", "()V"⟩, 6), (⟨"HalfByFive$Reader", "byteAt", "(I)I"⟩, 6), (⟨"HalfByFive$Reader", "readsMarket", "(LHalfByFive$Market;)Z"⟩, 6), (⟨"HalfByFive$Reader", "isWord", "(Ljava/lang/String;)Z"⟩, 6), (⟨"HalfByFive$Reader", "readNumber", "(II)I"⟩, 6), (⟨"HalfByFive$Reader", "readsStop", "()Z"⟩, 6), (⟨"HalfByFive$Reader", "readsItem", "(LHalfByFive$Market;)Z"⟩, 6)]
theorem lw_r1 : ∀ q ∈ lw_privs_1, lw_okq q := List.forall_mem_cons.mpr ⟨lw_p0, List.forall_mem_cons.mpr ⟨lw_p1, List.forall_mem_cons.mpr ⟨lw_p2, List.forall_mem_cons.mpr ⟨lw_p3, List.forall_mem_cons.mpr ⟨lw_p4, List.forall_mem_cons.mpr ⟨lw_p5, List.forall_mem_cons.mpr ⟨lw_p6, List.forall_mem_cons.mpr ⟨lw_p7, List.forall_mem_cons.mpr ⟨lw_p8, List.forall_mem_cons.mpr ⟨lw_p9, List.forall_mem_cons.mpr ⟨lw_p10, List.forall_mem_cons.mpr ⟨lw_p11, List.forall_mem_cons.mpr ⟨lw_p12, List.forall_mem_cons.mpr ⟨lw_p13, List.forall_mem_cons.mpr ⟨lw_p14, List.forall_mem_cons.mpr ⟨lw_p15, fun _ h => absurd h List.not_mem_nil⟩⟩⟩⟩⟩⟩⟩⟩⟩⟩⟩⟩⟩⟩⟩⟩
theorem lw_p16 : lw_okq (⟨"HalfByFive$Reader", "readsPrice", "(LHalfByFive$Market;)Z"⟩, 6) := ⟨⟨by decide +kernel, by decide +kernel⟩, List.mem_of_getElem? (i := 242) (by decide +kernel), List.mem_of_getElem? (i := 472) (by decide +kernel), List.mem_of_getElem? (i := 473) (by decide +kernel)⟩
theorem lw_p17 : lw_okq (⟨"HalfByFive$Reader", "readsTheirs", "(LHalfByFive$Market;)Z"⟩, 6) := ⟨⟨by decide +kernel, by decide +kernel⟩, List.mem_of_getElem? (i := 242) (by decide +kernel), List.mem_of_getElem? (i := 478) (by decide +kernel), List.mem_of_getElem? (i := 479) (by decide +kernel)⟩
theorem lw_p18 : lw_okq (⟨"HalfByFive$Reader", "readsRain", "(LHalfByFive$Market;)Z"⟩, 6) := ⟨⟨by decide +kernel, by decide +kernel⟩, List.mem_of_getElem? (i := 242) (by decide +kernel), List.mem_of_getElem? (i := 484) (by decide +kernel), List.mem_of_getElem? (i := 485) (by decide +kernel)⟩
theorem lw_p19 : lw_okq (⟨"HalfByFive$Reader", "readsBuyer", "(LHalfByFive$Market;)Z"⟩, 6) := ⟨⟨by decide +kernel, by decide +kernel⟩, List.mem_of_getElem? (i := 242) (by decide +kernel), List.mem_of_getElem? (i := 489) (by decide +kernel), List.mem_of_getElem? (i := 490) (by decide +kernel)⟩
theorem lw_p20 : lw_okq (⟨"HalfByFive$Market", "becomes", "(LHalfByFive$Market;)V"⟩, 17) := ⟨⟨by decide +kernel, by decide +kernel⟩, List.mem_of_getElem? (i := 30) (by decide +kernel), List.mem_of_getElem? (i := 494) (by decide +kernel), List.mem_of_getElem? (i := 495) (by decide +kernel)⟩
theorem lw_p21 : lw_okq (⟨"HalfByFive$Market", "keepPast", "()V"⟩, 17) := ⟨⟨by decide +kernel, by decide +kernel⟩, List.mem_of_getElem? (i := 30) (by decide +kernel), List.mem_of_getElem? (i := 506) (by decide +kernel), List.mem_of_getElem? (i := 507) (by decide +kernel)⟩
theorem lw_p22 : lw_okq (⟨"HalfByFive$Day", "run", "(LHalfByFive$Market;)V"⟩, 12) := ⟨⟨by decide +kernel, by decide +kernel⟩, List.mem_of_getElem? (i := 119) (by decide +kernel), List.mem_of_getElem? (i := 510) (by decide +kernel), List.mem_of_getElem? (i := 511) (by decide +kernel)⟩
theorem lw_p23 : lw_okq (⟨"HalfByFive$Day", "plan", "(LHalfByFive$Market;)V"⟩, 12) := ⟨⟨by decide +kernel, by decide +kernel⟩, List.mem_of_getElem? (i := 119) (by decide +kernel), List.mem_of_getElem? (i := 514) (by decide +kernel), List.mem_of_getElem? (i := 515) (by decide +kernel)⟩
theorem lw_p24 : lw_okq (⟨"HalfByFive$Day", "wayOf", "(I)LHalfByFive$Plain;"⟩, 12) := ⟨⟨by decide +kernel, by decide +kernel⟩, List.mem_of_getElem? (i := 119) (by decide +kernel), List.mem_of_getElem? (i := 518) (by decide +kernel), List.mem_of_getElem? (i := 519) (by decide +kernel)⟩
theorem lw_p25 : lw_okq (⟨"HalfByFive$Market", "rainsIn", "(I)Z"⟩, 17) := ⟨⟨by decide +kernel, by decide +kernel⟩, List.mem_of_getElem? (i := 30) (by decide +kernel), List.mem_of_getElem? (i := 588) (by decide +kernel), List.mem_of_getElem? (i := 589) (by decide +kernel)⟩
theorem lw_p26 : lw_okq (⟨"HalfByFive$Day", "lineUp", "(I)V"⟩, 12) := ⟨⟨by decide +kernel, by decide +kernel⟩, List.mem_of_getElem? (i := 119) (by decide +kernel), List.mem_of_getElem? (i := 606) (by decide +kernel), List.mem_of_getElem? (i := 607) (by decide +kernel)⟩
theorem lw_p27 : lw_okq (⟨"HalfByFive$Day", "hourOf", "(I)I"⟩, 12) := ⟨⟨by decide +kernel, by decide +kernel⟩, List.mem_of_getElem? (i := 119) (by decide +kernel), List.mem_of_getElem? (i := 610) (by decide +kernel), List.mem_of_getElem? (i := 611) (by decide +kernel)⟩
theorem lw_p28 : lw_okq (⟨"HalfByFive$Day", "walk", "(LHalfByFive$Market;I)V"⟩, 12) := ⟨⟨by decide +kernel, by decide +kernel⟩, List.mem_of_getElem? (i := 119) (by decide +kernel), List.mem_of_getElem? (i := 614) (by decide +kernel), List.mem_of_getElem? (i := 615) (by decide +kernel)⟩
theorem lw_p29 : lw_okq (⟨"HalfByFive$Day", "meet", "(LHalfByFive$Market;I)V"⟩, 12) := ⟨⟨by decide +kernel, by decide +kernel⟩, List.mem_of_getElem? (i := 119) (by decide +kernel), List.mem_of_getElem? (i := 619) (by decide +kernel), List.mem_of_getElem? (i := 620) (by decide +kernel)⟩
theorem lw_p30 : lw_okq (⟨"HalfByFive$Day", "sell", "(II)V"⟩, 12) := ⟨⟨by decide +kernel, by decide +kernel⟩, List.mem_of_getElem? (i := 119) (by decide +kernel), List.mem_of_getElem? (i := 625) (by decide +kernel), List.mem_of_getElem? (i := 626) (by decide +kernel)⟩
theorem lw_p31 : lw_okq (⟨"HalfByFive$Day", "teach", "(LHalfByFive$Market;)V"⟩, 12) := ⟨⟨by decide +kernel, by decide +kernel⟩, List.mem_of_getElem? (i := 119) (by decide +kernel), List.mem_of_getElem? (i := 630) (by decide +kernel), List.mem_of_getElem? (i := 631) (by decide +kernel)⟩
def lw_privs_2 : List (MethodName × Nat) := [(⟨"HalfByFive$Reader", "readsPrice", "(LHalfByFive$Market;)Z"⟩, 6), (⟨"HalfByFive$Reader", "readsTheirs", "(LHalfByFive$Market;)Z"⟩, 6), (⟨"HalfByFive$Reader", "readsRain", "(LHalfByFive$Market;)Z"⟩, 6), (⟨"HalfByFive$Reader", "readsBuyer", "(LHalfByFive$Market;)Z"⟩, 6), (⟨"HalfByFive$Market", "becomes", "(LHalfByFive$Market;)V"⟩, 17), (⟨"HalfByFive$Market", "keepPast", "()V"⟩, 17), (⟨"HalfByFive$Day", "run", "(LHalfByFive$Market;)V"⟩, 12), (⟨"HalfByFive$Day", "plan", "(LHalfByFive$Market;)V"⟩, 12), (⟨"HalfByFive$Day", "wayOf", "(I)LHalfByFive$Plain;"⟩, 12), (⟨"HalfByFive$Market", "rainsIn", "(I)Z"⟩, 17), (⟨"HalfByFive$Day", "lineUp", "(I)V"⟩, 12), (⟨"HalfByFive$Day", "hourOf", "(I)I"⟩, 12), (⟨"HalfByFive$Day", "walk", "(LHalfByFive$Market;I)V"⟩, 12), (⟨"HalfByFive$Day", "meet", "(LHalfByFive$Market;I)V"⟩, 12), (⟨"HalfByFive$Day", "sell", "(II)V"⟩, 12), (⟨"HalfByFive$Day", "teach", "(LHalfByFive$Market;)V"⟩, 12)]
theorem lw_r2 : ∀ q ∈ lw_privs_2, lw_okq q := List.forall_mem_cons.mpr ⟨lw_p16, List.forall_mem_cons.mpr ⟨lw_p17, List.forall_mem_cons.mpr ⟨lw_p18, List.forall_mem_cons.mpr ⟨lw_p19, List.forall_mem_cons.mpr ⟨lw_p20, List.forall_mem_cons.mpr ⟨lw_p21, List.forall_mem_cons.mpr ⟨lw_p22, List.forall_mem_cons.mpr ⟨lw_p23, List.forall_mem_cons.mpr ⟨lw_p24, List.forall_mem_cons.mpr ⟨lw_p25, List.forall_mem_cons.mpr ⟨lw_p26, List.forall_mem_cons.mpr ⟨lw_p27, List.forall_mem_cons.mpr ⟨lw_p28, List.forall_mem_cons.mpr ⟨lw_p29, List.forall_mem_cons.mpr ⟨lw_p30, List.forall_mem_cons.mpr ⟨lw_p31, fun _ h => absurd h List.not_mem_nil⟩⟩⟩⟩⟩⟩⟩⟩⟩⟩⟩⟩⟩⟩⟩⟩
theorem lw_p32 : lw_okq (⟨"HalfByFive$Day", "mayLearnToWait", "(I)Z"⟩, 12) := ⟨⟨by decide +kernel, by decide +kernel⟩, List.mem_of_getElem? (i := 119) (by decide +kernel), List.mem_of_getElem? (i := 634) (by decide +kernel), List.mem_of_getElem? (i := 635) (by decide +kernel)⟩
theorem lw_p33 : lw_okq (⟨"HalfByFive$Day", "paidTooMuch", "(LHalfByFive$Market;I)Z"⟩, 12) := ⟨⟨by decide +kernel, by decide +kernel⟩, List.mem_of_getElem? (i := 119) (by decide +kernel), List.mem_of_getElem? (i := 638) (by decide +kernel), List.mem_of_getElem? (i := 639) (by decide +kernel)⟩
theorem lw_p34 : lw_okq (⟨"HalfByFive$Market", "fallsBelowBehind", "(II)Z"⟩, 17) := ⟨⟨by decide +kernel, by decide +kernel⟩, List.mem_of_getElem? (i := 30) (by decide +kernel), List.mem_of_getElem? (i := 642) (by decide +kernel), List.mem_of_getElem? (i := 643) (by decide +kernel)⟩
theorem lw_p35 : lw_okq (⟨"HalfByFive$Market", "goBack", "()V"⟩, 17) := ⟨⟨by decide +kernel, by decide +kernel⟩, List.mem_of_getElem? (i := 30) (by decide +kernel), List.mem_of_getElem? (i := 650) (by decide +kernel), List.mem_of_getElem? (i := 651) (by decide +kernel)⟩
theorem lw_p36 : lw_okq (⟨"HalfByFive$Day", "goneIn", "(I)I"⟩, 12) := ⟨⟨by decide +kernel, by decide +kernel⟩, List.mem_of_getElem? (i := 119) (by decide +kernel), List.mem_of_getElem? (i := 659) (by decide +kernel), List.mem_of_getElem? (i := 660) (by decide +kernel)⟩
theorem lw_p37 : lw_okq (⟨"HalfByFive", "isBuyer", "(I)Z"⟩, 12) := ⟨⟨by decide +kernel, by decide +kernel⟩, List.mem_of_getElem? (i := 22) (by decide +kernel), List.mem_of_getElem? (i := 667) (by decide +kernel), List.mem_of_getElem? (i := 668) (by decide +kernel)⟩
theorem lw_p38 : lw_okq (⟨"HalfByFive$TwoStalls", "weigh", "(LHalfByFive$Market;LHalfByFive$Day;II)V"⟩, 6) := ⟨⟨by decide +kernel, by decide +kernel⟩, List.mem_of_getElem? (i := 215) (by decide +kernel), List.mem_of_getElem? (i := 703) (by decide +kernel), List.mem_of_getElem? (i := 704) (by decide +kernel)⟩
theorem lw_p39 : lw_okq (⟨"HalfByFive$Market", "setTheirPricesFrom", "(II)V"⟩, 17) := ⟨⟨by decide +kernel, by decide +kernel⟩, List.mem_of_getElem? (i := 30) (by decide +kernel), List.mem_of_getElem? (i := 709) (by decide +kernel), List.mem_of_getElem? (i := 710) (by decide +kernel)⟩
theorem lw_p40 : lw_okq (⟨"HalfByFive$TwoStalls", "findRests", "()V"⟩, 6) := ⟨⟨by decide +kernel, by decide +kernel⟩, List.mem_of_getElem? (i := 215) (by decide +kernel), List.mem_of_getElem? (i := 716) (by decide +kernel), List.mem_of_getElem? (i := 717) (by decide +kernel)⟩
theorem lw_p41 : lw_okq (⟨"HalfByFive", "setFraction", "(JJ)V"⟩, 12) := ⟨⟨by decide +kernel, by decide +kernel⟩, List.mem_of_getElem? (i := 22) (by decide +kernel), List.mem_of_getElem? (i := 733) (by decide +kernel), List.mem_of_getElem? (i := 734) (by decide +kernel)⟩
theorem lw_p42 : lw_okq (⟨"HalfByFive$Day", "payMore", "(II)V"⟩, 12) := ⟨⟨by decide +kernel, by decide +kernel⟩, List.mem_of_getElem? (i := 119) (by decide +kernel), List.mem_of_getElem? (i := 744) (by decide +kernel), List.mem_of_getElem? (i := 745) (by decide +kernel)⟩
theorem lw_p43 : lw_okq (⟨"HalfByFive$Market", "addSold", "(II)V"⟩, 17) := ⟨⟨by decide +kernel, by decide +kernel⟩, List.mem_of_getElem? (i := 30) (by decide +kernel), List.mem_of_getElem? (i := 752) (by decide +kernel), List.mem_of_getElem? (i := 753) (by decide +kernel)⟩
theorem lw_p44 : lw_okq (⟨"HalfByFive$Day", "agreesWithSold", "(LHalfByFive$Market;)Z"⟩, 12) := ⟨⟨by decide +kernel, by decide +kernel⟩, List.mem_of_getElem? (i := 119) (by decide +kernel), List.mem_of_getElem? (i := 764) (by decide +kernel), List.mem_of_getElem? (i := 765) (by decide +kernel)⟩
theorem lw_p45 : lw_okq (⟨"HalfByFive", "howMany", "(I)I"⟩, 12) := ⟨⟨by decide +kernel, by decide +kernel⟩, List.mem_of_getElem? (i := 22) (by decide +kernel), List.mem_of_getElem? (i := 799) (by decide +kernel), List.mem_of_getElem? (i := 800) (by decide +kernel)⟩
theorem lw_p46 : lw_okq (⟨"HalfByFiveModel", "begins", "(III)V"⟩, 24) := ⟨⟨by decide +kernel, by decide +kernel⟩, List.mem_of_getElem? (i := 809) (by decide +kernel), List.mem_of_getElem? (i := 815) (by decide +kernel), List.mem_of_getElem? (i := 816) (by decide +kernel)⟩
theorem lw_p47 : lw_okq (⟨"HalfByFiveModel", "bad", "()I"⟩, 24) := ⟨⟨by decide +kernel, by decide +kernel⟩, List.mem_of_getElem? (i := 809) (by decide +kernel), List.mem_of_getElem? (i := 904) (by decide +kernel), List.mem_of_getElem? (i := 905) (by decide +kernel)⟩
def lw_privs_3 : List (MethodName × Nat) := [(⟨"HalfByFive$Day", "mayLearnToWait", "(I)Z"⟩, 12), (⟨"HalfByFive$Day", "paidTooMuch", "(LHalfByFive$Market;I)Z"⟩, 12), (⟨"HalfByFive$Market", "fallsBelowBehind", "(II)Z"⟩, 17), (⟨"HalfByFive$Market", "goBack", "()V"⟩, 17), (⟨"HalfByFive$Day", "goneIn", "(I)I"⟩, 12), (⟨"HalfByFive", "isBuyer", "(I)Z"⟩, 12), (⟨"HalfByFive$TwoStalls", "weigh", "(LHalfByFive$Market;LHalfByFive$Day;II)V"⟩, 6), (⟨"HalfByFive$Market", "setTheirPricesFrom", "(II)V"⟩, 17), (⟨"HalfByFive$TwoStalls", "findRests", "()V"⟩, 6), (⟨"HalfByFive", "setFraction", "(JJ)V"⟩, 12), (⟨"HalfByFive$Day", "payMore", "(II)V"⟩, 12), (⟨"HalfByFive$Market", "addSold", "(II)V"⟩, 17), (⟨"HalfByFive$Day", "agreesWithSold", "(LHalfByFive$Market;)Z"⟩, 12), (⟨"HalfByFive", "howMany", "(I)I"⟩, 12), (⟨"HalfByFiveModel", "begins", "(III)V"⟩, 24), (⟨"HalfByFiveModel", "bad", "()I"⟩, 24)]
theorem lw_r3 : ∀ q ∈ lw_privs_3, lw_okq q := List.forall_mem_cons.mpr ⟨lw_p32, List.forall_mem_cons.mpr ⟨lw_p33, List.forall_mem_cons.mpr ⟨lw_p34, List.forall_mem_cons.mpr ⟨lw_p35, List.forall_mem_cons.mpr ⟨lw_p36, List.forall_mem_cons.mpr ⟨lw_p37, List.forall_mem_cons.mpr ⟨lw_p38, List.forall_mem_cons.mpr ⟨lw_p39, List.forall_mem_cons.mpr ⟨lw_p40, List.forall_mem_cons.mpr ⟨lw_p41, List.forall_mem_cons.mpr ⟨lw_p42, List.forall_mem_cons.mpr ⟨lw_p43, List.forall_mem_cons.mpr ⟨lw_p44, List.forall_mem_cons.mpr ⟨lw_p45, List.forall_mem_cons.mpr ⟨lw_p46, List.forall_mem_cons.mpr ⟨lw_p47, fun _ h => absurd h List.not_mem_nil⟩⟩⟩⟩⟩⟩⟩⟩⟩⟩⟩⟩⟩⟩⟩⟩
theorem lw_p48 : lw_okq (⟨"HalfByFiveModel", "becomes", "(II)I"⟩, 24) := ⟨⟨by decide +kernel, by decide +kernel⟩, List.mem_of_getElem? (i := 809) (by decide +kernel), List.mem_of_getElem? (i := 912) (by decide +kernel), List.mem_of_getElem? (i := 913) (by decide +kernel)⟩
theorem lw_p49 : lw_okq (⟨"HalfByFiveModel", "pricesFrom", "(III)V"⟩, 24) := ⟨⟨by decide +kernel, by decide +kernel⟩, List.mem_of_getElem? (i := 809) (by decide +kernel), List.mem_of_getElem? (i := 923) (by decide +kernel), List.mem_of_getElem? (i := 924) (by decide +kernel)⟩
theorem lw_p50 : lw_okq (⟨"HalfByFiveModel", "full", "()I"⟩, 24) := ⟨⟨by decide +kernel, by decide +kernel⟩, List.mem_of_getElem? (i := 809) (by decide +kernel), List.mem_of_getElem? (i := 942) (by decide +kernel), List.mem_of_getElem? (i := 943) (by decide +kernel)⟩
theorem lw_p51 : lw_okq (⟨"HalfByFiveModel", "adds", "(IIIII)I"⟩, 24) := ⟨⟨by decide +kernel, by decide +kernel⟩, List.mem_of_getElem? (i := 809) (by decide +kernel), List.mem_of_getElem? (i := 946) (by decide +kernel), List.mem_of_getElem? (i := 947) (by decide +kernel)⟩
theorem lw_p52 : lw_okq (⟨"HalfByFiveModel", "token", "()V"⟩, 24) := ⟨⟨by decide +kernel, by decide +kernel⟩, List.mem_of_getElem? (i := 809) (by decide +kernel), List.mem_of_getElem? (i := 963) (by decide +kernel), List.mem_of_getElem? (i := 964) (by decide +kernel)⟩
theorem lw_p53 : lw_okq (⟨"HalfByFiveModel", "byteAt", "(I)I"⟩, 24) := ⟨⟨by decide +kernel, by decide +kernel⟩, List.mem_of_getElem? (i := 809) (by decide +kernel), List.mem_of_getElem? (i := 967) (by decide +kernel), List.mem_of_getElem? (i := 968) (by decide +kernel)⟩
theorem lw_p54 : lw_okq (⟨"HalfByFiveModel", "takesItem", "(I)Z"⟩, 24) := ⟨⟨by decide +kernel, by decide +kernel⟩, List.mem_of_getElem? (i := 809) (by decide +kernel), List.mem_of_getElem? (i := 975) (by decide +kernel), List.mem_of_getElem? (i := 976) (by decide +kernel)⟩
theorem lw_p55 : lw_okq (⟨"HalfByFiveModel", "wordNow", "()I"⟩, 24) := ⟨⟨by decide +kernel, by decide +kernel⟩, List.mem_of_getElem? (i := 809) (by decide +kernel), List.mem_of_getElem? (i := 979) (by decide +kernel), List.mem_of_getElem? (i := 980) (by decide +kernel)⟩
theorem lw_p56 : lw_okq (⟨"HalfByFiveModel", "isNamed", "(IIIIII)Z"⟩, 24) := ⟨⟨by decide +kernel, by decide +kernel⟩, List.mem_of_getElem? (i := 809) (by decide +kernel), List.mem_of_getElem? (i := 983) (by decide +kernel), List.mem_of_getElem? (i := 984) (by decide +kernel)⟩
theorem lw_p57 : lw_okq (⟨"HalfByFiveModel", "takesMarket", "()Z"⟩, 24) := ⟨⟨by decide +kernel, by decide +kernel⟩, List.mem_of_getElem? (i := 809) (by decide +kernel), List.mem_of_getElem? (i := 987) (by decide +kernel), List.mem_of_getElem? (i := 988) (by decide +kernel)⟩
theorem lw_p58 : lw_okq (⟨"HalfByFiveModel", "takesNumber", "(II)Z"⟩, 24) := ⟨⟨by decide +kernel, by decide +kernel⟩, List.mem_of_getElem? (i := 809) (by decide +kernel), List.mem_of_getElem? (i := 991) (by decide +kernel), List.mem_of_getElem? (i := 992) (by decide +kernel)⟩
theorem lw_p59 : lw_okq (⟨"HalfByFiveModel", "takesBuyer", "()Z"⟩, 24) := ⟨⟨by decide +kernel, by decide +kernel⟩, List.mem_of_getElem? (i := 809) (by decide +kernel), List.mem_of_getElem? (i := 995) (by decide +kernel), List.mem_of_getElem? (i := 996) (by decide +kernel)⟩
theorem lw_p60 : lw_okq (⟨"HalfByFiveModel", "takesHourAnd", "(I)Z"⟩, 24) := ⟨⟨by decide +kernel, by decide +kernel⟩, List.mem_of_getElem? (i := 809) (by decide +kernel), List.mem_of_getElem? (i := 999) (by decide +kernel), List.mem_of_getElem? (i := 1000) (by decide +kernel)⟩
theorem lw_p61 : lw_okq (⟨"HalfByFiveModel", "copy", "(II)V"⟩, 24) := ⟨⟨by decide +kernel, by decide +kernel⟩, List.mem_of_getElem? (i := 809) (by decide +kernel), List.mem_of_getElem? (i := 1003) (by decide +kernel), List.mem_of_getElem? (i := 1004) (by decide +kernel)⟩
theorem lw_p62 : lw_okq (⟨"HalfByFiveModel", "minds", "()V"⟩, 24) := ⟨⟨by decide +kernel, by decide +kernel⟩, List.mem_of_getElem? (i := 809) (by decide +kernel), List.mem_of_getElem? (i := 1011) (by decide +kernel), List.mem_of_getElem? (i := 1012) (by decide +kernel)⟩
theorem lw_p63 : lw_okq (⟨"HalfByFiveModel", "triesAll", "()V"⟩, 24) := ⟨⟨by decide +kernel, by decide +kernel⟩, List.mem_of_getElem? (i := 809) (by decide +kernel), List.mem_of_getElem? (i := 1015) (by decide +kernel), List.mem_of_getElem? (i := 1016) (by decide +kernel)⟩
def lw_privs_4 : List (MethodName × Nat) := [(⟨"HalfByFiveModel", "becomes", "(II)I"⟩, 24), (⟨"HalfByFiveModel", "pricesFrom", "(III)V"⟩, 24), (⟨"HalfByFiveModel", "full", "()I"⟩, 24), (⟨"HalfByFiveModel", "adds", "(IIIII)I"⟩, 24), (⟨"HalfByFiveModel", "token", "()V"⟩, 24), (⟨"HalfByFiveModel", "byteAt", "(I)I"⟩, 24), (⟨"HalfByFiveModel", "takesItem", "(I)Z"⟩, 24), (⟨"HalfByFiveModel", "wordNow", "()I"⟩, 24), (⟨"HalfByFiveModel", "isNamed", "(IIIIII)Z"⟩, 24), (⟨"HalfByFiveModel", "takesMarket", "()Z"⟩, 24), (⟨"HalfByFiveModel", "takesNumber", "(II)Z"⟩, 24), (⟨"HalfByFiveModel", "takesBuyer", "()Z"⟩, 24), (⟨"HalfByFiveModel", "takesHourAnd", "(I)Z"⟩, 24), (⟨"HalfByFiveModel", "copy", "(II)V"⟩, 24), (⟨"HalfByFiveModel", "minds", "()V"⟩, 24), (⟨"HalfByFiveModel", "triesAll", "()V"⟩, 24)]
theorem lw_r4 : ∀ q ∈ lw_privs_4, lw_okq q := List.forall_mem_cons.mpr ⟨lw_p48, List.forall_mem_cons.mpr ⟨lw_p49, List.forall_mem_cons.mpr ⟨lw_p50, List.forall_mem_cons.mpr ⟨lw_p51, List.forall_mem_cons.mpr ⟨lw_p52, List.forall_mem_cons.mpr ⟨lw_p53, List.forall_mem_cons.mpr ⟨lw_p54, List.forall_mem_cons.mpr ⟨lw_p55, List.forall_mem_cons.mpr ⟨lw_p56, List.forall_mem_cons.mpr ⟨lw_p57, List.forall_mem_cons.mpr ⟨lw_p58, List.forall_mem_cons.mpr ⟨lw_p59, List.forall_mem_cons.mpr ⟨lw_p60, List.forall_mem_cons.mpr ⟨lw_p61, List.forall_mem_cons.mpr ⟨lw_p62, List.forall_mem_cons.mpr ⟨lw_p63, fun _ h => absurd h List.not_mem_nil⟩⟩⟩⟩⟩⟩⟩⟩⟩⟩⟩⟩⟩⟩⟩⟩
theorem lw_p64 : lw_okq (⟨"HalfByFiveModel", "tries", "(I)V"⟩, 24) := ⟨⟨by decide +kernel, by decide +kernel⟩, List.mem_of_getElem? (i := 809) (by decide +kernel), List.mem_of_getElem? (i := 1019) (by decide +kernel), List.mem_of_getElem? (i := 1020) (by decide +kernel)⟩
theorem lw_p65 : lw_okq (⟨"HalfByFiveModel", "hourOf", "(I)I"⟩, 24) := ⟨⟨by decide +kernel, by decide +kernel⟩, List.mem_of_getElem? (i := 809) (by decide +kernel), List.mem_of_getElem? (i := 1026) (by decide +kernel), List.mem_of_getElem? (i := 1027) (by decide +kernel)⟩
theorem lw_p66 : lw_okq (⟨"HalfByFiveModel", "waitsIn", "(I)I"⟩, 24) := ⟨⟨by decide +kernel, by decide +kernel⟩, List.mem_of_getElem? (i := 809) (by decide +kernel), List.mem_of_getElem? (i := 1030) (by decide +kernel), List.mem_of_getElem? (i := 1031) (by decide +kernel)⟩
theorem lw_p67 : lw_okq (⟨"HalfByFiveModel", "comes", "(II)V"⟩, 24) := ⟨⟨by decide +kernel, by decide +kernel⟩, List.mem_of_getElem? (i := 809) (by decide +kernel), List.mem_of_getElem? (i := 1034) (by decide +kernel), List.mem_of_getElem? (i := 1035) (by decide +kernel)⟩
theorem lw_p68 : lw_okq (⟨"HalfByFiveModel", "paysOf", "(I)I"⟩, 24) := ⟨⟨by decide +kernel, by decide +kernel⟩, List.mem_of_getElem? (i := 809) (by decide +kernel), List.mem_of_getElem? (i := 1038) (by decide +kernel), List.mem_of_getElem? (i := 1039) (by decide +kernel)⟩
theorem lw_p69 : lw_okq (⟨"HalfByFiveModel", "plainPays", "(II)I"⟩, 24) := ⟨⟨by decide +kernel, by decide +kernel⟩, List.mem_of_getElem? (i := 809) (by decide +kernel), List.mem_of_getElem? (i := 1042) (by decide +kernel), List.mem_of_getElem? (i := 1043) (by decide +kernel)⟩
theorem lw_p70 : lw_okq (⟨"HalfByFiveModel", "takesOf", "(I)I"⟩, 24) := ⟨⟨by decide +kernel, by decide +kernel⟩, List.mem_of_getElem? (i := 809) (by decide +kernel), List.mem_of_getElem? (i := 1046) (by decide +kernel), List.mem_of_getElem? (i := 1047) (by decide +kernel)⟩
theorem lw_p71 : lw_okq (⟨"HalfByFiveModel", "learns", "()V"⟩, 24) := ⟨⟨by decide +kernel, by decide +kernel⟩, List.mem_of_getElem? (i := 809) (by decide +kernel), List.mem_of_getElem? (i := 1050) (by decide +kernel), List.mem_of_getElem? (i := 1051) (by decide +kernel)⟩
theorem lw_p72 : lw_okq (⟨"HalfByFiveModel", "isCheaper", "(I)Z"⟩, 24) := ⟨⟨by decide +kernel, by decide +kernel⟩, List.mem_of_getElem? (i := 809) (by decide +kernel), List.mem_of_getElem? (i := 1054) (by decide +kernel), List.mem_of_getElem? (i := 1055) (by decide +kernel)⟩
theorem lw_p73 : lw_okq (⟨"HalfByFiveModel", "no", "()I"⟩, 24) := ⟨⟨by decide +kernel, by decide +kernel⟩, List.mem_of_getElem? (i := 809) (by decide +kernel), List.mem_of_getElem? (i := 1062) (by decide +kernel), List.mem_of_getElem? (i := 1063) (by decide +kernel)⟩
theorem lw_p74 : lw_okq (⟨"HalfByFiveModel", "isBuyer", "(I)Z"⟩, 24) := ⟨⟨by decide +kernel, by decide +kernel⟩, List.mem_of_getElem? (i := 809) (by decide +kernel), List.mem_of_getElem? (i := 1074) (by decide +kernel), List.mem_of_getElem? (i := 1075) (by decide +kernel)⟩
theorem lw_p75 : lw_okq (⟨"HalfByFiveModel", "lays", "()V"⟩, 24) := ⟨⟨by decide +kernel, by decide +kernel⟩, List.mem_of_getElem? (i := 809) (by decide +kernel), List.mem_of_getElem? (i := 1091) (by decide +kernel), List.mem_of_getElem? (i := 1092) (by decide +kernel)⟩
theorem lw_p76 : lw_okq (⟨"HalfByFiveModel", "putsBack", "()V"⟩, 24) := ⟨⟨by decide +kernel, by decide +kernel⟩, List.mem_of_getElem? (i := 809) (by decide +kernel), List.mem_of_getElem? (i := 1095) (by decide +kernel), List.mem_of_getElem? (i := 1096) (by decide +kernel)⟩
theorem lw_p77 : lw_okq (⟨"HalfByFiveModel", "badAs", "(I)I"⟩, 24) := ⟨⟨by decide +kernel, by decide +kernel⟩, List.mem_of_getElem? (i := 809) (by decide +kernel), List.mem_of_getElem? (i := 1112) (by decide +kernel), List.mem_of_getElem? (i := 1113) (by decide +kernel)⟩
theorem lw_p78 : lw_okq (⟨"HalfByFiveModel", "tells", "(JJ)V"⟩, 24) := ⟨⟨by decide +kernel, by decide +kernel⟩, List.mem_of_getElem? (i := 809) (by decide +kernel), List.mem_of_getElem? (i := 1121) (by decide +kernel), List.mem_of_getElem? (i := 1122) (by decide +kernel)⟩
theorem lw_p79 : lw_okq (⟨"HalfByFiveModel", "countOf", "(I)I"⟩, 24) := ⟨⟨by decide +kernel, by decide +kernel⟩, List.mem_of_getElem? (i := 809) (by decide +kernel), List.mem_of_getElem? (i := 1174) (by decide +kernel), List.mem_of_getElem? (i := 1175) (by decide +kernel)⟩
def lw_privs_5 : List (MethodName × Nat) := [(⟨"HalfByFiveModel", "tries", "(I)V"⟩, 24), (⟨"HalfByFiveModel", "hourOf", "(I)I"⟩, 24), (⟨"HalfByFiveModel", "waitsIn", "(I)I"⟩, 24), (⟨"HalfByFiveModel", "comes", "(II)V"⟩, 24), (⟨"HalfByFiveModel", "paysOf", "(I)I"⟩, 24), (⟨"HalfByFiveModel", "plainPays", "(II)I"⟩, 24), (⟨"HalfByFiveModel", "takesOf", "(I)I"⟩, 24), (⟨"HalfByFiveModel", "learns", "()V"⟩, 24), (⟨"HalfByFiveModel", "isCheaper", "(I)Z"⟩, 24), (⟨"HalfByFiveModel", "no", "()I"⟩, 24), (⟨"HalfByFiveModel", "isBuyer", "(I)Z"⟩, 24), (⟨"HalfByFiveModel", "lays", "()V"⟩, 24), (⟨"HalfByFiveModel", "putsBack", "()V"⟩, 24), (⟨"HalfByFiveModel", "badAs", "(I)I"⟩, 24), (⟨"HalfByFiveModel", "tells", "(JJ)V"⟩, 24), (⟨"HalfByFiveModel", "countOf", "(I)I"⟩, 24)]
theorem lw_r5 : ∀ q ∈ lw_privs_5, lw_okq q := List.forall_mem_cons.mpr ⟨lw_p64, List.forall_mem_cons.mpr ⟨lw_p65, List.forall_mem_cons.mpr ⟨lw_p66, List.forall_mem_cons.mpr ⟨lw_p67, List.forall_mem_cons.mpr ⟨lw_p68, List.forall_mem_cons.mpr ⟨lw_p69, List.forall_mem_cons.mpr ⟨lw_p70, List.forall_mem_cons.mpr ⟨lw_p71, List.forall_mem_cons.mpr ⟨lw_p72, List.forall_mem_cons.mpr ⟨lw_p73, List.forall_mem_cons.mpr ⟨lw_p74, List.forall_mem_cons.mpr ⟨lw_p75, List.forall_mem_cons.mpr ⟨lw_p76, List.forall_mem_cons.mpr ⟨lw_p77, List.forall_mem_cons.mpr ⟨lw_p78, List.forall_mem_cons.mpr ⟨lw_p79, fun _ h => absurd h List.not_mem_nil⟩⟩⟩⟩⟩⟩⟩⟩⟩⟩⟩⟩⟩⟩⟩⟩
theorem lw_p80 : lw_okq (⟨"HalfByFiveModel", "mix", "(J)V"⟩, 24) := ⟨⟨by decide +kernel, by decide +kernel⟩, List.mem_of_getElem? (i := 809) (by decide +kernel), List.mem_of_getElem? (i := 1183) (by decide +kernel), List.mem_of_getElem? (i := 1184) (by decide +kernel)⟩
def lw_privs_6 : List (MethodName × Nat) := [(⟨"HalfByFiveModel", "mix", "(J)V"⟩, 24)]
theorem lw_r6 : ∀ q ∈ lw_privs_6, lw_okq q := List.forall_mem_cons.mpr ⟨lw_p80, fun _ h => absurd h List.not_mem_nil⟩
def lw_privs : List (MethodName × Nat) := lw_privs_1 ++ (lw_privs_2 ++ (lw_privs_3 ++ (lw_privs_4 ++ (lw_privs_5 ++ (lw_privs_6)))))
def lw_tbl : List Cond := k2_sels lw_privs ++ tables_1
theorem lw_privs_ok : ∀ q ∈ lw_privs, lw_okq q := by
  show ∀ q ∈ lw_privs_1 ++ (lw_privs_2 ++ (lw_privs_3 ++ (lw_privs_4 ++ (lw_privs_5 ++ (lw_privs_6))))), lw_okq q
  exact List.forall_mem_append.mpr ⟨lw_r1, List.forall_mem_append.mpr ⟨lw_r2, List.forall_mem_append.mpr ⟨lw_r3, List.forall_mem_append.mpr ⟨lw_r4, List.forall_mem_append.mpr ⟨lw_r5, lw_r6⟩⟩⟩⟩⟩
def RX0 : String := "HalfByFive$Bag"
def TX0 : u_T := fun k => match k with
  | _ => ("", "", "", false)
def tyX0 : Nat → FieldType := fun k => match k with
  | _ => .int
theorem nmX0 : ∀ a, a < 0 → ∀ b, b < 0 → a ≠ b → (TX0 a).2.1 ≠ (TX0 b).2.1 := by decide +kernel
theorem tyX0_ok : ∀ k, k < 0 → parseFieldDescriptor (TX0 k).2.2.1 = some (tyX0 k) := by decide +kernel
abbrev cX0_init : ByteArray := prog_2_method_1_code
def yX0_init : MethodName := ⟨RX0, "<init>", "()V"⟩
abbrev cX0_buysIn : ByteArray := prog_2_method_2_code
def yX0_buysIn : MethodName := ⟨RX0, "buysIn", "(LHalfByFive$Market;I)I"⟩
abbrev cX0_paysAtMost : ByteArray := prog_2_method_3_code
def yX0_paysAtMost : MethodName := ⟨RX0, "paysAtMost", "(II)I"⟩
abbrev cX0_carriesOff : ByteArray := prog_2_method_4_code
def yX0_carriesOff : MethodName := ⟨RX0, "carriesOff", "(I)I"⟩
abbrev cX0_comesInRain : ByteArray := prog_2_method_5_code
def yX0_comesInRain : MethodName := ⟨RX0, "comesInRain", "()Z"⟩
def RX1 : String := "HalfByFive$Cook"
def TX1 : u_T := fun k => match k with
  | _ => ("", "", "", false)
def tyX1 : Nat → FieldType := fun k => match k with
  | _ => .int
theorem nmX1 : ∀ a, a < 0 → ∀ b, b < 0 → a ≠ b → (TX1 a).2.1 ≠ (TX1 b).2.1 := by decide +kernel
theorem tyX1_ok : ∀ k, k < 0 → parseFieldDescriptor (TX1 k).2.2.1 = some (tyX1 k) := by decide +kernel
abbrev cX1_init : ByteArray := prog_3_method_1_code
def yX1_init : MethodName := ⟨RX1, "<init>", "()V"⟩
abbrev cX1_paysAtMost : ByteArray := prog_3_method_2_code
def yX1_paysAtMost : MethodName := ⟨RX1, "paysAtMost", "(II)I"⟩
abbrev cX1_comesInRain : ByteArray := prog_3_method_3_code
def yX1_comesInRain : MethodName := ⟨RX1, "comesInRain", "()Z"⟩
def RX2 : String := "HalfByFive$Day"
def TX2 : u_T := fun k => match k with
  | 0 => ("HalfByFive$Day", "ways", "[LHalfByFive$Plain;", true)
  | 1 => ("HalfByFive$Day", "when", "[I", true)
  | 2 => ("HalfByFive$Day", "pays", "[I", true)
  | 3 => ("HalfByFive$Day", "carries", "[I", true)
  | 4 => ("HalfByFive$Day", "staysAway", "[Z", true)
  | 5 => ("HalfByFive$Day", "order", "[I", true)
  | 6 => ("HalfByFive$Day", "gone", "[I", true)
  | 7 => ("HalfByFive$Day", "got", "[I", true)
  | 8 => ("HalfByFive$Day", "served", "[I", true)
  | 9 => ("HalfByFive$Day", "left", "I", false)
  | 10 => ("HalfByFive$Day", "takings", "I", false)
  | _ => ("HalfByFive$Day", "theirTakings", "I", false)
def tyX2 : Nat → FieldType := fun k => match k with
  | 0 => .array (.object "HalfByFive$Plain")
  | 1 => .array .int
  | 2 => .array .int
  | 3 => .array .int
  | 4 => .array .boolean
  | 5 => .array .int
  | 6 => .array .int
  | 7 => .array .int
  | 8 => .array .int
  | 9 => .int
  | 10 => .int
  | _ => .int
theorem nmX2 : ∀ a, a < 12 → ∀ b, b < 12 → a ≠ b → (TX2 a).2.1 ≠ (TX2 b).2.1 := by decide +kernel
theorem tyX2_ok : ∀ k, k < 12 → parseFieldDescriptor (TX2 k).2.2.1 = some (tyX2 k) := by decide +kernel
abbrev cX2_init : ByteArray := prog_4_method_1_code
def yX2_init : MethodName := ⟨RX2, "<init>", "()V"⟩
abbrev cX2_run : ByteArray := prog_4_method_2_code
def yX2_run : MethodName := ⟨RX2, "run", "(LHalfByFive$Market;)V"⟩
abbrev cX2_plan : ByteArray := prog_4_method_3_code
def yX2_plan : MethodName := ⟨RX2, "plan", "(LHalfByFive$Market;)V"⟩
abbrev cX2_wayOf : ByteArray := prog_4_method_4_code
def yX2_wayOf : MethodName := ⟨RX2, "wayOf", "(I)LHalfByFive$Plain;"⟩
abbrev cX2_lineUp : ByteArray := prog_4_method_5_code
def yX2_lineUp : MethodName := ⟨RX2, "lineUp", "(I)V"⟩
abbrev cX2_hourOf : ByteArray := prog_4_method_6_code
def yX2_hourOf : MethodName := ⟨RX2, "hourOf", "(I)I"⟩
abbrev cX2_payMore : ByteArray := prog_4_method_7_code
def yX2_payMore : MethodName := ⟨RX2, "payMore", "(II)V"⟩
abbrev cX2_walk : ByteArray := prog_4_method_8_code
def yX2_walk : MethodName := ⟨RX2, "walk", "(LHalfByFive$Market;I)V"⟩
abbrev cX2_meet : ByteArray := prog_4_method_9_code
def yX2_meet : MethodName := ⟨RX2, "meet", "(LHalfByFive$Market;I)V"⟩
abbrev cX2_sell : ByteArray := prog_4_method_10_code
def yX2_sell : MethodName := ⟨RX2, "sell", "(II)V"⟩
abbrev cX2_goneIn : ByteArray := prog_4_method_11_code
def yX2_goneIn : MethodName := ⟨RX2, "goneIn", "(I)I"⟩
abbrev cX2_agreesWithSold : ByteArray := prog_4_method_12_code
def yX2_agreesWithSold : MethodName := ⟨RX2, "agreesWithSold", "(LHalfByFive$Market;)Z"⟩
abbrev cX2_teach : ByteArray := prog_4_method_13_code
def yX2_teach : MethodName := ⟨RX2, "teach", "(LHalfByFive$Market;)V"⟩
abbrev cX2_mayLearnToWait : ByteArray := prog_4_method_14_code
def yX2_mayLearnToWait : MethodName := ⟨RX2, "mayLearnToWait", "(I)Z"⟩
abbrev cX2_paidTooMuch : ByteArray := prog_4_method_15_code
def yX2_paidTooMuch : MethodName := ⟨RX2, "paidTooMuch", "(LHalfByFive$Market;I)Z"⟩
def RX3 : String := "HalfByFive$Market"
def TX3 : u_T := fun k => match k with
  | 0 => ("HalfByFive$Market", "punnets", "I", false)
  | 1 => ("HalfByFive$Market", "heat", "I", false)
  | 2 => ("HalfByFive$Market", "rainHours", "I", false)
  | 3 => ("HalfByFive$Market", "size", "I", false)
  | 4 => ("HalfByFive$Market", "totalTakings", "I", false)
  | 5 => ("HalfByFive$Market", "totalThrown", "I", false)
  | 6 => ("HalfByFive$Market", "soldSize", "I", false)
  | 7 => ("HalfByFive$Market", "pastSize", "I", false)
  | 8 => ("HalfByFive$Market", "prices", "[I", true)
  | 9 => ("HalfByFive$Market", "theirPrices", "[I", true)
  | 10 => ("HalfByFive$Market", "kinds", "[I", true)
  | 11 => ("HalfByFive$Market", "hours", "[I", true)
  | 12 => ("HalfByFive$Market", "worths", "[I", true)
  | 13 => ("HalfByFive$Market", "wants", "[I", true)
  | 14 => ("HalfByFive$Market", "soldHours", "[I", true)
  | 15 => ("HalfByFive$Market", "soldNumbers", "[I", true)
  | _ => ("HalfByFive$Market", "past", "[I", true)
def tyX3 : Nat → FieldType := fun k => match k with
  | 0 => .int
  | 1 => .int
  | 2 => .int
  | 3 => .int
  | 4 => .int
  | 5 => .int
  | 6 => .int
  | 7 => .int
  | 8 => .array .int
  | 9 => .array .int
  | 10 => .array .int
  | 11 => .array .int
  | 12 => .array .int
  | 13 => .array .int
  | 14 => .array .int
  | 15 => .array .int
  | _ => .array .int
theorem nmX3 : ∀ a, a < 17 → ∀ b, b < 17 → a ≠ b → (TX3 a).2.1 ≠ (TX3 b).2.1 := by decide +kernel
theorem tyX3_ok : ∀ k, k < 17 → parseFieldDescriptor (TX3 k).2.2.1 = some (tyX3 k) := by decide +kernel
abbrev cX3_init : ByteArray := prog_5_method_1_code
def yX3_init : MethodName := ⟨RX3, "<init>", "()V"⟩
abbrev cX3_startAnew : ByteArray := prog_5_method_2_code
def yX3_startAnew : MethodName := ⟨RX3, "startAnew", "(II)V"⟩
abbrev cX3_becomes : ByteArray := prog_5_method_3_code
def yX3_becomes : MethodName := ⟨RX3, "becomes", "(LHalfByFive$Market;)V"⟩
abbrev cX3_priceIn : ByteArray := prog_5_method_4_code
def yX3_priceIn : MethodName := ⟨RX3, "priceIn", "(I)I"⟩
abbrev cX3_theirPriceIn : ByteArray := prog_5_method_5_code
def yX3_theirPriceIn : MethodName := ⟨RX3, "theirPriceIn", "(I)I"⟩
abbrev cX3_rainsIn : ByteArray := prog_5_method_6_code
def yX3_rainsIn : MethodName := ⟨RX3, "rainsIn", "(I)Z"⟩
abbrev cX3_setPricesFrom : ByteArray := prog_5_method_7_code
def yX3_setPricesFrom : MethodName := ⟨RX3, "setPricesFrom", "(II)V"⟩
abbrev cX3_setTheirPrice : ByteArray := prog_5_method_8_code
def yX3_setTheirPrice : MethodName := ⟨RX3, "setTheirPrice", "(II)V"⟩
abbrev cX3_setTheirPricesFrom : ByteArray := prog_5_method_9_code
def yX3_setTheirPricesFrom : MethodName := ⟨RX3, "setTheirPricesFrom", "(II)V"⟩
abbrev cX3_addBuyer : ByteArray := prog_5_method_10_code
def yX3_addBuyer : MethodName := ⟨RX3, "addBuyer", "(IIII)V"⟩
abbrev cX3_addSold : ByteArray := prog_5_method_11_code
def yX3_addSold : MethodName := ⟨RX3, "addSold", "(II)V"⟩
abbrev cX3_keepPast : ByteArray := prog_5_method_12_code
def yX3_keepPast : MethodName := ⟨RX3, "keepPast", "()V"⟩
abbrev cX3_goBack : ByteArray := prog_5_method_13_code
def yX3_goBack : MethodName := ⟨RX3, "goBack", "()V"⟩
abbrev cX3_fallsBelowBehind : ByteArray := prog_5_method_14_code
def yX3_fallsBelowBehind : MethodName := ⟨RX3, "fallsBelowBehind", "(II)Z"⟩
def RX4 : String := "HalfByFive$Pair"
def TX4 : u_T := fun k => match k with
  | _ => ("", "", "", false)
def tyX4 : Nat → FieldType := fun k => match k with
  | _ => .int
theorem nmX4 : ∀ a, a < 0 → ∀ b, b < 0 → a ≠ b → (TX4 a).2.1 ≠ (TX4 b).2.1 := by decide +kernel
theorem tyX4_ok : ∀ k, k < 0 → parseFieldDescriptor (TX4 k).2.2.1 = some (tyX4 k) := by decide +kernel
abbrev cX4_init : ByteArray := prog_6_method_1_code
def yX4_init : MethodName := ⟨RX4, "<init>", "()V"⟩
abbrev cX4_paysAtMost : ByteArray := prog_6_method_2_code
def yX4_paysAtMost : MethodName := ⟨RX4, "paysAtMost", "(II)I"⟩
abbrev cX4_carriesOff : ByteArray := prog_6_method_3_code
def yX4_carriesOff : MethodName := ⟨RX4, "carriesOff", "(I)I"⟩
def RX5 : String := "HalfByFive$Plain"
def TX5 : u_T := fun k => match k with
  | _ => ("", "", "", false)
def tyX5 : Nat → FieldType := fun k => match k with
  | _ => .int
theorem nmX5 : ∀ a, a < 0 → ∀ b, b < 0 → a ≠ b → (TX5 a).2.1 ≠ (TX5 b).2.1 := by decide +kernel
theorem tyX5_ok : ∀ k, k < 0 → parseFieldDescriptor (TX5 k).2.2.1 = some (tyX5 k) := by decide +kernel
abbrev cX5_init : ByteArray := prog_7_method_1_code
def yX5_init : MethodName := ⟨RX5, "<init>", "()V"⟩
abbrev cX5_buysIn : ByteArray := prog_7_method_2_code
def yX5_buysIn : MethodName := ⟨RX5, "buysIn", "(LHalfByFive$Market;I)I"⟩
abbrev cX5_paysAtMost : ByteArray := prog_7_method_3_code
def yX5_paysAtMost : MethodName := ⟨RX5, "paysAtMost", "(II)I"⟩
abbrev cX5_carriesOff : ByteArray := prog_7_method_4_code
def yX5_carriesOff : MethodName := ⟨RX5, "carriesOff", "(I)I"⟩
abbrev cX5_comesInRain : ByteArray := prog_7_method_5_code
def yX5_comesInRain : MethodName := ⟨RX5, "comesInRain", "()Z"⟩
def RX6 : String := "HalfByFive$Reader"
def TX6 : u_T := fun k => match k with
  | 0 => ("HalfByFive$Reader", "bytes", "[I", true)
  | 1 => ("HalfByFive$Reader", "length", "I", false)
  | 2 => ("HalfByFive$Reader", "token", "I", false)
  | 3 => ("HalfByFive$Reader", "start", "I", false)
  | 4 => ("HalfByFive$Reader", "next", "I", false)
  | _ => ("HalfByFive$Reader", "number", "I", false)
def tyX6 : Nat → FieldType := fun k => match k with
  | 0 => .array .int
  | 1 => .int
  | 2 => .int
  | 3 => .int
  | 4 => .int
  | _ => .int
theorem nmX6 : ∀ a, a < 6 → ∀ b, b < 6 → a ≠ b → (TX6 a).2.1 ≠ (TX6 b).2.1 := by decide +kernel
theorem tyX6_ok : ∀ k, k < 6 → parseFieldDescriptor (TX6 k).2.2.1 = some (tyX6 k) := by decide +kernel
abbrev cX6_init : ByteArray := prog_8_method_1_code
def yX6_init : MethodName := ⟨RX6, "<init>", "()V"⟩
abbrev cX6_addByte : ByteArray := prog_8_method_2_code
def yX6_addByte : MethodName := ⟨RX6, "addByte", "(I)V"⟩
abbrev cX6_readInto : ByteArray := prog_8_method_3_code
def yX6_readInto : MethodName := ⟨RX6, "readInto", "(LHalfByFive$Market;)I"⟩
abbrev cX6_readsMarket : ByteArray := prog_8_method_4_code
def yX6_readsMarket : MethodName := ⟨RX6, "readsMarket", "(LHalfByFive$Market;)Z"⟩
abbrev cX6_readsItem : ByteArray := prog_8_method_5_code
def yX6_readsItem : MethodName := ⟨RX6, "readsItem", "(LHalfByFive$Market;)Z"⟩
abbrev cX6_readsPrice : ByteArray := prog_8_method_6_code
def yX6_readsPrice : MethodName := ⟨RX6, "readsPrice", "(LHalfByFive$Market;)Z"⟩
abbrev cX6_readsTheirs : ByteArray := prog_8_method_7_code
def yX6_readsTheirs : MethodName := ⟨RX6, "readsTheirs", "(LHalfByFive$Market;)Z"⟩
abbrev cX6_readsRain : ByteArray := prog_8_method_8_code
def yX6_readsRain : MethodName := ⟨RX6, "readsRain", "(LHalfByFive$Market;)Z"⟩
abbrev cX6_readsBuyer : ByteArray := prog_8_method_9_code
def yX6_readsBuyer : MethodName := ⟨RX6, "readsBuyer", "(LHalfByFive$Market;)Z"⟩
abbrev cX6_readNumber : ByteArray := prog_8_method_10_code
def yX6_readNumber : MethodName := ⟨RX6, "readNumber", "(II)I"⟩
abbrev cX6_readsStop : ByteArray := prog_8_method_11_code
def yX6_readsStop : MethodName := ⟨RX6, "readsStop", "()Z"⟩
abbrev cX6_step : ByteArray := prog_8_method_12_code
def yX6_step : MethodName := ⟨RX6, "step", "()V"⟩
abbrev cX6_isWord : ByteArray := prog_8_method_13_code
def yX6_isWord : MethodName := ⟨RX6, "isWord", "(Ljava/lang/String;)Z"⟩
abbrev cX6_byteAt : ByteArray := prog_8_method_14_code
def yX6_byteAt : MethodName := ⟨RX6, "byteAt", "(I)I"⟩
abbrev cX6_isLetter : ByteArray := prog_8_method_15_code
def yX6_isLetter : MethodName := ⟨RX6, "isLetter", "(I)Z"⟩
abbrev cX6_isFigure : ByteArray := prog_8_method_16_code
def yX6_isFigure : MethodName := ⟨RX6, "isFigure", "(I)Z"⟩
def RX7 : String := "HalfByFive$School"
def TX7 : u_T := fun k => match k with
  | _ => ("", "", "", false)
def tyX7 : Nat → FieldType := fun k => match k with
  | _ => .int
theorem nmX7 : ∀ a, a < 0 → ∀ b, b < 0 → a ≠ b → (TX7 a).2.1 ≠ (TX7 b).2.1 := by decide +kernel
theorem tyX7_ok : ∀ k, k < 0 → parseFieldDescriptor (TX7 k).2.2.1 = some (tyX7 k) := by decide +kernel
abbrev cX7_init : ByteArray := prog_9_method_1_code
def yX7_init : MethodName := ⟨RX7, "<init>", "()V"⟩
abbrev cX7_buysIn : ByteArray := prog_9_method_2_code
def yX7_buysIn : MethodName := ⟨RX7, "buysIn", "(LHalfByFive$Market;I)I"⟩
abbrev cX7_paysAtMost : ByteArray := prog_9_method_3_code
def yX7_paysAtMost : MethodName := ⟨RX7, "paysAtMost", "(II)I"⟩
def RX8 : String := "HalfByFive$TwoStalls"
def TX8 : u_T := fun k => match k with
  | 0 => ("HalfByFive$TwoStalls", "mine", "[I", true)
  | 1 => ("HalfByFive$TwoStalls", "others", "[I", true)
  | 2 => ("HalfByFive$TwoStalls", "mostMine", "[I", true)
  | 3 => ("HalfByFive$TwoStalls", "mostOthers", "[I", true)
  | 4 => ("HalfByFive$TwoStalls", "rests", "I", false)
  | _ => ("HalfByFive$TwoStalls", "firstRest", "I", false)
def tyX8 : Nat → FieldType := fun k => match k with
  | 0 => .array .int
  | 1 => .array .int
  | 2 => .array .int
  | 3 => .array .int
  | 4 => .int
  | _ => .int
theorem nmX8 : ∀ a, a < 6 → ∀ b, b < 6 → a ≠ b → (TX8 a).2.1 ≠ (TX8 b).2.1 := by decide +kernel
theorem tyX8_ok : ∀ k, k < 6 → parseFieldDescriptor (TX8 k).2.2.1 = some (tyX8 k) := by decide +kernel
abbrev cX8_init : ByteArray := prog_10_method_1_code
def yX8_init : MethodName := ⟨RX8, "<init>", "()V"⟩
abbrev cX8_weigh : ByteArray := prog_10_method_2_code
def yX8_weigh : MethodName := ⟨RX8, "weigh", "(LHalfByFive$Market;LHalfByFive$Day;II)V"⟩
abbrev cX8_findRests : ByteArray := prog_10_method_3_code
def yX8_findRests : MethodName := ⟨RX8, "findRests", "()V"⟩
def RX9 : String := "HalfByFive$Waits"
def TX9 : u_T := fun k => match k with
  | _ => ("", "", "", false)
def tyX9 : Nat → FieldType := fun k => match k with
  | _ => .int
theorem nmX9 : ∀ a, a < 0 → ∀ b, b < 0 → a ≠ b → (TX9 a).2.1 ≠ (TX9 b).2.1 := by decide +kernel
theorem tyX9_ok : ∀ k, k < 0 → parseFieldDescriptor (TX9 k).2.2.1 = some (tyX9 k) := by decide +kernel
abbrev cX9_init : ByteArray := prog_11_method_1_code
def yX9_init : MethodName := ⟨RX9, "<init>", "()V"⟩
abbrev cX9_buysIn : ByteArray := prog_11_method_2_code
def yX9_buysIn : MethodName := ⟨RX9, "buysIn", "(LHalfByFive$Market;I)I"⟩
def RX10 : String := "HalfByFive"
def TX10 : u_T := fun k => match k with
  | 0 => ("HalfByFive", "now", "LHalfByFive$Market;", true)
  | 1 => ("HalfByFive", "trial", "LHalfByFive$Market;", true)
  | 2 => ("HalfByFive", "images", "[LHalfByFive$Market;", true)
  | 3 => ("HalfByFive", "kept", "[Z", true)
  | 4 => ("HalfByFive", "walked", "LHalfByFive$Day;", true)
  | 5 => ("HalfByFive", "pairs", "LHalfByFive$TwoStalls;", true)
  | 6 => ("HalfByFive", "told", "LHalfByFive$Reader;", true)
  | 7 => ("HalfByFive", "above", "J", false)
  | 8 => ("HalfByFive", "below", "J", false)
  | 9 => ("HalfByFive", "refusedBad", "I", false)
  | 10 => ("HalfByFive", "refusedNo", "I", false)
  | _ => ("HalfByFive", "refusedFull", "I", false)
def tyX10 : Nat → FieldType := fun k => match k with
  | 0 => .object "HalfByFive$Market"
  | 1 => .object "HalfByFive$Market"
  | 2 => .array (.object "HalfByFive$Market")
  | 3 => .array .boolean
  | 4 => .object "HalfByFive$Day"
  | 5 => .object "HalfByFive$TwoStalls"
  | 6 => .object "HalfByFive$Reader"
  | 7 => .long
  | 8 => .long
  | 9 => .int
  | 10 => .int
  | _ => .int
theorem nmX10 : ∀ a, a < 12 → ∀ b, b < 12 → a ≠ b → (TX10 a).2.1 ≠ (TX10 b).2.1 := by decide +kernel
theorem tyX10_ok : ∀ k, k < 12 → parseFieldDescriptor (TX10 k).2.2.1 = some (tyX10 k) := by decide +kernel
abbrev cX10_init : ByteArray := prog_1_method_1_code
def yX10_init : MethodName := ⟨RX10, "<init>", "()V"⟩
abbrev cX10_market : ByteArray := prog_1_method_2_code
def yX10_market : MethodName := ⟨RX10, "market", "(II)I"⟩
abbrev cX10_bring : ByteArray := prog_1_method_3_code
def yX10_bring : MethodName := ⟨RX10, "bring", "(I)I"⟩
abbrev cX10_price : ByteArray := prog_1_method_4_code
def yX10_price : MethodName := ⟨RX10, "price", "(II)I"⟩
abbrev cX10_theirs : ByteArray := prog_1_method_5_code
def yX10_theirs : MethodName := ⟨RX10, "theirs", "(II)I"⟩
abbrev cX10_rain : ByteArray := prog_1_method_6_code
def yX10_rain : MethodName := ⟨RX10, "rain", "(I)I"⟩
abbrev cX10_buyer : ByteArray := prog_1_method_7_code
def yX10_buyer : MethodName := ⟨RX10, "buyer", "(IIII)I"⟩
abbrev cX10_type : ByteArray := prog_1_method_8_code
def yX10_type : MethodName := ⟨RX10, "type", "(I)I"⟩
abbrev cX10_clear : ByteArray := prog_1_method_9_code
def yX10_clear : MethodName := ⟨RX10, "clear", "()I"⟩
abbrev cX10_read : ByteArray := prog_1_method_10_code
def yX10_read : MethodName := ⟨RX10, "read", "()I"⟩
abbrev cX10_day : ByteArray := prog_1_method_11_code
def yX10_day : MethodName := ⟨RX10, "day", "()I"⟩
abbrev cX10_undo : ByteArray := prog_1_method_12_code
def yX10_undo : MethodName := ⟨RX10, "undo", "()I"⟩
abbrev cX10_of : ByteArray := prog_1_method_13_code
def yX10_of : MethodName := ⟨RX10, "of", "(II)I"⟩
abbrev cX10_about : ByteArray := prog_1_method_14_code
def yX10_about : MethodName := ⟨RX10, "about", "(II)I"⟩
abbrev cX10_takes : ByteArray := prog_1_method_15_code
def yX10_takes : MethodName := ⟨RX10, "takes", "(I)I"⟩
abbrev cX10_to : ByteArray := prog_1_method_16_code
def yX10_to : MethodName := ⟨RX10, "to", "(II)I"⟩
abbrev cX10_best : ByteArray := prog_1_method_17_code
def yX10_best : MethodName := ⟨RX10, "best", "(IIII)I"⟩
abbrev cX10_brings : ByteArray := prog_1_method_18_code
def yX10_brings : MethodName := ⟨RX10, "brings", "(I)I"⟩
abbrev cX10_come : ByteArray := prog_1_method_19_code
def yX10_come : MethodName := ⟨RX10, "come", "(I)I"⟩
abbrev cX10_stalls : ByteArray := prog_1_method_20_code
def yX10_stalls : MethodName := ⟨RX10, "stalls", "(III)I"⟩
abbrev cX10_mean : ByteArray := prog_1_method_21_code
def yX10_mean : MethodName := ⟨RX10, "mean", "(I)I"⟩
abbrev cX10_shout : ByteArray := prog_1_method_22_code
def yX10_shout : MethodName := ⟨RX10, "shout", "(I)I"⟩
abbrev cX10_sold : ByteArray := prog_1_method_23_code
def yX10_sold : MethodName := ⟨RX10, "sold", "(II)I"⟩
abbrev cX10_forget : ByteArray := prog_1_method_24_code
def yX10_forget : MethodName := ⟨RX10, "forget", "()I"⟩
abbrev cX10_may : ByteArray := prog_1_method_25_code
def yX10_may : MethodName := ⟨RX10, "may", "(I)I"⟩
abbrev cX10_drawn : ByteArray := prog_1_method_26_code
def yX10_drawn : MethodName := ⟨RX10, "drawn", "(III)I"⟩
abbrev cX10_part : ByteArray := prog_1_method_27_code
def yX10_part : MethodName := ⟨RX10, "part", "(I)J"⟩
abbrev cX10_image : ByteArray := prog_1_method_28_code
def yX10_image : MethodName := ⟨RX10, "image", "(I)I"⟩
abbrev cX10_from : ByteArray := prog_1_method_29_code
def yX10_from : MethodName := ⟨RX10, "from", "(I)I"⟩
abbrev cX10_status : ByteArray := prog_1_method_30_code
def yX10_status : MethodName := ⟨RX10, "status", "(I)I"⟩
abbrev cX10_count : ByteArray := prog_1_method_31_code
def yX10_count : MethodName := ⟨RX10, "count", "(I)I"⟩
abbrev cX10_digest : ByteArray := prog_1_method_32_code
def yX10_digest : MethodName := ⟨RX10, "digest", "()J"⟩
abbrev cX10_howMany : ByteArray := prog_1_method_33_code
def yX10_howMany : MethodName := ⟨RX10, "howMany", "(I)I"⟩
abbrev cX10_refuse : ByteArray := prog_1_method_34_code
def yX10_refuse : MethodName := ⟨RX10, "refuse", "(I)I"⟩
abbrev cX10_isBuyer : ByteArray := prog_1_method_35_code
def yX10_isBuyer : MethodName := ⟨RX10, "isBuyer", "(I)Z"⟩
abbrev cX10_setFraction : ByteArray := prog_1_method_36_code
def yX10_setFraction : MethodName := ⟨RX10, "setFraction", "(JJ)V"⟩
abbrev cX10_within : ByteArray := prog_1_method_37_code
def yX10_within : MethodName := ⟨RX10, "within", "(III)Z"⟩
abbrev cX10_isHour : ByteArray := prog_1_method_38_code
def yX10_isHour : MethodName := ⟨RX10, "isHour", "(I)Z"⟩
abbrev cX10_fall : ByteArray := prog_1_method_39_code
def yX10_fall : MethodName := ⟨RX10, "fall", "(II)Z"⟩
abbrev cX10_pairOf : ByteArray := prog_1_method_40_code
def yX10_pairOf : MethodName := ⟨RX10, "pairOf", "(II)I"⟩
abbrev cX10_power : ByteArray := prog_1_method_41_code
def yX10_power : MethodName := ⟨RX10, "power", "(II)J"⟩
abbrev cX10_commonDivisor : ByteArray := prog_1_method_42_code
def yX10_commonDivisor : MethodName := ⟨RX10, "commonDivisor", "(JJ)J"⟩
def RX11 : String := "HalfByFiveModel"
def TX11 : u_T := fun k => match k with
  | 0 => ("HalfByFiveModel", "w", "[I", true)
  | 1 => ("HalfByFiveModel", "isKept", "[Z", true)
  | 2 => ("HalfByFiveModel", "text", "[I", true)
  | 3 => ("HalfByFiveModel", "texted", "I", false)
  | 4 => ("HalfByFiveModel", "refused", "[I", true)
  | 5 => ("HalfByFiveModel", "above", "J", false)
  | 6 => ("HalfByFiveModel", "below", "J", false)
  | 7 => ("HalfByFiveModel", "at", "I", false)
  | 8 => ("HalfByFiveModel", "start", "I", false)
  | 9 => ("HalfByFiveModel", "isWord", "Z", false)
  | 10 => ("HalfByFiveModel", "isFigures", "Z", false)
  | 11 => ("HalfByFiveModel", "value", "I", false)
  | 12 => ("HalfByFiveModel", "comers", "I", false)
  | 13 => ("HalfByFiveModel", "shouted", "I", false)
  | 14 => ("HalfByFiveModel", "gets", "[I", true)
  | 15 => ("HalfByFiveModel", "isServed", "[Z", true)
  | 16 => ("HalfByFiveModel", "goes", "[I", true)
  | 17 => ("HalfByFiveModel", "takings", "I", false)
  | 18 => ("HalfByFiveModel", "theirTakings", "I", false)
  | 19 => ("HalfByFiveModel", "left", "I", false)
  | 20 => ("HalfByFiveModel", "aside", "[I", true)
  | 21 => ("HalfByFiveModel", "own", "[I", true)
  | 22 => ("HalfByFiveModel", "other", "[I", true)
  | _ => ("HalfByFiveModel", "h", "J", false)
def tyX11 : Nat → FieldType := fun k => match k with
  | 0 => .array .int
  | 1 => .array .boolean
  | 2 => .array .int
  | 3 => .int
  | 4 => .array .int
  | 5 => .long
  | 6 => .long
  | 7 => .int
  | 8 => .int
  | 9 => .boolean
  | 10 => .boolean
  | 11 => .int
  | 12 => .int
  | 13 => .int
  | 14 => .array .int
  | 15 => .array .boolean
  | 16 => .array .int
  | 17 => .int
  | 18 => .int
  | 19 => .int
  | 20 => .array .int
  | 21 => .array .int
  | 22 => .array .int
  | _ => .long
theorem nmX11 : ∀ a, a < 24 → ∀ b, b < 24 → a ≠ b → (TX11 a).2.1 ≠ (TX11 b).2.1 := by decide +kernel
theorem tyX11_ok : ∀ k, k < 24 → parseFieldDescriptor (TX11 k).2.2.1 = some (tyX11 k) := by decide +kernel
abbrev cX11_init : ByteArray := prog_13_method_1_code
def yX11_init : MethodName := ⟨RX11, "<init>", "()V"⟩
abbrev cX11_in : ByteArray := prog_13_method_3_code
def yX11_in : MethodName := ⟨RX11, "in", "(JJJ)Z"⟩
abbrev cX11_has : ByteArray := prog_13_method_4_code
def yX11_has : MethodName := ⟨RX11, "has", "(II)Z"⟩
abbrev cX11_bad : ByteArray := prog_13_method_5_code
def yX11_bad : MethodName := ⟨RX11, "bad", "()I"⟩
abbrev cX11_badAs : ByteArray := prog_13_method_6_code
def yX11_badAs : MethodName := ⟨RX11, "badAs", "(I)I"⟩
abbrev cX11_no : ByteArray := prog_13_method_7_code
def yX11_no : MethodName := ⟨RX11, "no", "()I"⟩
abbrev cX11_full : ByteArray := prog_13_method_8_code
def yX11_full : MethodName := ⟨RX11, "full", "()I"⟩
abbrev cX11_copy : ByteArray := prog_13_method_9_code
def yX11_copy : MethodName := ⟨RX11, "copy", "(II)V"⟩
abbrev cX11_begins : ByteArray := prog_13_method_10_code
def yX11_begins : MethodName := ⟨RX11, "begins", "(III)V"⟩
abbrev cX11_isHour : ByteArray := prog_13_method_11_code
def yX11_isHour : MethodName := ⟨RX11, "isHour", "(I)Z"⟩
abbrev cX11_isPrice : ByteArray := prog_13_method_12_code
def yX11_isPrice : MethodName := ⟨RX11, "isPrice", "(I)Z"⟩
abbrev cX11_pricesFrom : ByteArray := prog_13_method_13_code
def yX11_pricesFrom : MethodName := ⟨RX11, "pricesFrom", "(III)V"⟩
abbrev cX11_adds : ByteArray := prog_13_method_14_code
def yX11_adds : MethodName := ⟨RX11, "adds", "(IIIII)I"⟩
abbrev cX11_isBuyer : ByteArray := prog_13_method_15_code
def yX11_isBuyer : MethodName := ⟨RX11, "isBuyer", "(I)Z"⟩
abbrev cX11_becomes : ByteArray := prog_13_method_16_code
def yX11_becomes : MethodName := ⟨RX11, "becomes", "(II)I"⟩
abbrev cX11_market : ByteArray := prog_13_method_17_code
def yX11_market : MethodName := ⟨RX11, "market", "(II)I"⟩
abbrev cX11_bring : ByteArray := prog_13_method_18_code
def yX11_bring : MethodName := ⟨RX11, "bring", "(I)I"⟩
abbrev cX11_price : ByteArray := prog_13_method_19_code
def yX11_price : MethodName := ⟨RX11, "price", "(II)I"⟩
abbrev cX11_theirs : ByteArray := prog_13_method_20_code
def yX11_theirs : MethodName := ⟨RX11, "theirs", "(II)I"⟩
abbrev cX11_rain : ByteArray := prog_13_method_21_code
def yX11_rain : MethodName := ⟨RX11, "rain", "(I)I"⟩
abbrev cX11_buyer : ByteArray := prog_13_method_22_code
def yX11_buyer : MethodName := ⟨RX11, "buyer", "(IIII)I"⟩
abbrev cX11_type : ByteArray := prog_13_method_23_code
def yX11_type : MethodName := ⟨RX11, "type", "(I)I"⟩
abbrev cX11_clear : ByteArray := prog_13_method_24_code
def yX11_clear : MethodName := ⟨RX11, "clear", "()I"⟩
abbrev cX11_byteAt : ByteArray := prog_13_method_25_code
def yX11_byteAt : MethodName := ⟨RX11, "byteAt", "(I)I"⟩
abbrev cX11_token : ByteArray := prog_13_method_26_code
def yX11_token : MethodName := ⟨RX11, "token", "()V"⟩
abbrev cX11_isNamed : ByteArray := prog_13_method_27_code
def yX11_isNamed : MethodName := ⟨RX11, "isNamed", "(IIIIII)Z"⟩
abbrev cX11_wordNow : ByteArray := prog_13_method_28_code
def yX11_wordNow : MethodName := ⟨RX11, "wordNow", "()I"⟩
abbrev cX11_takesNumber : ByteArray := prog_13_method_29_code
def yX11_takesNumber : MethodName := ⟨RX11, "takesNumber", "(II)Z"⟩
abbrev cX11_takesHourAnd : ByteArray := prog_13_method_30_code
def yX11_takesHourAnd : MethodName := ⟨RX11, "takesHourAnd", "(I)Z"⟩
abbrev cX11_takesBuyer : ByteArray := prog_13_method_31_code
def yX11_takesBuyer : MethodName := ⟨RX11, "takesBuyer", "()Z"⟩
abbrev cX11_takesMarket : ByteArray := prog_13_method_32_code
def yX11_takesMarket : MethodName := ⟨RX11, "takesMarket", "()Z"⟩
abbrev cX11_takesItem : ByteArray := prog_13_method_33_code
def yX11_takesItem : MethodName := ⟨RX11, "takesItem", "(I)Z"⟩
abbrev cX11_read : ByteArray := prog_13_method_34_code
def yX11_read : MethodName := ⟨RX11, "read", "()I"⟩
abbrev cX11_waitsIn : ByteArray := prog_13_method_35_code
def yX11_waitsIn : MethodName := ⟨RX11, "waitsIn", "(I)I"⟩
abbrev cX11_hourOf : ByteArray := prog_13_method_36_code
def yX11_hourOf : MethodName := ⟨RX11, "hourOf", "(I)I"⟩
abbrev cX11_plainPays : ByteArray := prog_13_method_37_code
def yX11_plainPays : MethodName := ⟨RX11, "plainPays", "(II)I"⟩
abbrev cX11_paysOf : ByteArray := prog_13_method_38_code
def yX11_paysOf : MethodName := ⟨RX11, "paysOf", "(I)I"⟩
abbrev cX11_takesOf : ByteArray := prog_13_method_39_code
def yX11_takesOf : MethodName := ⟨RX11, "takesOf", "(I)I"⟩
abbrev cX11_comes : ByteArray := prog_13_method_40_code
def yX11_comes : MethodName := ⟨RX11, "comes", "(II)V"⟩
abbrev cX11_tries : ByteArray := prog_13_method_41_code
def yX11_tries : MethodName := ⟨RX11, "tries", "(I)V"⟩
abbrev cX11_triesAll : ByteArray := prog_13_method_42_code
def yX11_triesAll : MethodName := ⟨RX11, "triesAll", "()V"⟩
abbrev cX11_isCheaper : ByteArray := prog_13_method_43_code
def yX11_isCheaper : MethodName := ⟨RX11, "isCheaper", "(I)Z"⟩
abbrev cX11_learns : ByteArray := prog_13_method_44_code
def yX11_learns : MethodName := ⟨RX11, "learns", "()V"⟩
abbrev cX11_minds : ByteArray := prog_13_method_45_code
def yX11_minds : MethodName := ⟨RX11, "minds", "()V"⟩
abbrev cX11_day : ByteArray := prog_13_method_46_code
def yX11_day : MethodName := ⟨RX11, "day", "()I"⟩
abbrev cX11_undo : ByteArray := prog_13_method_47_code
def yX11_undo : MethodName := ⟨RX11, "undo", "()I"⟩
abbrev cX11_of : ByteArray := prog_13_method_48_code
def yX11_of : MethodName := ⟨RX11, "of", "(II)I"⟩
abbrev cX11_about : ByteArray := prog_13_method_49_code
def yX11_about : MethodName := ⟨RX11, "about", "(II)I"⟩
abbrev cX11_takes : ByteArray := prog_13_method_50_code
def yX11_takes : MethodName := ⟨RX11, "takes", "(I)I"⟩
abbrev cX11_to : ByteArray := prog_13_method_51_code
def yX11_to : MethodName := ⟨RX11, "to", "(II)I"⟩
abbrev cX11_lays : ByteArray := prog_13_method_52_code
def yX11_lays : MethodName := ⟨RX11, "lays", "()V"⟩
abbrev cX11_putsBack : ByteArray := prog_13_method_53_code
def yX11_putsBack : MethodName := ⟨RX11, "putsBack", "()V"⟩
abbrev cX11_best : ByteArray := prog_13_method_54_code
def yX11_best : MethodName := ⟨RX11, "best", "(IIII)I"⟩
abbrev cX11_brings : ByteArray := prog_13_method_55_code
def yX11_brings : MethodName := ⟨RX11, "brings", "(I)I"⟩
abbrev cX11_come : ByteArray := prog_13_method_56_code
def yX11_come : MethodName := ⟨RX11, "come", "(I)I"⟩
abbrev cX11_stalls : ByteArray := prog_13_method_57_code
def yX11_stalls : MethodName := ⟨RX11, "stalls", "(III)I"⟩
abbrev cX11_tells : ByteArray := prog_13_method_58_code
def yX11_tells : MethodName := ⟨RX11, "tells", "(JJ)V"⟩
abbrev cX11_mean : ByteArray := prog_13_method_59_code
def yX11_mean : MethodName := ⟨RX11, "mean", "(I)I"⟩
abbrev cX11_shout : ByteArray := prog_13_method_60_code
def yX11_shout : MethodName := ⟨RX11, "shout", "(I)I"⟩
abbrev cX11_sold : ByteArray := prog_13_method_61_code
def yX11_sold : MethodName := ⟨RX11, "sold", "(II)I"⟩
abbrev cX11_forget : ByteArray := prog_13_method_62_code
def yX11_forget : MethodName := ⟨RX11, "forget", "()I"⟩
abbrev cX11_may : ByteArray := prog_13_method_63_code
def yX11_may : MethodName := ⟨RX11, "may", "(I)I"⟩
abbrev cX11_drawn : ByteArray := prog_13_method_64_code
def yX11_drawn : MethodName := ⟨RX11, "drawn", "(III)I"⟩
abbrev cX11_part : ByteArray := prog_13_method_65_code
def yX11_part : MethodName := ⟨RX11, "part", "(I)J"⟩
abbrev cX11_image : ByteArray := prog_13_method_66_code
def yX11_image : MethodName := ⟨RX11, "image", "(I)I"⟩
abbrev cX11_from : ByteArray := prog_13_method_67_code
def yX11_from : MethodName := ⟨RX11, "from", "(I)I"⟩
abbrev cX11_status : ByteArray := prog_13_method_68_code
def yX11_status : MethodName := ⟨RX11, "status", "(I)I"⟩
abbrev cX11_countOf : ByteArray := prog_13_method_69_code
def yX11_countOf : MethodName := ⟨RX11, "countOf", "(I)I"⟩
abbrev cX11_count : ByteArray := prog_13_method_70_code
def yX11_count : MethodName := ⟨RX11, "count", "(I)I"⟩
abbrev cX11_mix : ByteArray := prog_13_method_71_code
def yX11_mix : MethodName := ⟨RX11, "mix", "(J)V"⟩
abbrev cX11_digest : ByteArray := prog_13_method_72_code
def yX11_digest : MethodName := ⟨RX11, "digest", "()J"⟩
def RJx145de : String := "java/io/Serializable"
def RJx9f9b0 : String := "java/lang/CharSequence"
def RJxb160c : String := "java/lang/Comparable"
def RJ6 : String := "java/lang/Integer"
abbrev cJ6_bitCount_0f7a4 : ByteArray := prog_14_method_49_code
def yJ6_bitCount_0f7a4 : MethodName := ⟨RJ6, "bitCount", "(I)I"⟩
def RJ9 : String := "java/lang/Math"
abbrev cJ9_max_7cf53 : ByteArray := prog_15_method_65_code
def yJ9_max_7cf53 : MethodName := ⟨RJ9, "max", "(II)I"⟩
abbrev cJ9_min_7cf53 : ByteArray := prog_15_method_69_code
def yJ9_min_7cf53 : MethodName := ⟨RJ9, "min", "(II)I"⟩
def RJ0 : String := "java/lang/String"
abbrev cJ0_length_8abf5 : ByteArray := prog_16_method_54_code
def yJ0_length_8abf5 : MethodName := ⟨RJ0, "length", "()I"⟩
abbrev cJ0_charAt_5068e : ByteArray := prog_16_method_56_code
def yJ0_charAt_5068e : MethodName := ⟨RJ0, "charAt", "(I)C"⟩
abbrev cJ0_coder_7d493 : ByteArray := prog_16_method_152_code
def yJ0_coder_7d493 : MethodName := ⟨RJ0, "coder", "()B"⟩
abbrev cJ0_isLatin1_aae02 : ByteArray := prog_16_method_154_code
def yJ0_isLatin1_aae02 : MethodName := ⟨RJ0, "isLatin1", "()Z"⟩
abbrev cJ0_checkIndex_df160 : ByteArray := prog_16_method_155_code
def yJ0_checkIndex_df160 : MethodName := ⟨RJ0, "checkIndex", "(II)V"⟩
def RJ1 : String := "java/lang/StringLatin1"
abbrev cJ1_charAt_3b067 : ByteArray := prog_17_method_2_code
def yJ1_charAt_3b067 : MethodName := ⟨RJ1, "charAt", "([BI)C"⟩
def RJ2 : String := "java/lang/StringUTF16"
abbrev cJ2_getChar_3b067 : ByteArray := prog_18_method_5_code
def yJ2_getChar_3b067 : MethodName := ⟨RJ2, "getChar", "([BI)C"⟩
abbrev cJ2_length_9d52b : ByteArray := prog_18_method_6_code
def yJ2_length_9d52b : MethodName := ⟨RJ2, "length", "([B)I"⟩
abbrev cJ2_charAt_3b067 : ByteArray := prog_18_method_83_code
def yJ2_charAt_3b067 : MethodName := ⟨RJ2, "charAt", "([BI)C"⟩
abbrev cJ2_checkIndex_2214a : ByteArray := prog_18_method_91_code
def yJ2_checkIndex_2214a : MethodName := ⟨RJ2, "checkIndex", "(I[B)V"⟩
def RJ10 : String := "java/lang/System"
def RJxfd54e : String := "java/lang/constant/Constable"
def RJx3cf43 : String := "java/lang/constant/ConstantDesc"
def RJ7 : String := "java/util/Arrays"
abbrev cJ7_fill_53178 : ByteArray := prog_20_method_103_code
def yJ7_fill_53178 : MethodName := ⟨RJ7, "fill", "([II)V"⟩
def RJ3 : String := "jdk/internal/util/Preconditions"
abbrev cJ3_checkIndex_8e157 : ByteArray := prog_21_method_11_code
def yJ3_checkIndex_8e157 : MethodName := ⟨RJ3, "checkIndex", "(IILjava/util/function/BiFunction;)I"⟩
def RL : String := "HalfByFiveLaw"
abbrev cL_law : ByteArray := code
def yL_law : MethodName := ⟨RL, "law", "([I)Z"⟩
abbrev vwCl : List vw_C := [(RX0, TX0, 0), (RX1, TX1, 0), (RX2, TX2, 12), (RX3, TX3, 17), (RX4, TX4, 0), (RX5, TX5, 0), (RX6, TX6, 6), (RX7, TX7, 0), (RX8, TX8, 6), (RX9, TX9, 0), (RX10, TX10, 12), (RX11, TX11, 24)]
