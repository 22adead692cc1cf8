-- ===== PART A: goes FIRST, ahead of the names: the tables' words, and 'selects' of the private methods out of them =====
/-- a private method of a class that the tables say can be made, by its rows of tables_1 -/
def lw_okq (q : MethodName × Nat) : Prop := (q.1.cls ≠ "java/lang/invoke/MethodHandle" ∧ q.1.cls ≠ "java/lang/invoke/VarHandle") ∧ Cond.instantiable q.1.cls q.2 ∈ tables_1 ∧ Cond.privateMethod q.1 ∈ tables_1 ∧ Cond.instanceMethod q.1 ∈ tables_1
theorem lw_p0 : lw_okq (⟨"FractionLift", "tapeInt", "(I)V"⟩, 18) := ⟨⟨by decide +kernel, by decide +kernel⟩, List.mem_of_getElem? (i := 21) (by decide +kernel), List.mem_of_getElem? (i := 241) (by decide +kernel), List.mem_of_getElem? (i := 242) (by decide +kernel)⟩
theorem lw_p1 : lw_okq (⟨"FractionLift$Tokens", "behindBlanks", "(I)I"⟩, 6) := ⟨⟨by decide +kernel, by decide +kernel⟩, List.mem_of_getElem? (i := 257) (by decide +kernel), List.mem_of_getElem? (i := 349) (by decide +kernel), List.mem_of_getElem? (i := 350) (by decide +kernel)⟩
theorem lw_p2 : lw_okq (⟨"FractionLift$Tokens", "endOf", "(I)I"⟩, 6) := ⟨⟨by decide +kernel, by decide +kernel⟩, List.mem_of_getElem? (i := 257) (by decide +kernel), List.mem_of_getElem? (i := 353) (by decide +kernel), List.mem_of_getElem? (i := 354) (by decide +kernel)⟩
theorem lw_p3 : lw_okq (⟨"FractionLift$Tokens", "kindOf", "(II)I"⟩, 6) := ⟨⟨by decide +kernel, by decide +kernel⟩, List.mem_of_getElem? (i := 257) (by decide +kernel), List.mem_of_getElem? (i := 363) (by decide +kernel), List.mem_of_getElem? (i := 364) (by decide +kernel)⟩
theorem lw_p4 : lw_okq (⟨"FractionLift$Tokens", "wordKind", "(II)I"⟩, 6) := ⟨⟨by decide +kernel, by decide +kernel⟩, List.mem_of_getElem? (i := 257) (by decide +kernel), List.mem_of_getElem? (i := 367) (by decide +kernel), List.mem_of_getElem? (i := 368) (by decide +kernel)⟩
theorem lw_p5 : lw_okq (⟨"FractionLift$Tokens", "isWord", "(Ljava/lang/String;II)Z"⟩, 6) := ⟨⟨by decide +kernel, by decide +kernel⟩, List.mem_of_getElem? (i := 257) (by decide +kernel), List.mem_of_getElem? (i := 372) (by decide +kernel), List.mem_of_getElem? (i := 373) (by decide +kernel)⟩
theorem lw_p6 : lw_okq (⟨"FractionLift$Tokens", "amountOf", "(II)I"⟩, 6) := ⟨⟨by decide +kernel, by decide +kernel⟩, List.mem_of_getElem? (i := 257) (by decide +kernel), List.mem_of_getElem? (i := 434) (by decide +kernel), List.mem_of_getElem? (i := 435) (by decide +kernel)⟩
theorem lw_p7 : lw_okq (⟨"FractionLift$Tokens", "add", "(III)V"⟩, 6) := ⟨⟨by decide +kernel, by decide +kernel⟩, List.mem_of_getElem? (i := 257) (by decide +kernel), List.mem_of_getElem? (i := 438) (by decide +kernel), List.mem_of_getElem? (i := 439) (by decide +kernel)⟩
theorem lw_p8 : lw_okq (⟨"FractionLift$Reader", "lookAt", "(I)V"⟩, 14) := ⟨⟨by decide +kernel, by decide +kernel⟩, List.mem_of_getElem? (i := 249) (by decide +kernel), List.mem_of_getElem? (i := 442) (by decide +kernel), List.mem_of_getElem? (i := 443) (by decide +kernel)⟩
theorem lw_p9 : lw_okq (⟨"FractionLift$Reader", "line", "()Z"⟩, 14) := ⟨⟨by decide +kernel, by decide +kernel⟩, List.mem_of_getElem? (i := 249) (by decide +kernel), List.mem_of_getElem? (i := 446) (by decide +kernel), List.mem_of_getElem? (i := 447) (by decide +kernel)⟩
theorem lw_p10 : lw_okq (⟨"FractionLift$Reader", "topLine", "()Z"⟩, 14) := ⟨⟨by decide +kernel, by decide +kernel⟩, List.mem_of_getElem? (i := 249) (by decide +kernel), List.mem_of_getElem? (i := 450) (by decide +kernel), List.mem_of_getElem? (i := 451) (by decide +kernel)⟩
theorem lw_p11 : lw_okq (⟨"FractionLift$Reader", "cantStand", "()Z"⟩, 14) := ⟨⟨by decide +kernel, by decide +kernel⟩, List.mem_of_getElem? (i := 249) (by decide +kernel), List.mem_of_getElem? (i := 454) (by decide +kernel), List.mem_of_getElem? (i := 455) (by decide +kernel)⟩
theorem lw_p12 : lw_okq (⟨"FractionLift$Reader", "failed", "(I)Z"⟩, 14) := ⟨⟨by decide +kernel, by decide +kernel⟩, List.mem_of_getElem? (i := 249) (by decide +kernel), List.mem_of_getElem? (i := 458) (by decide +kernel), List.mem_of_getElem? (i := 459) (by decide +kernel)⟩
theorem lw_p13 : lw_okq (⟨"FractionLift$Reader", "next", "()V"⟩, 14) := ⟨⟨by decide +kernel, by decide +kernel⟩, List.mem_of_getElem? (i := 249) (by decide +kernel), List.mem_of_getElem? (i := 462) (by decide +kernel), List.mem_of_getElem? (i := 463) (by decide +kernel)⟩
theorem lw_p14 : lw_okq (⟨"FractionLift$Reader", "numberWithin", "(II)Z"⟩, 14) := ⟨⟨by decide +kernel, by decide +kernel⟩, List.mem_of_getElem? (i := 249) (by decide +kernel), List.mem_of_getElem? (i := 466) (by decide +kernel), List.mem_of_getElem? (i := 467) (by decide +kernel)⟩
theorem lw_p15 : lw_okq (⟨"FractionLift$Reader", "buttonLine", "()Z"⟩, 14) := ⟨⟨by decide +kernel, by decide +kernel⟩, List.mem_of_getElem? (i := 249) (by decide +kernel), List.mem_of_getElem? (i := 470) (by decide +kernel), List.mem_of_getElem? (i := 471) (by decide +kernel)⟩
def lw_privs_1 : List (MethodName × Nat) := [(⟨"FractionLift", "tapeInt", "(I)V"⟩, 18), (⟨"FractionLift$Tokens", "behindBlanks", "(I)I"⟩, 6), (⟨"FractionLift$Tokens", "endOf", "(I)I"⟩, 6), (⟨"FractionLift$Tokens", "kindOf", "(II)I"⟩, 6), (⟨"FractionLift$Tokens", "wordKind", "(II)I"⟩, 6), (⟨"FractionLift$Tokens", "isWord", "(Ljava/lang/String;II)Z"⟩, 6), (⟨"FractionLift$Tokens", "amountOf", "(II)I"⟩, 6), (⟨"FractionLift$Tokens", "add", "(III)V"⟩, 6), (⟨"FractionLift$Reader", "lookAt", "(I)V"⟩, 14), (⟨"FractionLift$Reader", "line", "()Z"⟩, 14), (⟨"FractionLift$Reader", "topLine", "()Z"⟩, 14), (⟨"FractionLift$Reader", "cantStand", "()Z"⟩, 14), (⟨"FractionLift$Reader", "failed", "(I)Z"⟩, 14), (⟨"FractionLift$Reader", "next", "()V"⟩, 14), (⟨"FractionLift$Reader", "numberWithin", "(II)Z"⟩, 14), (⟨"FractionLift$Reader", "buttonLine", "()Z"⟩, 14)]
theorem lw_r1 : ∀ q ∈ lw_privs_1, lw_okq q := List.forall_mem_cons.mpr ⟨lw_p0, List.forall_mem_cons.mpr ⟨lw_p1, List.forall_mem_cons.mpr ⟨lw_p2, List.forall_mem_cons.mpr ⟨lw_p3, List.forall_mem_cons.mpr ⟨lw_p4, List.forall_mem_cons.mpr ⟨lw_p5, List.forall_mem_cons.mpr ⟨lw_p6, List.forall_mem_cons.mpr ⟨lw_p7, List.forall_mem_cons.mpr ⟨lw_p8, List.forall_mem_cons.mpr ⟨lw_p9, List.forall_mem_cons.mpr ⟨lw_p10, List.forall_mem_cons.mpr ⟨lw_p11, List.forall_mem_cons.mpr ⟨lw_p12, List.forall_mem_cons.mpr ⟨lw_p13, List.forall_mem_cons.mpr ⟨lw_p14, List.forall_mem_cons.mpr ⟨lw_p15, fun _ h => absurd h List.not_mem_nil⟩⟩⟩⟩⟩⟩⟩⟩⟩⟩⟩⟩⟩⟩⟩⟩
theorem lw_p16 : lw_okq (⟨"FractionLift$Reader", "sumToEnd", "()Z"⟩, 14) := ⟨⟨by decide +kernel, by decide +kernel⟩, List.mem_of_getElem? (i := 249) (by decide +kernel), List.mem_of_getElem? (i := 474) (by decide +kernel), List.mem_of_getElem? (i := 475) (by decide +kernel)⟩
theorem lw_p17 : lw_okq (⟨"FractionLift$Reader", "pushSign", "(I)V"⟩, 14) := ⟨⟨by decide +kernel, by decide +kernel⟩, List.mem_of_getElem? (i := 249) (by decide +kernel), List.mem_of_getElem? (i := 478) (by decide +kernel), List.mem_of_getElem? (i := 479) (by decide +kernel)⟩
theorem lw_p18 : lw_okq (⟨"FractionLift$Reader", "atom", "()Z"⟩, 14) := ⟨⟨by decide +kernel, by decide +kernel⟩, List.mem_of_getElem? (i := 249) (by decide +kernel), List.mem_of_getElem? (i := 482) (by decide +kernel), List.mem_of_getElem? (i := 483) (by decide +kernel)⟩
theorem lw_p19 : lw_okq (⟨"FractionLift$Reader", "emit", "(I)V"⟩, 14) := ⟨⟨by decide +kernel, by decide +kernel⟩, List.mem_of_getElem? (i := 249) (by decide +kernel), List.mem_of_getElem? (i := 486) (by decide +kernel), List.mem_of_getElem? (i := 487) (by decide +kernel)⟩
theorem lw_p20 : lw_okq (⟨"FractionLift$Reader", "popSigns", "(I)V"⟩, 14) := ⟨⟨by decide +kernel, by decide +kernel⟩, List.mem_of_getElem? (i := 249) (by decide +kernel), List.mem_of_getElem? (i := 490) (by decide +kernel), List.mem_of_getElem? (i := 491) (by decide +kernel)⟩
theorem lw_p21 : lw_okq (⟨"FractionLift$Reader", "dropSign", "()V"⟩, 14) := ⟨⟨by decide +kernel, by decide +kernel⟩, List.mem_of_getElem? (i := 249) (by decide +kernel), List.mem_of_getElem? (i := 497) (by decide +kernel), List.mem_of_getElem? (i := 498) (by decide +kernel)⟩
theorem lw_p22 : lw_okq (⟨"FractionLift$Reader", "signCode", "()I"⟩, 14) := ⟨⟨by decide +kernel, by decide +kernel⟩, List.mem_of_getElem? (i := 249) (by decide +kernel), List.mem_of_getElem? (i := 501) (by decide +kernel), List.mem_of_getElem? (i := 502) (by decide +kernel)⟩
theorem lw_p23 : lw_okq (⟨"FractionLift$Reader", "floorLine", "()Z"⟩, 14) := ⟨⟨by decide +kernel, by decide +kernel⟩, List.mem_of_getElem? (i := 249) (by decide +kernel), List.mem_of_getElem? (i := 505) (by decide +kernel), List.mem_of_getElem? (i := 506) (by decide +kernel)⟩
theorem lw_p24 : lw_okq (⟨"FractionLift$Reader", "fractionThen", "(I)Z"⟩, 14) := ⟨⟨by decide +kernel, by decide +kernel⟩, List.mem_of_getElem? (i := 249) (by decide +kernel), List.mem_of_getElem? (i := 509) (by decide +kernel), List.mem_of_getElem? (i := 510) (by decide +kernel)⟩
theorem lw_p25 : lw_okq (⟨"FractionLift$Reader", "tenantLine", "()Z"⟩, 14) := ⟨⟨by decide +kernel, by decide +kernel⟩, List.mem_of_getElem? (i := 249) (by decide +kernel), List.mem_of_getElem? (i := 540) (by decide +kernel), List.mem_of_getElem? (i := 541) (by decide +kernel)⟩
theorem lw_p26 : lw_okq (⟨"FractionLift$Reader", "atLine", "()Z"⟩, 14) := ⟨⟨by decide +kernel, by decide +kernel⟩, List.mem_of_getElem? (i := 249) (by decide +kernel), List.mem_of_getElem? (i := 548) (by decide +kernel), List.mem_of_getElem? (i := 549) (by decide +kernel)⟩
theorem lw_p27 : lw_okq (⟨"FractionLift$Reader", "stickLine", "()Z"⟩, 14) := ⟨⟨by decide +kernel, by decide +kernel⟩, List.mem_of_getElem? (i := 249) (by decide +kernel), List.mem_of_getElem? (i := 552) (by decide +kernel), List.mem_of_getElem? (i := 553) (by decide +kernel)⟩
theorem lw_p28 : lw_okq (⟨"FractionLift$Reader", "closes", "()Z"⟩, 14) := ⟨⟨by decide +kernel, by decide +kernel⟩, List.mem_of_getElem? (i := 249) (by decide +kernel), List.mem_of_getElem? (i := 556) (by decide +kernel), List.mem_of_getElem? (i := 557) (by decide +kernel)⟩
theorem lw_p29 : lw_okq (⟨"FractionLift$Reckoner", "pile", "(JJ)V"⟩, 5) := ⟨⟨by decide +kernel, by decide +kernel⟩, List.mem_of_getElem? (i := 136) (by decide +kernel), List.mem_of_getElem? (i := 593) (by decide +kernel), List.mem_of_getElem? (i := 594) (by decide +kernel)⟩
theorem lw_p30 : lw_okq (⟨"FractionLift$Reckoner", "join", "(I)I"⟩, 5) := ⟨⟨by decide +kernel, by decide +kernel⟩, List.mem_of_getElem? (i := 136) (by decide +kernel), List.mem_of_getElem? (i := 597) (by decide +kernel), List.mem_of_getElem? (i := 598) (by decide +kernel)⟩
theorem lw_p31 : lw_okq (⟨"FractionLift$Reckoner", "settle", "(JJ)I"⟩, 5) := ⟨⟨by decide +kernel, by decide +kernel⟩, List.mem_of_getElem? (i := 136) (by decide +kernel), List.mem_of_getElem? (i := 601) (by decide +kernel), List.mem_of_getElem? (i := 602) (by decide +kernel)⟩
def lw_privs_2 : List (MethodName × Nat) := [(⟨"FractionLift$Reader", "sumToEnd", "()Z"⟩, 14), (⟨"FractionLift$Reader", "pushSign", "(I)V"⟩, 14), (⟨"FractionLift$Reader", "atom", "()Z"⟩, 14), (⟨"FractionLift$Reader", "emit", "(I)V"⟩, 14), (⟨"FractionLift$Reader", "popSigns", "(I)V"⟩, 14), (⟨"FractionLift$Reader", "dropSign", "()V"⟩, 14), (⟨"FractionLift$Reader", "signCode", "()I"⟩, 14), (⟨"FractionLift$Reader", "floorLine", "()Z"⟩, 14), (⟨"FractionLift$Reader", "fractionThen", "(I)Z"⟩, 14), (⟨"FractionLift$Reader", "tenantLine", "()Z"⟩, 14), (⟨"FractionLift$Reader", "atLine", "()Z"⟩, 14), (⟨"FractionLift$Reader", "stickLine", "()Z"⟩, 14), (⟨"FractionLift$Reader", "closes", "()Z"⟩, 14), (⟨"FractionLift$Reckoner", "pile", "(JJ)V"⟩, 5), (⟨"FractionLift$Reckoner", "join", "(I)I"⟩, 5), (⟨"FractionLift$Reckoner", "settle", "(JJ)I"⟩, 5)]
theorem lw_r2 : ∀ q ∈ lw_privs_2, lw_okq q := List.forall_mem_cons.mpr ⟨lw_p16, List.forall_mem_cons.mpr ⟨lw_p17, List.forall_mem_cons.mpr ⟨lw_p18, List.forall_mem_cons.mpr ⟨lw_p19, List.forall_mem_cons.mpr ⟨lw_p20, List.forall_mem_cons.mpr ⟨lw_p21, List.forall_mem_cons.mpr ⟨lw_p22, List.forall_mem_cons.mpr ⟨lw_p23, List.forall_mem_cons.mpr ⟨lw_p24, List.forall_mem_cons.mpr ⟨lw_p25, List.forall_mem_cons.mpr ⟨lw_p26, List.forall_mem_cons.mpr ⟨lw_p27, List.forall_mem_cons.mpr ⟨lw_p28, List.forall_mem_cons.mpr ⟨lw_p29, List.forall_mem_cons.mpr ⟨lw_p30, List.forall_mem_cons.mpr ⟨lw_p31, fun _ h => absurd h List.not_mem_nil⟩⟩⟩⟩⟩⟩⟩⟩⟩⟩⟩⟩⟩⟩⟩⟩
theorem lw_p32 : lw_okq (⟨"FractionLift", "asksFloor", "(II)Z"⟩, 18) := ⟨⟨by decide +kernel, by decide +kernel⟩, List.mem_of_getElem? (i := 21) (by decide +kernel), List.mem_of_getElem? (i := 615) (by decide +kernel), List.mem_of_getElem? (i := 616) (by decide +kernel)⟩
theorem lw_p33 : lw_okq (⟨"FractionLift", "pressOne", "(I)I"⟩, 18) := ⟨⟨by decide +kernel, by decide +kernel⟩, List.mem_of_getElem? (i := 21) (by decide +kernel), List.mem_of_getElem? (i := 625) (by decide +kernel), List.mem_of_getElem? (i := 626) (by decide +kernel)⟩
theorem lw_p34 : lw_okq (⟨"FractionLift", "forgetEldest", "()V"⟩, 18) := ⟨⟨by decide +kernel, by decide +kernel⟩, List.mem_of_getElem? (i := 21) (by decide +kernel), List.mem_of_getElem? (i := 629) (by decide +kernel), List.mem_of_getElem? (i := 630) (by decide +kernel)⟩
theorem lw_p35 : lw_okq (⟨"FractionLift", "refusedRow", "(II)I"⟩, 18) := ⟨⟨by decide +kernel, by decide +kernel⟩, List.mem_of_getElem? (i := 21) (by decide +kernel), List.mem_of_getElem? (i := 641) (by decide +kernel), List.mem_of_getElem? (i := 642) (by decide +kernel)⟩
theorem lw_p36 : lw_okq (⟨"FractionLift", "refusedTray", "(I)I"⟩, 18) := ⟨⟨by decide +kernel, by decide +kernel⟩, List.mem_of_getElem? (i := 21) (by decide +kernel), List.mem_of_getElem? (i := 645) (by decide +kernel), List.mem_of_getElem? (i := 646) (by decide +kernel)⟩
theorem lw_p37 : lw_okq (⟨"FractionLift", "routesFromHere", "()LFractionLift$Routes;"⟩, 18) := ⟨⟨by decide +kernel, by decide +kernel⟩, List.mem_of_getElem? (i := 21) (by decide +kernel), List.mem_of_getElem? (i := 729) (by decide +kernel), List.mem_of_getElem? (i := 730) (by decide +kernel)⟩
theorem lw_p38 : lw_okq (⟨"FractionLift$Routes", "stepTowards", "(IIII)Z"⟩, 7) := ⟨⟨by decide +kernel, by decide +kernel⟩, List.mem_of_getElem? (i := 733) (by decide +kernel), List.mem_of_getElem? (i := 824) (by decide +kernel), List.mem_of_getElem? (i := 825) (by decide +kernel)⟩
theorem lw_p39 : lw_okq (⟨"FractionLift$Routes", "traceRow", "(II[I)V"⟩, 7) := ⟨⟨by decide +kernel, by decide +kernel⟩, List.mem_of_getElem? (i := 733) (by decide +kernel), List.mem_of_getElem? (i := 833) (by decide +kernel), List.mem_of_getElem? (i := 834) (by decide +kernel)⟩
theorem lw_p40 : lw_okq (⟨"FractionLift$Routes", "spread", "(III)V"⟩, 7) := ⟨⟨by decide +kernel, by decide +kernel⟩, List.mem_of_getElem? (i := 733) (by decide +kernel), List.mem_of_getElem? (i := 845) (by decide +kernel), List.mem_of_getElem? (i := 846) (by decide +kernel)⟩
theorem lw_p41 : lw_okq (⟨"FractionLift$Routes", "stepToTwins", "(III)Z"⟩, 7) := ⟨⟨by decide +kernel, by decide +kernel⟩, List.mem_of_getElem? (i := 733) (by decide +kernel), List.mem_of_getElem? (i := 869) (by decide +kernel), List.mem_of_getElem? (i := 870) (by decide +kernel)⟩
theorem lw_p42 : lw_okq (⟨"FractionLift", "isNever", "(I)Z"⟩, 18) := ⟨⟨by decide +kernel, by decide +kernel⟩, List.mem_of_getElem? (i := 21) (by decide +kernel), List.mem_of_getElem? (i := 880) (by decide +kernel), List.mem_of_getElem? (i := 881) (by decide +kernel)⟩
theorem lw_p43 : lw_okq (⟨"FractionLift", "remaindersBy", "(I)I"⟩, 18) := ⟨⟨by decide +kernel, by decide +kernel⟩, List.mem_of_getElem? (i := 21) (by decide +kernel), List.mem_of_getElem? (i := 890) (by decide +kernel), List.mem_of_getElem? (i := 891) (by decide +kernel)⟩
theorem lw_p44 : lw_okq (⟨"FractionLift", "remaindersFrom", "(III)I"⟩, 18) := ⟨⟨by decide +kernel, by decide +kernel⟩, List.mem_of_getElem? (i := 21) (by decide +kernel), List.mem_of_getElem? (i := 894) (by decide +kernel), List.mem_of_getElem? (i := 895) (by decide +kernel)⟩
theorem lw_p45 : lw_okq (⟨"FractionLift$Reckoner", "joinBy", "(II)Z"⟩, 5) := ⟨⟨by decide +kernel, by decide +kernel⟩, List.mem_of_getElem? (i := 136) (by decide +kernel), List.mem_of_getElem? (i := 902) (by decide +kernel), List.mem_of_getElem? (i := 903) (by decide +kernel)⟩
theorem lw_p46 : lw_okq (⟨"FractionLift$Routes", "leastCommon", "(III)I"⟩, 7) := ⟨⟨by decide +kernel, by decide +kernel⟩, List.mem_of_getElem? (i := 733) (by decide +kernel), List.mem_of_getElem? (i := 923) (by decide +kernel), List.mem_of_getElem? (i := 924) (by decide +kernel)⟩
theorem lw_p47 : lw_okq (⟨"FractionLift$Routes", "stay", "(II)V"⟩, 7) := ⟨⟨by decide +kernel, by decide +kernel⟩, List.mem_of_getElem? (i := 733) (by decide +kernel), List.mem_of_getElem? (i := 927) (by decide +kernel), List.mem_of_getElem? (i := 928) (by decide +kernel)⟩
def lw_privs_3 : List (MethodName × Nat) := [(⟨"FractionLift", "asksFloor", "(II)Z"⟩, 18), (⟨"FractionLift", "pressOne", "(I)I"⟩, 18), (⟨"FractionLift", "forgetEldest", "()V"⟩, 18), (⟨"FractionLift", "refusedRow", "(II)I"⟩, 18), (⟨"FractionLift", "refusedTray", "(I)I"⟩, 18), (⟨"FractionLift", "routesFromHere", "()LFractionLift$Routes;"⟩, 18), (⟨"FractionLift$Routes", "stepTowards", "(IIII)Z"⟩, 7), (⟨"FractionLift$Routes", "traceRow", "(II[I)V"⟩, 7), (⟨"FractionLift$Routes", "spread", "(III)V"⟩, 7), (⟨"FractionLift$Routes", "stepToTwins", "(III)Z"⟩, 7), (⟨"FractionLift", "isNever", "(I)Z"⟩, 18), (⟨"FractionLift", "remaindersBy", "(I)I"⟩, 18), (⟨"FractionLift", "remaindersFrom", "(III)I"⟩, 18), (⟨"FractionLift$Reckoner", "joinBy", "(II)Z"⟩, 5), (⟨"FractionLift$Routes", "leastCommon", "(III)I"⟩, 7), (⟨"FractionLift$Routes", "stay", "(II)V"⟩, 7)]
theorem lw_r3 : ∀ q ∈ lw_privs_3, lw_okq q := List.forall_mem_cons.mpr ⟨lw_p32, List.forall_mem_cons.mpr ⟨lw_p33, List.forall_mem_cons.mpr ⟨lw_p34, List.forall_mem_cons.mpr ⟨lw_p35, List.forall_mem_cons.mpr ⟨lw_p36, List.forall_mem_cons.mpr ⟨lw_p37, List.forall_mem_cons.mpr ⟨lw_p38, List.forall_mem_cons.mpr ⟨lw_p39, List.forall_mem_cons.mpr ⟨lw_p40, List.forall_mem_cons.mpr ⟨lw_p41, List.forall_mem_cons.mpr ⟨lw_p42, List.forall_mem_cons.mpr ⟨lw_p43, List.forall_mem_cons.mpr ⟨lw_p44, List.forall_mem_cons.mpr ⟨lw_p45, List.forall_mem_cons.mpr ⟨lw_p46, List.forall_mem_cons.mpr ⟨lw_p47, fun _ h => absurd h List.not_mem_nil⟩⟩⟩⟩⟩⟩⟩⟩⟩⟩⟩⟩⟩⟩⟩⟩
theorem lw_p48 : lw_okq (⟨"FractionLift", "layTerms", "(JJ)I"⟩, 18) := ⟨⟨by decide +kernel, by decide +kernel⟩, List.mem_of_getElem? (i := 21) (by decide +kernel), List.mem_of_getElem? (i := 935) (by decide +kernel), List.mem_of_getElem? (i := 936) (by decide +kernel)⟩
theorem lw_p49 : lw_okq (⟨"FractionLift", "seekAbove", "(I)Z"⟩, 18) := ⟨⟨by decide +kernel, by decide +kernel⟩, List.mem_of_getElem? (i := 21) (by decide +kernel), List.mem_of_getElem? (i := 943) (by decide +kernel), List.mem_of_getElem? (i := 944) (by decide +kernel)⟩
theorem lw_p50 : lw_okq (⟨"FractionLift", "seekBelow", "(I)Z"⟩, 18) := ⟨⟨by decide +kernel, by decide +kernel⟩, List.mem_of_getElem? (i := 21) (by decide +kernel), List.mem_of_getElem? (i := 947) (by decide +kernel), List.mem_of_getElem? (i := 948) (by decide +kernel)⟩
theorem lw_p51 : lw_okq (⟨"FractionLift", "seekSimplest", "(JJJJ)V"⟩, 18) := ⟨⟨by decide +kernel, by decide +kernel⟩, List.mem_of_getElem? (i := 21) (by decide +kernel), List.mem_of_getElem? (i := 962) (by decide +kernel), List.mem_of_getElem? (i := 963) (by decide +kernel)⟩
theorem lw_p52 : lw_okq (⟨"FractionLift", "countBelow", "(JJI)I"⟩, 18) := ⟨⟨by decide +kernel, by decide +kernel⟩, List.mem_of_getElem? (i := 21) (by decide +kernel), List.mem_of_getElem? (i := 970) (by decide +kernel), List.mem_of_getElem? (i := 971) (by decide +kernel)⟩
theorem lw_p53 : lw_okq (⟨"FractionLift", "layParts", "()I"⟩, 18) := ⟨⟨by decide +kernel, by decide +kernel⟩, List.mem_of_getElem? (i := 21) (by decide +kernel), List.mem_of_getElem? (i := 982) (by decide +kernel), List.mem_of_getElem? (i := 983) (by decide +kernel)⟩
theorem lw_p54 : lw_okq (⟨"FractionLift", "seekFairest", "(I)V"⟩, 18) := ⟨⟨by decide +kernel, by decide +kernel⟩, List.mem_of_getElem? (i := 21) (by decide +kernel), List.mem_of_getElem? (i := 1009) (by decide +kernel), List.mem_of_getElem? (i := 1010) (by decide +kernel)⟩
theorem lw_p55 : lw_okq (⟨"FractionLift", "fairUnit", "(I)J"⟩, 18) := ⟨⟨by decide +kernel, by decide +kernel⟩, List.mem_of_getElem? (i := 21) (by decide +kernel), List.mem_of_getElem? (i := 1013) (by decide +kernel), List.mem_of_getElem? (i := 1014) (by decide +kernel)⟩
theorem lw_p56 : lw_okq (⟨"FractionLift", "farFromOthers", "(IJJ)J"⟩, 18) := ⟨⟨by decide +kernel, by decide +kernel⟩, List.mem_of_getElem? (i := 21) (by decide +kernel), List.mem_of_getElem? (i := 1019) (by decide +kernel), List.mem_of_getElem? (i := 1020) (by decide +kernel)⟩
theorem lw_p57 : lw_okq (⟨"FractionLift", "refusedSeen", "(I)I"⟩, 18) := ⟨⟨by decide +kernel, by decide +kernel⟩, List.mem_of_getElem? (i := 21) (by decide +kernel), List.mem_of_getElem? (i := 1032) (by decide +kernel), List.mem_of_getElem? (i := 1033) (by decide +kernel)⟩
theorem lw_p58 : lw_okq (⟨"FractionLift", "fewRows", "(I)Z"⟩, 18) := ⟨⟨by decide +kernel, by decide +kernel⟩, List.mem_of_getElem? (i := 21) (by decide +kernel), List.mem_of_getElem? (i := 1036) (by decide +kernel), List.mem_of_getElem? (i := 1037) (by decide +kernel)⟩
theorem lw_p59 : lw_okq (⟨"FractionLift", "watcherHere", "()LFractionLift$Watcher;"⟩, 18) := ⟨⟨by decide +kernel, by decide +kernel⟩, List.mem_of_getElem? (i := 21) (by decide +kernel), List.mem_of_getElem? (i := 1041) (by decide +kernel), List.mem_of_getElem? (i := 1042) (by decide +kernel)⟩
theorem lw_p60 : lw_okq (⟨"FractionLift$Watcher", "goOn", "(III)V"⟩, 8) := ⟨⟨by decide +kernel, by decide +kernel⟩, List.mem_of_getElem? (i := 1045) (by decide +kernel), List.mem_of_getElem? (i := 1083) (by decide +kernel), List.mem_of_getElem? (i := 1084) (by decide +kernel)⟩
theorem lw_p61 : lw_okq (⟨"FractionLift$Watcher", "takeRow", "(I)V"⟩, 8) := ⟨⟨by decide +kernel, by decide +kernel⟩, List.mem_of_getElem? (i := 1045) (by decide +kernel), List.mem_of_getElem? (i := 1087) (by decide +kernel), List.mem_of_getElem? (i := 1088) (by decide +kernel)⟩
theorem lw_p62 : lw_okq (⟨"FractionLift$Watcher", "isSeenAt", "(I)Z"⟩, 8) := ⟨⟨by decide +kernel, by decide +kernel⟩, List.mem_of_getElem? (i := 1045) (by decide +kernel), List.mem_of_getElem? (i := 1093) (by decide +kernel), List.mem_of_getElem? (i := 1094) (by decide +kernel)⟩
theorem lw_p63 : lw_okq (⟨"FractionLift", "hasButtonsAlone", "(LFractionLift$Tray;)Z"⟩, 18) := ⟨⟨by decide +kernel, by decide +kernel⟩, List.mem_of_getElem? (i := 21) (by decide +kernel), List.mem_of_getElem? (i := 1105) (by decide +kernel), List.mem_of_getElem? (i := 1106) (by decide +kernel)⟩
def lw_privs_4 : List (MethodName × Nat) := [(⟨"FractionLift", "layTerms", "(JJ)I"⟩, 18), (⟨"FractionLift", "seekAbove", "(I)Z"⟩, 18), (⟨"FractionLift", "seekBelow", "(I)Z"⟩, 18), (⟨"FractionLift", "seekSimplest", "(JJJJ)V"⟩, 18), (⟨"FractionLift", "countBelow", "(JJI)I"⟩, 18), (⟨"FractionLift", "layParts", "()I"⟩, 18), (⟨"FractionLift", "seekFairest", "(I)V"⟩, 18), (⟨"FractionLift", "fairUnit", "(I)J"⟩, 18), (⟨"FractionLift", "farFromOthers", "(IJJ)J"⟩, 18), (⟨"FractionLift", "refusedSeen", "(I)I"⟩, 18), (⟨"FractionLift", "fewRows", "(I)Z"⟩, 18), (⟨"FractionLift", "watcherHere", "()LFractionLift$Watcher;"⟩, 18), (⟨"FractionLift$Watcher", "goOn", "(III)V"⟩, 8), (⟨"FractionLift$Watcher", "takeRow", "(I)V"⟩, 8), (⟨"FractionLift$Watcher", "isSeenAt", "(I)Z"⟩, 8), (⟨"FractionLift", "hasButtonsAlone", "(LFractionLift$Tray;)Z"⟩, 18)]
theorem lw_r4 : ∀ q ∈ lw_privs_4, lw_okq q := List.forall_mem_cons.mpr ⟨lw_p48, List.forall_mem_cons.mpr ⟨lw_p49, List.forall_mem_cons.mpr ⟨lw_p50, List.forall_mem_cons.mpr ⟨lw_p51, List.forall_mem_cons.mpr ⟨lw_p52, List.forall_mem_cons.mpr ⟨lw_p53, List.forall_mem_cons.mpr ⟨lw_p54, List.forall_mem_cons.mpr ⟨lw_p55, List.forall_mem_cons.mpr ⟨lw_p56, List.forall_mem_cons.mpr ⟨lw_p57, List.forall_mem_cons.mpr ⟨lw_p58, List.forall_mem_cons.mpr ⟨lw_p59, List.forall_mem_cons.mpr ⟨lw_p60, List.forall_mem_cons.mpr ⟨lw_p61, List.forall_mem_cons.mpr ⟨lw_p62, List.forall_mem_cons.mpr ⟨lw_p63, fun _ h => absurd h List.not_mem_nil⟩⟩⟩⟩⟩⟩⟩⟩⟩⟩⟩⟩⟩⟩⟩⟩
theorem lw_p64 : lw_okq (⟨"FractionLift$Routes", "branch", "(III)V"⟩, 7) := ⟨⟨by decide +kernel, by decide +kernel⟩, List.mem_of_getElem? (i := 733) (by decide +kernel), List.mem_of_getElem? (i := 1114) (by decide +kernel), List.mem_of_getElem? (i := 1115) (by decide +kernel)⟩
theorem lw_p65 : lw_okq (⟨"FractionLift$Tray", "cut", "(J)J"⟩, 3) := ⟨⟨by decide +kernel, by decide +kernel⟩, List.mem_of_getElem? (i := 1136) (by decide +kernel), List.mem_of_getElem? (i := 1173) (by decide +kernel), List.mem_of_getElem? (i := 1174) (by decide +kernel)⟩
theorem lw_p66 : lw_okq (⟨"FractionLiftModel", "next", "()V"⟩, 55) := ⟨⟨by decide +kernel, by decide +kernel⟩, List.mem_of_getElem? (i := 1198) (by decide +kernel), List.mem_of_getElem? (i := 1385) (by decide +kernel), List.mem_of_getElem? (i := 1386) (by decide +kernel)⟩
theorem lw_p67 : lw_okq (⟨"FractionLiftModel", "see", "(I)I"⟩, 55) := ⟨⟨by decide +kernel, by decide +kernel⟩, List.mem_of_getElem? (i := 1198) (by decide +kernel), List.mem_of_getElem? (i := 1389) (by decide +kernel), List.mem_of_getElem? (i := 1390) (by decide +kernel)⟩
theorem lw_p68 : lw_okq (⟨"FractionLiftModel", "keyAt", "()I"⟩, 55) := ⟨⟨by decide +kernel, by decide +kernel⟩, List.mem_of_getElem? (i := 1198) (by decide +kernel), List.mem_of_getElem? (i := 1396) (by decide +kernel), List.mem_of_getElem? (i := 1397) (by decide +kernel)⟩
theorem lw_p69 : lw_okq (⟨"FractionLiftModel", "readLine", "()V"⟩, 55) := ⟨⟨by decide +kernel, by decide +kernel⟩, List.mem_of_getElem? (i := 1198) (by decide +kernel), List.mem_of_getElem? (i := 1407) (by decide +kernel), List.mem_of_getElem? (i := 1408) (by decide +kernel)⟩
theorem lw_p70 : lw_okq (⟨"FractionLiftModel", "is", "(I)Z"⟩, 55) := ⟨⟨by decide +kernel, by decide +kernel⟩, List.mem_of_getElem? (i := 1198) (by decide +kernel), List.mem_of_getElem? (i := 1411) (by decide +kernel), List.mem_of_getElem? (i := 1412) (by decide +kernel)⟩
theorem lw_p71 : lw_okq (⟨"FractionLiftModel", "takes", "(II)I"⟩, 55) := ⟨⟨by decide +kernel, by decide +kernel⟩, List.mem_of_getElem? (i := 1198) (by decide +kernel), List.mem_of_getElem? (i := 1415) (by decide +kernel), List.mem_of_getElem? (i := 1416) (by decide +kernel)⟩
theorem lw_p72 : lw_okq (⟨"FractionLiftModel", "fails", "(I)V"⟩, 55) := ⟨⟨by decide +kernel, by decide +kernel⟩, List.mem_of_getElem? (i := 1198) (by decide +kernel), List.mem_of_getElem? (i := 1419) (by decide +kernel), List.mem_of_getElem? (i := 1420) (by decide +kernel)⟩
theorem lw_p73 : lw_okq (⟨"FractionLiftModel", "readButton", "()V"⟩, 55) := ⟨⟨by decide +kernel, by decide +kernel⟩, List.mem_of_getElem? (i := 1198) (by decide +kernel), List.mem_of_getElem? (i := 1423) (by decide +kernel), List.mem_of_getElem? (i := 1424) (by decide +kernel)⟩
theorem lw_p74 : lw_okq (⟨"FractionLiftModel", "eats", "(I)Z"⟩, 55) := ⟨⟨by decide +kernel, by decide +kernel⟩, List.mem_of_getElem? (i := 1198) (by decide +kernel), List.mem_of_getElem? (i := 1427) (by decide +kernel), List.mem_of_getElem? (i := 1428) (by decide +kernel)⟩
theorem lw_p75 : lw_okq (⟨"FractionLiftModel", "readSum", "(I)V"⟩, 55) := ⟨⟨by decide +kernel, by decide +kernel⟩, List.mem_of_getElem? (i := 1198) (by decide +kernel), List.mem_of_getElem? (i := 1431) (by decide +kernel), List.mem_of_getElem? (i := 1432) (by decide +kernel)⟩
theorem lw_p76 : lw_okq (⟨"FractionLiftModel", "readTerm", "(I)V"⟩, 55) := ⟨⟨by decide +kernel, by decide +kernel⟩, List.mem_of_getElem? (i := 1198) (by decide +kernel), List.mem_of_getElem? (i := 1435) (by decide +kernel), List.mem_of_getElem? (i := 1436) (by decide +kernel)⟩
theorem lw_p77 : lw_okq (⟨"FractionLiftModel", "readAtom", "(I)V"⟩, 55) := ⟨⟨by decide +kernel, by decide +kernel⟩, List.mem_of_getElem? (i := 1198) (by decide +kernel), List.mem_of_getElem? (i := 1439) (by decide +kernel), List.mem_of_getElem? (i := 1440) (by decide +kernel)⟩
theorem lw_p78 : lw_okq (⟨"FractionLiftModel", "tellsCode", "(I)V"⟩, 55) := ⟨⟨by decide +kernel, by decide +kernel⟩, List.mem_of_getElem? (i := 1198) (by decide +kernel), List.mem_of_getElem? (i := 1443) (by decide +kernel), List.mem_of_getElem? (i := 1444) (by decide +kernel)⟩
theorem lw_p79 : lw_okq (⟨"FractionLiftModel", "readFloor", "()V"⟩, 55) := ⟨⟨by decide +kernel, by decide +kernel⟩, List.mem_of_getElem? (i := 1198) (by decide +kernel), List.mem_of_getElem? (i := 1447) (by decide +kernel), List.mem_of_getElem? (i := 1448) (by decide +kernel)⟩
def lw_privs_5 : List (MethodName × Nat) := [(⟨"FractionLift$Routes", "branch", "(III)V"⟩, 7), (⟨"FractionLift$Tray", "cut", "(J)J"⟩, 3), (⟨"FractionLiftModel", "next", "()V"⟩, 55), (⟨"FractionLiftModel", "see", "(I)I"⟩, 55), (⟨"FractionLiftModel", "keyAt", "()I"⟩, 55), (⟨"FractionLiftModel", "readLine", "()V"⟩, 55), (⟨"FractionLiftModel", "is", "(I)Z"⟩, 55), (⟨"FractionLiftModel", "takes", "(II)I"⟩, 55), (⟨"FractionLiftModel", "fails", "(I)V"⟩, 55), (⟨"FractionLiftModel", "readButton", "()V"⟩, 55), (⟨"FractionLiftModel", "eats", "(I)Z"⟩, 55), (⟨"FractionLiftModel", "readSum", "(I)V"⟩, 55), (⟨"FractionLiftModel", "readTerm", "(I)V"⟩, 55), (⟨"FractionLiftModel", "readAtom", "(I)V"⟩, 55), (⟨"FractionLiftModel", "tellsCode", "(I)V"⟩, 55), (⟨"FractionLiftModel", "readFloor", "()V"⟩, 55)]
theorem lw_r5 : ∀ q ∈ lw_privs_5, lw_okq q := List.forall_mem_cons.mpr ⟨lw_p64, List.forall_mem_cons.mpr ⟨lw_p65, List.forall_mem_cons.mpr ⟨lw_p66, List.forall_mem_cons.mpr ⟨lw_p67, List.forall_mem_cons.mpr ⟨lw_p68, List.forall_mem_cons.mpr ⟨lw_p69, List.forall_mem_cons.mpr ⟨lw_p70, List.forall_mem_cons.mpr ⟨lw_p71, List.forall_mem_cons.mpr ⟨lw_p72, List.forall_mem_cons.mpr ⟨lw_p73, List.forall_mem_cons.mpr ⟨lw_p74, List.forall_mem_cons.mpr ⟨lw_p75, List.forall_mem_cons.mpr ⟨lw_p76, List.forall_mem_cons.mpr ⟨lw_p77, List.forall_mem_cons.mpr ⟨lw_p78, List.forall_mem_cons.mpr ⟨lw_p79, fun _ h => absurd h List.not_mem_nil⟩⟩⟩⟩⟩⟩⟩⟩⟩⟩⟩⟩⟩⟩⟩⟩
theorem lw_p80 : lw_okq (⟨"FractionLiftModel", "takesFraction", "()V"⟩, 55) := ⟨⟨by decide +kernel, by decide +kernel⟩, List.mem_of_getElem? (i := 1198) (by decide +kernel), List.mem_of_getElem? (i := 1451) (by decide +kernel), List.mem_of_getElem? (i := 1452) (by decide +kernel)⟩
theorem lw_p81 : lw_okq (⟨"FractionLiftModel", "lays", "(JJ)V"⟩, 55) := ⟨⟨by decide +kernel, by decide +kernel⟩, List.mem_of_getElem? (i := 1198) (by decide +kernel), List.mem_of_getElem? (i := 1455) (by decide +kernel), List.mem_of_getElem? (i := 1456) (by decide +kernel)⟩
theorem lw_p82 : lw_okq (⟨"FractionLiftModel", "goesOn", "(IZ)V"⟩, 55) := ⟨⟨by decide +kernel, by decide +kernel⟩, List.mem_of_getElem? (i := 1198) (by decide +kernel), List.mem_of_getElem? (i := 1462) (by decide +kernel), List.mem_of_getElem? (i := 1463) (by decide +kernel)⟩
theorem lw_p83 : lw_okq (⟨"FractionLiftModel", "readTenant", "()V"⟩, 55) := ⟨⟨by decide +kernel, by decide +kernel⟩, List.mem_of_getElem? (i := 1198) (by decide +kernel), List.mem_of_getElem? (i := 1466) (by decide +kernel), List.mem_of_getElem? (i := 1467) (by decide +kernel)⟩
theorem lw_p84 : lw_okq (⟨"FractionLiftModel", "readAt", "(II)V"⟩, 55) := ⟨⟨by decide +kernel, by decide +kernel⟩, List.mem_of_getElem? (i := 1198) (by decide +kernel), List.mem_of_getElem? (i := 1470) (by decide +kernel), List.mem_of_getElem? (i := 1471) (by decide +kernel)⟩
theorem lw_p85 : lw_okq (⟨"FractionLiftModel", "isTold", "(J)Z"⟩, 55) := ⟨⟨by decide +kernel, by decide +kernel⟩, List.mem_of_getElem? (i := 1198) (by decide +kernel), List.mem_of_getElem? (i := 1486) (by decide +kernel), List.mem_of_getElem? (i := 1487) (by decide +kernel)⟩
theorem lw_p86 : lw_okq (⟨"FractionLiftModel", "placeOf", "(I)I"⟩, 55) := ⟨⟨by decide +kernel, by decide +kernel⟩, List.mem_of_getElem? (i := 1198) (by decide +kernel), List.mem_of_getElem? (i := 1490) (by decide +kernel), List.mem_of_getElem? (i := 1491) (by decide +kernel)⟩
theorem lw_p87 : lw_okq (⟨"FractionLiftModel", "isTenant", "(I)Z"⟩, 55) := ⟨⟨by decide +kernel, by decide +kernel⟩, List.mem_of_getElem? (i := 1198) (by decide +kernel), List.mem_of_getElem? (i := 1501) (by decide +kernel), List.mem_of_getElem? (i := 1502) (by decide +kernel)⟩
theorem lw_p88 : lw_okq (⟨"FractionLiftModel", "leadsNow", "(I)I"⟩, 55) := ⟨⟨by decide +kernel, by decide +kernel⟩, List.mem_of_getElem? (i := 1198) (by decide +kernel), List.mem_of_getElem? (i := 1509) (by decide +kernel), List.mem_of_getElem? (i := 1510) (by decide +kernel)⟩
theorem lw_p89 : lw_okq (⟨"FractionLiftModel", "leadsFrom", "(IJJ)I"⟩, 55) := ⟨⟨by decide +kernel, by decide +kernel⟩, List.mem_of_getElem? (i := 1198) (by decide +kernel), List.mem_of_getElem? (i := 1513) (by decide +kernel), List.mem_of_getElem? (i := 1514) (by decide +kernel)⟩
theorem lw_p90 : lw_okq (⟨"FractionLiftModel", "pushes", "(JJ)I"⟩, 55) := ⟨⟨by decide +kernel, by decide +kernel⟩, List.mem_of_getElem? (i := 1198) (by decide +kernel), List.mem_of_getElem? (i := 1517) (by decide +kernel), List.mem_of_getElem? (i := 1518) (by decide +kernel)⟩
theorem lw_p91 : lw_okq (⟨"FractionLiftModel", "steps", "(I)I"⟩, 55) := ⟨⟨by decide +kernel, by decide +kernel⟩, List.mem_of_getElem? (i := 1198) (by decide +kernel), List.mem_of_getElem? (i := 1522) (by decide +kernel), List.mem_of_getElem? (i := 1523) (by decide +kernel)⟩
theorem lw_p92 : lw_okq (⟨"FractionLiftModel", "isFloor", "(JJ)Z"⟩, 55) := ⟨⟨by decide +kernel, by decide +kernel⟩, List.mem_of_getElem? (i := 1198) (by decide +kernel), List.mem_of_getElem? (i := 1526) (by decide +kernel), List.mem_of_getElem? (i := 1527) (by decide +kernel)⟩
theorem lw_p93 : lw_okq (⟨"FractionLiftModel", "asks", "(JJ)Z"⟩, 55) := ⟨⟨by decide +kernel, by decide +kernel⟩, List.mem_of_getElem? (i := 1198) (by decide +kernel), List.mem_of_getElem? (i := 1535) (by decide +kernel), List.mem_of_getElem? (i := 1536) (by decide +kernel)⟩
theorem lw_p94 : lw_okq (⟨"FractionLiftModel", "presses", "(I)I"⟩, 55) := ⟨⟨by decide +kernel, by decide +kernel⟩, List.mem_of_getElem? (i := 1198) (by decide +kernel), List.mem_of_getElem? (i := 1543) (by decide +kernel), List.mem_of_getElem? (i := 1544) (by decide +kernel)⟩
theorem lw_p95 : lw_okq (⟨"FractionLiftModel", "noRow", "(II)I"⟩, 55) := ⟨⟨by decide +kernel, by decide +kernel⟩, List.mem_of_getElem? (i := 1198) (by decide +kernel), List.mem_of_getElem? (i := 1557) (by decide +kernel), List.mem_of_getElem? (i := 1558) (by decide +kernel)⟩
def lw_privs_6 : List (MethodName × Nat) := [(⟨"FractionLiftModel", "takesFraction", "()V"⟩, 55), (⟨"FractionLiftModel", "lays", "(JJ)V"⟩, 55), (⟨"FractionLiftModel", "goesOn", "(IZ)V"⟩, 55), (⟨"FractionLiftModel", "readTenant", "()V"⟩, 55), (⟨"FractionLiftModel", "readAt", "(II)V"⟩, 55), (⟨"FractionLiftModel", "isTold", "(J)Z"⟩, 55), (⟨"FractionLiftModel", "placeOf", "(I)I"⟩, 55), (⟨"FractionLiftModel", "isTenant", "(I)Z"⟩, 55), (⟨"FractionLiftModel", "leadsNow", "(I)I"⟩, 55), (⟨"FractionLiftModel", "leadsFrom", "(IJJ)I"⟩, 55), (⟨"FractionLiftModel", "pushes", "(JJ)I"⟩, 55), (⟨"FractionLiftModel", "steps", "(I)I"⟩, 55), (⟨"FractionLiftModel", "isFloor", "(JJ)Z"⟩, 55), (⟨"FractionLiftModel", "asks", "(JJ)Z"⟩, 55), (⟨"FractionLiftModel", "presses", "(I)I"⟩, 55), (⟨"FractionLiftModel", "noRow", "(II)I"⟩, 55)]
theorem lw_r6 : ∀ q ∈ lw_privs_6, lw_okq q := List.forall_mem_cons.mpr ⟨lw_p80, List.forall_mem_cons.mpr ⟨lw_p81, List.forall_mem_cons.mpr ⟨lw_p82, List.forall_mem_cons.mpr ⟨lw_p83, List.forall_mem_cons.mpr ⟨lw_p84, List.forall_mem_cons.mpr ⟨lw_p85, List.forall_mem_cons.mpr ⟨lw_p86, List.forall_mem_cons.mpr ⟨lw_p87, List.forall_mem_cons.mpr ⟨lw_p88, List.forall_mem_cons.mpr ⟨lw_p89, List.forall_mem_cons.mpr ⟨lw_p90, List.forall_mem_cons.mpr ⟨lw_p91, List.forall_mem_cons.mpr ⟨lw_p92, List.forall_mem_cons.mpr ⟨lw_p93, List.forall_mem_cons.mpr ⟨lw_p94, List.forall_mem_cons.mpr ⟨lw_p95, fun _ h => absurd h List.not_mem_nil⟩⟩⟩⟩⟩⟩⟩⟩⟩⟩⟩⟩⟩⟩⟩⟩
theorem lw_p96 : lw_okq (⟨"FractionLiftModel", "told", "(II)I"⟩, 55) := ⟨⟨by decide +kernel, by decide +kernel⟩, List.mem_of_getElem? (i := 1198) (by decide +kernel), List.mem_of_getElem? (i := 1563) (by decide +kernel), List.mem_of_getElem? (i := 1564) (by decide +kernel)⟩
theorem lw_p97 : lw_okq (⟨"FractionLiftModel", "draw", "(I)I"⟩, 55) := ⟨⟨by decide +kernel, by decide +kernel⟩, List.mem_of_getElem? (i := 1198) (by decide +kernel), List.mem_of_getElem? (i := 1576) (by decide +kernel), List.mem_of_getElem? (i := 1577) (by decide +kernel)⟩
theorem lw_p98 : lw_okq (⟨"FractionLiftModel", "laysStuff", "(IIJJ)V"⟩, 55) := ⟨⟨by decide +kernel, by decide +kernel⟩, List.mem_of_getElem? (i := 1198) (by decide +kernel), List.mem_of_getElem? (i := 1590) (by decide +kernel), List.mem_of_getElem? (i := 1591) (by decide +kernel)⟩
theorem lw_p99 : lw_okq (⟨"FractionLiftModel", "laysOrder", "()V"⟩, 55) := ⟨⟨by decide +kernel, by decide +kernel⟩, List.mem_of_getElem? (i := 1198) (by decide +kernel), List.mem_of_getElem? (i := 1594) (by decide +kernel), List.mem_of_getElem? (i := 1595) (by decide +kernel)⟩
theorem lw_p100 : lw_okq (⟨"FractionLiftModel", "stuffOf", "(II)I"⟩, 55) := ⟨⟨by decide +kernel, by decide +kernel⟩, List.mem_of_getElem? (i := 1198) (by decide +kernel), List.mem_of_getElem? (i := 1598) (by decide +kernel), List.mem_of_getElem? (i := 1599) (by decide +kernel)⟩
theorem lw_p101 : lw_okq (⟨"FractionLiftModel", "laysWhere", "(III)Z"⟩, 55) := ⟨⟨by decide +kernel, by decide +kernel⟩, List.mem_of_getElem? (i := 1198) (by decide +kernel), List.mem_of_getElem? (i := 1607) (by decide +kernel), List.mem_of_getElem? (i := 1608) (by decide +kernel)⟩
theorem lw_p102 : lw_okq (⟨"FractionLiftModel", "seeks", "(JJ)I"⟩, 55) := ⟨⟨by decide +kernel, by decide +kernel⟩, List.mem_of_getElem? (i := 1198) (by decide +kernel), List.mem_of_getElem? (i := 1630) (by decide +kernel), List.mem_of_getElem? (i := 1631) (by decide +kernel)⟩
theorem lw_p103 : lw_okq (⟨"FractionLiftModel", "forgets", "()V"⟩, 55) := ⟨⟨by decide +kernel, by decide +kernel⟩, List.mem_of_getElem? (i := 1198) (by decide +kernel), List.mem_of_getElem? (i := 1634) (by decide +kernel), List.mem_of_getElem? (i := 1635) (by decide +kernel)⟩
theorem lw_p104 : lw_okq (⟨"FractionLiftModel", "meets", "(JJII)V"⟩, 55) := ⟨⟨by decide +kernel, by decide +kernel⟩, List.mem_of_getElem? (i := 1198) (by decide +kernel), List.mem_of_getElem? (i := 1638) (by decide +kernel), List.mem_of_getElem? (i := 1639) (by decide +kernel)⟩
theorem lw_p105 : lw_okq (⟨"FractionLiftModel", "metAt", "(JJ)I"⟩, 55) := ⟨⟨by decide +kernel, by decide +kernel⟩, List.mem_of_getElem? (i := 1198) (by decide +kernel), List.mem_of_getElem? (i := 1648) (by decide +kernel), List.mem_of_getElem? (i := 1649) (by decide +kernel)⟩
theorem lw_p106 : lw_okq (⟨"FractionLiftModel", "laysReach", "(I)V"⟩, 55) := ⟨⟨by decide +kernel, by decide +kernel⟩, List.mem_of_getElem? (i := 1198) (by decide +kernel), List.mem_of_getElem? (i := 1657) (by decide +kernel), List.mem_of_getElem? (i := 1658) (by decide +kernel)⟩
theorem lw_p107 : lw_okq (⟨"FractionLiftModel", "begins", "(II)V"⟩, 55) := ⟨⟨by decide +kernel, by decide +kernel⟩, List.mem_of_getElem? (i := 1198) (by decide +kernel), List.mem_of_getElem? (i := 1661) (by decide +kernel), List.mem_of_getElem? (i := 1662) (by decide +kernel)⟩
theorem lw_p108 : lw_okq (⟨"FractionLiftModel", "goes", "(Z)V"⟩, 55) := ⟨⟨by decide +kernel, by decide +kernel⟩, List.mem_of_getElem? (i := 1198) (by decide +kernel), List.mem_of_getElem? (i := 1665) (by decide +kernel), List.mem_of_getElem? (i := 1666) (by decide +kernel)⟩
theorem lw_p109 : lw_okq (⟨"FractionLiftModel", "becomesMet", "()V"⟩, 55) := ⟨⟨by decide +kernel, by decide +kernel⟩, List.mem_of_getElem? (i := 1198) (by decide +kernel), List.mem_of_getElem? (i := 1669) (by decide +kernel), List.mem_of_getElem? (i := 1670) (by decide +kernel)⟩
theorem lw_p110 : lw_okq (⟨"FractionLiftModel", "laysTwins", "()I"⟩, 55) := ⟨⟨by decide +kernel, by decide +kernel⟩, List.mem_of_getElem? (i := 1198) (by decide +kernel), List.mem_of_getElem? (i := 1684) (by decide +kernel), List.mem_of_getElem? (i := 1685) (by decide +kernel)⟩
theorem lw_p111 : lw_okq (⟨"FractionLiftModel", "rowsOf", "(I)I"⟩, 55) := ⟨⟨by decide +kernel, by decide +kernel⟩, List.mem_of_getElem? (i := 1198) (by decide +kernel), List.mem_of_getElem? (i := 1688) (by decide +kernel), List.mem_of_getElem? (i := 1689) (by decide +kernel)⟩
def lw_privs_7 : List (MethodName × Nat) := [(⟨"FractionLiftModel", "told", "(II)I"⟩, 55), (⟨"FractionLiftModel", "draw", "(I)I"⟩, 55), (⟨"FractionLiftModel", "laysStuff", "(IIJJ)V"⟩, 55), (⟨"FractionLiftModel", "laysOrder", "()V"⟩, 55), (⟨"FractionLiftModel", "stuffOf", "(II)I"⟩, 55), (⟨"FractionLiftModel", "laysWhere", "(III)Z"⟩, 55), (⟨"FractionLiftModel", "seeks", "(JJ)I"⟩, 55), (⟨"FractionLiftModel", "forgets", "()V"⟩, 55), (⟨"FractionLiftModel", "meets", "(JJII)V"⟩, 55), (⟨"FractionLiftModel", "metAt", "(JJ)I"⟩, 55), (⟨"FractionLiftModel", "laysReach", "(I)V"⟩, 55), (⟨"FractionLiftModel", "begins", "(II)V"⟩, 55), (⟨"FractionLiftModel", "goes", "(Z)V"⟩, 55), (⟨"FractionLiftModel", "becomesMet", "()V"⟩, 55), (⟨"FractionLiftModel", "laysTwins", "()I"⟩, 55), (⟨"FractionLiftModel", "rowsOf", "(I)I"⟩, 55)]
theorem lw_r7 : ∀ q ∈ lw_privs_7, lw_okq q := List.forall_mem_cons.mpr ⟨lw_p96, List.forall_mem_cons.mpr ⟨lw_p97, List.forall_mem_cons.mpr ⟨lw_p98, List.forall_mem_cons.mpr ⟨lw_p99, List.forall_mem_cons.mpr ⟨lw_p100, List.forall_mem_cons.mpr ⟨lw_p101, List.forall_mem_cons.mpr ⟨lw_p102, List.forall_mem_cons.mpr ⟨lw_p103, List.forall_mem_cons.mpr ⟨lw_p104, List.forall_mem_cons.mpr ⟨lw_p105, List.forall_mem_cons.mpr ⟨lw_p106, List.forall_mem_cons.mpr ⟨lw_p107, List.forall_mem_cons.mpr ⟨lw_p108, List.forall_mem_cons.mpr ⟨lw_p109, List.forall_mem_cons.mpr ⟨lw_p110, List.forall_mem_cons.mpr ⟨lw_p111, fun _ h => absurd h List.not_mem_nil⟩⟩⟩⟩⟩⟩⟩⟩⟩⟩⟩⟩⟩⟩⟩⟩
theorem lw_p112 : lw_okq (⟨"FractionLiftModel", "leadsRow", "(II)Z"⟩, 55) := ⟨⟨by decide +kernel, by decide +kernel⟩, List.mem_of_getElem? (i := 1198) (by decide +kernel), List.mem_of_getElem? (i := 1692) (by decide +kernel), List.mem_of_getElem? (i := 1693) (by decide +kernel)⟩
theorem lw_p113 : lw_okq (⟨"FractionLiftModel", "digit", "(III)I"⟩, 55) := ⟨⟨by decide +kernel, by decide +kernel⟩, List.mem_of_getElem? (i := 1198) (by decide +kernel), List.mem_of_getElem? (i := 1696) (by decide +kernel), List.mem_of_getElem? (i := 1697) (by decide +kernel)⟩
theorem lw_p114 : lw_okq (⟨"FractionLiftModel", "isNever", "(IJJ)Z"⟩, 55) := ⟨⟨by decide +kernel, by decide +kernel⟩, List.mem_of_getElem? (i := 1198) (by decide +kernel), List.mem_of_getElem? (i := 1705) (by decide +kernel), List.mem_of_getElem? (i := 1706) (by decide +kernel)⟩
theorem lw_p115 : lw_okq (⟨"FractionLiftModel", "restsOf", "(I)I"⟩, 55) := ⟨⟨by decide +kernel, by decide +kernel⟩, List.mem_of_getElem? (i := 1198) (by decide +kernel), List.mem_of_getElem? (i := 1715) (by decide +kernel), List.mem_of_getElem? (i := 1716) (by decide +kernel)⟩
theorem lw_p116 : lw_okq (⟨"FractionLiftModel", "leadsRest", "(III)I"⟩, 55) := ⟨⟨by decide +kernel, by decide +kernel⟩, List.mem_of_getElem? (i := 1198) (by decide +kernel), List.mem_of_getElem? (i := 1719) (by decide +kernel), List.mem_of_getElem? (i := 1720) (by decide +kernel)⟩
theorem lw_p117 : lw_okq (⟨"FractionLiftModel", "laysMeet", "(IIIZ)Z"⟩, 55) := ⟨⟨by decide +kernel, by decide +kernel⟩, List.mem_of_getElem? (i := 1198) (by decide +kernel), List.mem_of_getElem? (i := 1735) (by decide +kernel), List.mem_of_getElem? (i := 1736) (by decide +kernel)⟩
theorem lw_p118 : lw_okq (⟨"FractionLiftModel", "laysAddress", "(JJ)I"⟩, 55) := ⟨⟨by decide +kernel, by decide +kernel⟩, List.mem_of_getElem? (i := 1198) (by decide +kernel), List.mem_of_getElem? (i := 1743) (by decide +kernel), List.mem_of_getElem? (i := 1744) (by decide +kernel)⟩
theorem lw_p119 : lw_okq (⟨"FractionLiftModel", "below", "(JJI)I"⟩, 55) := ⟨⟨by decide +kernel, by decide +kernel⟩, List.mem_of_getElem? (i := 1198) (by decide +kernel), List.mem_of_getElem? (i := 1761) (by decide +kernel), List.mem_of_getElem? (i := 1762) (by decide +kernel)⟩
theorem lw_p120 : lw_okq (⟨"FractionLiftModel", "laysParts", "(JJ)I"⟩, 55) := ⟨⟨by decide +kernel, by decide +kernel⟩, List.mem_of_getElem? (i := 1198) (by decide +kernel), List.mem_of_getElem? (i := 1773) (by decide +kernel), List.mem_of_getElem? (i := 1774) (by decide +kernel)⟩
theorem lw_p121 : lw_okq (⟨"FractionLiftModel", "laysRent", "(I)V"⟩, 55) := ⟨⟨by decide +kernel, by decide +kernel⟩, List.mem_of_getElem? (i := 1198) (by decide +kernel), List.mem_of_getElem? (i := 1781) (by decide +kernel), List.mem_of_getElem? (i := 1782) (by decide +kernel)⟩
theorem lw_p122 : lw_okq (⟨"FractionLiftModel", "farOf", "(IJJJ)J"⟩, 55) := ⟨⟨by decide +kernel, by decide +kernel⟩, List.mem_of_getElem? (i := 1198) (by decide +kernel), List.mem_of_getElem? (i := 1798) (by decide +kernel), List.mem_of_getElem? (i := 1799) (by decide +kernel)⟩
theorem lw_p123 : lw_okq (⟨"FractionLiftModel", "laysFits", "(IIZ)I"⟩, 55) := ⟨⟨by decide +kernel, by decide +kernel⟩, List.mem_of_getElem? (i := 1198) (by decide +kernel), List.mem_of_getElem? (i := 1810) (by decide +kernel), List.mem_of_getElem? (i := 1811) (by decide +kernel)⟩
theorem lw_p124 : lw_okq (⟨"FractionLiftModel", "goesFit", "(IIJJ)V"⟩, 55) := ⟨⟨by decide +kernel, by decide +kernel⟩, List.mem_of_getElem? (i := 1198) (by decide +kernel), List.mem_of_getElem? (i := 1815) (by decide +kernel), List.mem_of_getElem? (i := 1816) (by decide +kernel)⟩
theorem lw_p125 : lw_okq (⟨"FractionLiftModel", "noOdds", "(IZ)I"⟩, 55) := ⟨⟨by decide +kernel, by decide +kernel⟩, List.mem_of_getElem? (i := 1198) (by decide +kernel), List.mem_of_getElem? (i := 1827) (by decide +kernel), List.mem_of_getElem? (i := 1828) (by decide +kernel)⟩
theorem lw_p126 : lw_okq (⟨"FractionLiftModel", "goesOdds", "(IIJJJ)V"⟩, 55) := ⟨⟨by decide +kernel, by decide +kernel⟩, List.mem_of_getElem? (i := 1198) (by decide +kernel), List.mem_of_getElem? (i := 1831) (by decide +kernel), List.mem_of_getElem? (i := 1832) (by decide +kernel)⟩
theorem lw_p127 : lw_okq (⟨"FractionLiftModel", "comes", "(JJJ)V"⟩, 55) := ⟨⟨by decide +kernel, by decide +kernel⟩, List.mem_of_getElem? (i := 1198) (by decide +kernel), List.mem_of_getElem? (i := 1835) (by decide +kernel), List.mem_of_getElem? (i := 1836) (by decide +kernel)⟩
def lw_privs_8 : List (MethodName × Nat) := [(⟨"FractionLiftModel", "leadsRow", "(II)Z"⟩, 55), (⟨"FractionLiftModel", "digit", "(III)I"⟩, 55), (⟨"FractionLiftModel", "isNever", "(IJJ)Z"⟩, 55), (⟨"FractionLiftModel", "restsOf", "(I)I"⟩, 55), (⟨"FractionLiftModel", "leadsRest", "(III)I"⟩, 55), (⟨"FractionLiftModel", "laysMeet", "(IIIZ)Z"⟩, 55), (⟨"FractionLiftModel", "laysAddress", "(JJ)I"⟩, 55), (⟨"FractionLiftModel", "below", "(JJI)I"⟩, 55), (⟨"FractionLiftModel", "laysParts", "(JJ)I"⟩, 55), (⟨"FractionLiftModel", "laysRent", "(I)V"⟩, 55), (⟨"FractionLiftModel", "farOf", "(IJJJ)J"⟩, 55), (⟨"FractionLiftModel", "laysFits", "(IIZ)I"⟩, 55), (⟨"FractionLiftModel", "goesFit", "(IIJJ)V"⟩, 55), (⟨"FractionLiftModel", "noOdds", "(IZ)I"⟩, 55), (⟨"FractionLiftModel", "goesOdds", "(IIJJJ)V"⟩, 55), (⟨"FractionLiftModel", "comes", "(JJJ)V"⟩, 55)]
theorem lw_r8 : ∀ q ∈ lw_privs_8, lw_okq q := List.forall_mem_cons.mpr ⟨lw_p112, List.forall_mem_cons.mpr ⟨lw_p113, List.forall_mem_cons.mpr ⟨lw_p114, List.forall_mem_cons.mpr ⟨lw_p115, List.forall_mem_cons.mpr ⟨lw_p116, List.forall_mem_cons.mpr ⟨lw_p117, List.forall_mem_cons.mpr ⟨lw_p118, List.forall_mem_cons.mpr ⟨lw_p119, List.forall_mem_cons.mpr ⟨lw_p120, List.forall_mem_cons.mpr ⟨lw_p121, List.forall_mem_cons.mpr ⟨lw_p122, List.forall_mem_cons.mpr ⟨lw_p123, List.forall_mem_cons.mpr ⟨lw_p124, List.forall_mem_cons.mpr ⟨lw_p125, List.forall_mem_cons.mpr ⟨lw_p126, List.forall_mem_cons.mpr ⟨lw_p127, fun _ h => absurd h List.not_mem_nil⟩⟩⟩⟩⟩⟩⟩⟩⟩⟩⟩⟩⟩⟩⟩⟩
def lw_privs : List (MethodName × Nat) := lw_privs_1 ++ (lw_privs_2 ++ (lw_privs_3 ++ (lw_privs_4 ++ (lw_privs_5 ++ (lw_privs_6 ++ (lw_privs_7 ++ (lw_privs_8)))))))
def lw_tbl : List Cond := k2_sels lw_privs ++ tables_1
theorem lw_privs_ok : ∀ q ∈ lw_privs, lw_okq q := by
  show ∀ q ∈ lw_privs_1 ++ (lw_privs_2 ++ (lw_privs_3 ++ (lw_privs_4 ++ (lw_privs_5 ++ (lw_privs_6 ++ (lw_privs_7 ++ (lw_privs_8))))))), lw_okq q
  exact List.forall_mem_append.mpr ⟨lw_r1, List.forall_mem_append.mpr ⟨lw_r2, List.forall_mem_append.mpr ⟨lw_r3, List.forall_mem_append.mpr ⟨lw_r4, List.forall_mem_append.mpr ⟨lw_r5, List.forall_mem_append.mpr ⟨lw_r6, List.forall_mem_append.mpr ⟨lw_r7, lw_r8⟩⟩⟩⟩⟩⟩⟩

/-! THE CLAIM OUT OF ONE WALK OF THE LAW'S BODY. Your part is whole_start (and what it stands on); all else here is the same for every law, but numbers. -/
def R_law : String := "FractionLiftLaw"
def lw_P (b : Addr) (xs : List Int32) (args : Array Value) (s : State) : Prop := args = #[.ref b] ∧ s.IntsAt b xs ∧ xs.length ≤ 3072 ∧ (Jvm.Cond.and given_1 narrow_1).before args s = true
def lw_Q (_ : Array Value) (s : State) (o : Outcome) (t : State) : Prop := o = .returned (some (.int 1)) ∧ Framed s o t [] 600000 7302250
def lw_Z (below : List Frame) (a : Array Value) (s : State) : State → Prop := fun t => ∃ o, t.status = .running ∧ Ended t below o ∧ lw_Q a s o t
/-- the law's own end, with 1 on the stack, nothing written that was there before, its room as the claim has it -/
theorem lw_ret {p : Program} {l : Launch} {e : Env} {s : State} {m : MethodId} {below : List Frame} {meth : Method} {c : Code} {b : Nat} (hx : p.tables.exec = Jvm.exec) (hb : c.code = code) (hr : meth.sig.returnType = ret) (hlocks : meth.locks = false) {pc : Nat} {H : Heap} {ls : Array Slot} (hdg : decode code pc = .ok (.ireturn, 1)) : W p l e room_1 s m #[Value.ref b] below meth c H [] 600000 7302250 (lw_Z below #[Value.ref b] s) (F0 m pc ls [.int 1]) := by
  intro T hT X
  obtain ⟨fs, hret, hrun, hended, hW, hframe⟩ := X.leave (v := some (.int 1)) (hlocks := hlocks) (fun h => by rw [hr] at h; cases h)
  have hmeth' : T.vm.method? m = some meth := X.method'
  refine ⟨T.setFrames fs, ?_, .returned (some (.int 1)), hrun, hended, rfl, ⟨_, rfl⟩, hW, hframe⟩
  jvm_step X.here [X.here.top, hx, hb, hdg, hmeth', hr, ret, narrow_b1]
  (try refine ⟨rfl, ?_⟩); (try refine ⟨rfl, ?_⟩)
  first | (intro acts; rw [hret _ acts rfl rfl rfl]) | rw [hret _ _ rfl rfl rfl]
  exact Steps.refl _
/-- what holds at the law's entry: the machine, the code, the tables' words (any of lw_tbl by 'hts w (by decide +kernel)'), the script of L ints xs at the cell b, what the Statement gives of the start (any of its parts by flat_of_before) -/
def lw_At (p : Program) (s : State) (m : MethodId) (meth : Method) (c : Code) (b L : Nat) (xs : Nat → Int32) : Prop :=
  p.tables.exec = Jvm.exec ∧ c.code = code ∧ meth.sig.returnType = ret ∧ c.maxLocals = 4 ∧ s.vm.findClass R_law = some m.cls ∧ (∀ w ∈ lw_tbl, w.before #[Value.ref b] s = true) ∧ va_X b L xs s s.heap ∧ b < s.heap.size ∧ meth.locks = false ∧ (Jvm.Cond.and given_1 narrow_1).before #[Value.ref b] s = true

def RX0 : String := "FractionLift$House"
def TX0 : u_T := fun k => match k with
  | 0 => ("FractionLift$House", "top", "I", false)
  | 1 => ("FractionLift$House", "stick", "I", false)
  | 2 => ("FractionLift$House", "lines", "I", false)
  | 3 => ("FractionLift$House", "pressed", "I", false)
  | 4 => ("FractionLift$House", "atUp", "I", false)
  | 5 => ("FractionLift$House", "atLow", "I", false)
  | 6 => ("FractionLift$House", "buttonCount", "I", false)
  | 7 => ("FractionLift$House", "starts", "[I", true)
  | 8 => ("FractionLift$House", "code", "[I", true)
  | 9 => ("FractionLift$House", "floorCount", "I", false)
  | 10 => ("FractionLift$House", "floorUp", "[I", true)
  | 11 => ("FractionLift$House", "floorLow", "[I", true)
  | 12 => ("FractionLift$House", "stuffs", "[I", true)
  | 13 => ("FractionLift$House", "newStuffs", "[I", true)
  | 14 => ("FractionLift$House", "order", "[I", true)
  | 15 => ("FractionLift$House", "tenantCount", "I", false)
  | 16 => ("FractionLift$House", "tenantUp", "[I", true)
  | _ => ("FractionLift$House", "tenantLow", "[I", true)
def tyX0 : Nat → FieldType := fun k => match k with
  | 0 => .int
  | 1 => .int
  | 2 => .int
  | 3 => .int
  | 4 => .int
  | 5 => .int
  | 6 => .int
  | 7 => .array .int
  | 8 => .array .int
  | 9 => .int
  | 10 => .array .int
  | 11 => .array .int
  | 12 => .array .int
  | 13 => .array .int
  | 14 => .array .int
  | 15 => .int
  | 16 => .array .int
  | _ => .array .int
abbrev wsX00 : List Cond := u_ws RX0 TX0 18
theorem nmX0 : ∀ a, a < 18 → ∀ b, b < 18 → a ≠ b → (TX0 a).2.1 ≠ (TX0 b).2.1 := by decide +kernel
theorem tyX0_ok : ∀ k, k < 18 → parseFieldDescriptor (TX0 k).2.2.1 = some (tyX0 k) := by decide +kernel
abbrev cX0_init : ByteArray := prog_2_method_1_code
def yX0_init : MethodName := ⟨RX0, "<init>", "()V"⟩
abbrev cX0_untell : ByteArray := prog_2_method_2_code
def yX0_untell : MethodName := ⟨RX0, "untell", "()V"⟩
abbrev cX0_takeFrom : ByteArray := prog_2_method_3_code
def yX0_takeFrom : MethodName := ⟨RX0, "takeFrom", "(LFractionLift$House;)V"⟩
abbrev cX0_isFloor : ByteArray := prog_2_method_4_code
def yX0_isFloor : MethodName := ⟨RX0, "isFloor", "(JJ)Z"⟩
abbrev cX0_stuffOf : ByteArray := prog_2_method_5_code
def yX0_stuffOf : MethodName := ⟨RX0, "stuffOf", "(II)I"⟩
abbrev cX0_floorAt : ByteArray := prog_2_method_6_code
def yX0_floorAt : MethodName := ⟨RX0, "floorAt", "(JJ)I"⟩
abbrev cX0_placeFromBelow : ByteArray := prog_2_method_7_code
def yX0_placeFromBelow : MethodName := ⟨RX0, "placeFromBelow", "(I)I"⟩
abbrev cX0_toldBelow : ByteArray := prog_2_method_8_code
def yX0_toldBelow : MethodName := ⟨RX0, "toldBelow", "(JJ)I"⟩
abbrev cX0_addFloor : ByteArray := prog_2_method_9_code
def yX0_addFloor : MethodName := ⟨RX0, "addFloor", "(II)V"⟩
abbrev cX0_addTenant : ByteArray := prog_2_method_10_code
def yX0_addTenant : MethodName := ⟨RX0, "addTenant", "(II)V"⟩
abbrev cX0_stuffAt : ByteArray := prog_2_method_11_code
def yX0_stuffAt : MethodName := ⟨RX0, "stuffAt", "(IJJLFractionLift$Ratio;)V"⟩
abbrev cX0_widthBetween : ByteArray := prog_2_method_12_code
def yX0_widthBetween : MethodName := ⟨RX0, "widthBetween", "(II)J"⟩
abbrev cX0_leastLevel : ByteArray := prog_2_method_13_code
def yX0_leastLevel : MethodName := ⟨RX0, "leastLevel", "(IIILFractionLift$Ratio;)Z"⟩
abbrev cX0_overAt : ByteArray := prog_2_method_14_code
def yX0_overAt : MethodName := ⟨RX0, "overAt", "(IIII)I"⟩
abbrev cX0_putCrossing : ByteArray := prog_2_method_15_code
def yX0_putCrossing : MethodName := ⟨RX0, "putCrossing", "(IIIILFractionLift$Ratio;)V"⟩
abbrev cX0_rentOf : ByteArray := prog_2_method_16_code
def yX0_rentOf : MethodName := ⟨RX0, "rentOf", "(ILFractionLift$Ratio;)V"⟩
def RX1 : String := "FractionLift$Landings"
def TX1 : u_T := fun k => match k with
  | 0 => ("FractionLift$Landings", "up", "[I", true)
  | 1 => ("FractionLift$Landings", "low", "[I", true)
  | 2 => ("FractionLift$Landings", "came", "[I", true)
  | 3 => ("FractionLift$Landings", "weight", "[J", true)
  | 4 => ("FractionLift$Landings", "size", "I", false)
  | 5 => ("FractionLift$Landings", "heads", "[I", true)
  | _ => ("FractionLift$Landings", "nexts", "[I", true)
def tyX1 : Nat → FieldType := fun k => match k with
  | 0 => .array .int
  | 1 => .array .int
  | 2 => .array .int
  | 3 => .array .long
  | 4 => .int
  | 5 => .array .int
  | _ => .array .int
abbrev wsX10 : List Cond := u_ws RX1 TX1 7
theorem nmX1 : ∀ a, a < 7 → ∀ b, b < 7 → a ≠ b → (TX1 a).2.1 ≠ (TX1 b).2.1 := by decide +kernel
theorem tyX1_ok : ∀ k, k < 7 → parseFieldDescriptor (TX1 k).2.2.1 = some (tyX1 k) := by decide +kernel
abbrev cX1_init : ByteArray := prog_3_method_1_code
def yX1_init : MethodName := ⟨RX1, "<init>", "()V"⟩
abbrev cX1_clearAll : ByteArray := prog_3_method_2_code
def yX1_clearAll : MethodName := ⟨RX1, "clearAll", "()V"⟩
abbrev cX1_headOf : ByteArray := prog_3_method_3_code
def yX1_headOf : MethodName := ⟨RX1, "headOf", "(II)I"⟩
abbrev cX1_put : ByteArray := prog_3_method_4_code
def yX1_put : MethodName := ⟨RX1, "put", "(III)V"⟩
abbrev cX1_find : ByteArray := prog_3_method_5_code
def yX1_find : MethodName := ⟨RX1, "find", "(IIII)I"⟩
abbrev cX1_isBelow : ByteArray := prog_3_method_6_code
def yX1_isBelow : MethodName := ⟨RX1, "isBelow", "(II)Z"⟩
abbrev cX1_weightOf : ByteArray := prog_3_method_7_code
def yX1_weightOf : MethodName := ⟨RX1, "weightOf", "(III)J"⟩
abbrev cX1_addWeight : ByteArray := prog_3_method_8_code
def yX1_addWeight : MethodName := ⟨RX1, "addWeight", "(IIIJ)V"⟩
def RX2 : String := "FractionLift$Ratio"
def TX2 : u_T := fun k => match k with
  | 0 => ("FractionLift$Ratio", "up", "J", false)
  | _ => ("FractionLift$Ratio", "low", "J", false)
def tyX2 : Nat → FieldType := fun k => match k with
  | 0 => .long
  | _ => .long
abbrev wsX20 : List Cond := u_ws RX2 TX2 2
theorem nmX2 : ∀ a, a < 2 → ∀ b, b < 2 → a ≠ b → (TX2 a).2.1 ≠ (TX2 b).2.1 := by decide +kernel
theorem tyX2_ok : ∀ k, k < 2 → parseFieldDescriptor (TX2 k).2.2.1 = some (tyX2 k) := by decide +kernel
abbrev cX2_init : ByteArray := prog_4_method_1_code
def yX2_init : MethodName := ⟨RX2, "<init>", "()V"⟩
abbrev cX2_put : ByteArray := prog_4_method_2_code
def yX2_put : MethodName := ⟨RX2, "put", "(JJ)V"⟩
abbrev cX2_part : ByteArray := prog_4_method_3_code
def yX2_part : MethodName := ⟨RX2, "part", "(I)J"⟩
abbrev cX2_whole : ByteArray := prog_4_method_4_code
def yX2_whole : MethodName := ⟨RX2, "whole", "()J"⟩
abbrev cX2_compared : ByteArray := prog_4_method_5_code
def yX2_compared : MethodName := ⟨RX2, "compared", "(LFractionLift$Ratio;)I"⟩
def RX3 : String := "FractionLift$Reader"
def TX3 : u_T := fun k => match k with
  | 0 => ("FractionLift$Reader", "into", "LFractionLift$House;", false)
  | 1 => ("FractionLift$Reader", "faultKind", "I", false)
  | 2 => ("FractionLift$Reader", "faultPlace", "I", false)
  | 3 => ("FractionLift$Reader", "tokens", "LFractionLift$Tokens;", true)
  | 4 => ("FractionLift$Reader", "index", "I", false)
  | 5 => ("FractionLift$Reader", "kind", "I", false)
  | 6 => ("FractionLift$Reader", "place", "I", false)
  | 7 => ("FractionLift$Reader", "number", "I", false)
  | 8 => ("FractionLift$Reader", "value", "I", false)
  | 9 => ("FractionLift$Reader", "atTold", "Z", false)
  | 10 => ("FractionLift$Reader", "codeSize", "I", false)
  | 11 => ("FractionLift$Reader", "signs", "[I", true)
  | 12 => ("FractionLift$Reader", "signCount", "I", false)
  | _ => ("FractionLift$Reader", "fraction", "LFractionLift$Ratio;", true)
def tyX3 : Nat → FieldType := fun k => match k with
  | 0 => .object "FractionLift$House"
  | 1 => .int
  | 2 => .int
  | 3 => .object "FractionLift$Tokens"
  | 4 => .int
  | 5 => .int
  | 6 => .int
  | 7 => .int
  | 8 => .int
  | 9 => .boolean
  | 10 => .int
  | 11 => .array .int
  | 12 => .int
  | _ => .object "FractionLift$Ratio"
abbrev wsX30 : List Cond := u_ws RX3 TX3 14
theorem nmX3 : ∀ a, a < 14 → ∀ b, b < 14 → a ≠ b → (TX3 a).2.1 ≠ (TX3 b).2.1 := by decide +kernel
theorem tyX3_ok : ∀ k, k < 14 → parseFieldDescriptor (TX3 k).2.2.1 = some (tyX3 k) := by decide +kernel
abbrev cX3_init : ByteArray := prog_5_method_1_code
def yX3_init : MethodName := ⟨RX3, "<init>", "()V"⟩
abbrev cX3_readAll : ByteArray := prog_5_method_2_code
def yX3_readAll : MethodName := ⟨RX3, "readAll", "([II)V"⟩
abbrev cX3_line : ByteArray := prog_5_method_3_code
def yX3_line : MethodName := ⟨RX3, "line", "()Z"⟩
abbrev cX3_closes : ByteArray := prog_5_method_4_code
def yX3_closes : MethodName := ⟨RX3, "closes", "()Z"⟩
abbrev cX3_topLine : ByteArray := prog_5_method_5_code
def yX3_topLine : MethodName := ⟨RX3, "topLine", "()Z"⟩
abbrev cX3_stickLine : ByteArray := prog_5_method_6_code
def yX3_stickLine : MethodName := ⟨RX3, "stickLine", "()Z"⟩
abbrev cX3_atLine : ByteArray := prog_5_method_7_code
def yX3_atLine : MethodName := ⟨RX3, "atLine", "()Z"⟩
abbrev cX3_tenantLine : ByteArray := prog_5_method_8_code
def yX3_tenantLine : MethodName := ⟨RX3, "tenantLine", "()Z"⟩
abbrev cX3_floorLine : ByteArray := prog_5_method_9_code
def yX3_floorLine : MethodName := ⟨RX3, "floorLine", "()Z"⟩
abbrev cX3_buttonLine : ByteArray := prog_5_method_10_code
def yX3_buttonLine : MethodName := ⟨RX3, "buttonLine", "()Z"⟩
abbrev cX3_fractionThen : ByteArray := prog_5_method_11_code
def yX3_fractionThen : MethodName := ⟨RX3, "fractionThen", "(I)Z"⟩
abbrev cX3_numberWithin : ByteArray := prog_5_method_12_code
def yX3_numberWithin : MethodName := ⟨RX3, "numberWithin", "(II)Z"⟩
abbrev cX3_sumToEnd : ByteArray := prog_5_method_13_code
def yX3_sumToEnd : MethodName := ⟨RX3, "sumToEnd", "()Z"⟩
abbrev cX3_atom : ByteArray := prog_5_method_14_code
def yX3_atom : MethodName := ⟨RX3, "atom", "()Z"⟩
abbrev cX3_signCode : ByteArray := prog_5_method_15_code
def yX3_signCode : MethodName := ⟨RX3, "signCode", "()I"⟩
abbrev cX3_strength : ByteArray := prog_5_method_16_code
def yX3_strength : MethodName := ⟨RX3, "strength", "(I)I"⟩
abbrev cX3_popSigns : ByteArray := prog_5_method_17_code
def yX3_popSigns : MethodName := ⟨RX3, "popSigns", "(I)V"⟩
abbrev cX3_dropSign : ByteArray := prog_5_method_18_code
def yX3_dropSign : MethodName := ⟨RX3, "dropSign", "()V"⟩
abbrev cX3_pushSign : ByteArray := prog_5_method_19_code
def yX3_pushSign : MethodName := ⟨RX3, "pushSign", "(I)V"⟩
abbrev cX3_emit : ByteArray := prog_5_method_20_code
def yX3_emit : MethodName := ⟨RX3, "emit", "(I)V"⟩
abbrev cX3_cantStand : ByteArray := prog_5_method_21_code
def yX3_cantStand : MethodName := ⟨RX3, "cantStand", "()Z"⟩
abbrev cX3_failed : ByteArray := prog_5_method_22_code
def yX3_failed : MethodName := ⟨RX3, "failed", "(I)Z"⟩
abbrev cX3_lookAt : ByteArray := prog_5_method_23_code
def yX3_lookAt : MethodName := ⟨RX3, "lookAt", "(I)V"⟩
abbrev cX3_next : ByteArray := prog_5_method_24_code
def yX3_next : MethodName := ⟨RX3, "next", "()V"⟩
def RX4 : String := "FractionLift$Reckoner"
def TX4 : u_T := fun k => match k with
  | 0 => ("FractionLift$Reckoner", "up", "I", false)
  | 1 => ("FractionLift$Reckoner", "low", "I", false)
  | 2 => ("FractionLift$Reckoner", "ups", "[J", true)
  | 3 => ("FractionLift$Reckoner", "lows", "[J", true)
  | _ => ("FractionLift$Reckoner", "piled", "I", false)
def tyX4 : Nat → FieldType := fun k => match k with
  | 0 => .int
  | 1 => .int
  | 2 => .array .long
  | 3 => .array .long
  | _ => .int
abbrev wsX40 : List Cond := u_ws RX4 TX4 5
theorem nmX4 : ∀ a, a < 5 → ∀ b, b < 5 → a ≠ b → (TX4 a).2.1 ≠ (TX4 b).2.1 := by decide +kernel
theorem tyX4_ok : ∀ k, k < 5 → parseFieldDescriptor (TX4 k).2.2.1 = some (tyX4 k) := by decide +kernel
abbrev cX4_init : ByteArray := prog_6_method_1_code
def yX4_init : MethodName := ⟨RX4, "<init>", "()V"⟩
abbrev cX4_lead : ByteArray := prog_6_method_2_code
def yX4_lead : MethodName := ⟨RX4, "lead", "(LFractionLift$House;IJJ)I"⟩
abbrev cX4_pile : ByteArray := prog_6_method_3_code
def yX4_pile : MethodName := ⟨RX4, "pile", "(JJ)V"⟩
abbrev cX4_join : ByteArray := prog_6_method_4_code
def yX4_join : MethodName := ⟨RX4, "join", "(I)I"⟩
abbrev cX4_settle : ByteArray := prog_6_method_5_code
def yX4_settle : MethodName := ⟨RX4, "settle", "(JJ)I"⟩
abbrev cX4_remainderLed : ByteArray := prog_6_method_6_code
def yX4_remainderLed : MethodName := ⟨RX4, "remainderLed", "(LFractionLift$House;III)I"⟩
abbrev cX4_joinBy : ByteArray := prog_6_method_7_code
def yX4_joinBy : MethodName := ⟨RX4, "joinBy", "(II)Z"⟩
def RX5 : String := "FractionLift$Routes"
def TX5 : u_T := fun k => match k with
  | 0 => ("FractionLift$Routes", "landings", "LFractionLift$Landings;", true)
  | 1 => ("FractionLift$Routes", "firstRow", "[I", true)
  | 2 => ("FractionLift$Routes", "secondRow", "[I", true)
  | 3 => ("FractionLift$Routes", "meeting", "I", false)
  | 4 => ("FractionLift$Routes", "reckoner", "LFractionLift$Reckoner;", true)
  | 5 => ("FractionLift$Routes", "house", "LFractionLift$House;", false)
  | _ => ("FractionLift$Routes", "lastStep", "I", false)
def tyX5 : Nat → FieldType := fun k => match k with
  | 0 => .object "FractionLift$Landings"
  | 1 => .array .int
  | 2 => .array .int
  | 3 => .int
  | 4 => .object "FractionLift$Reckoner"
  | 5 => .object "FractionLift$House"
  | _ => .int
abbrev wsX50 : List Cond := u_ws RX5 TX5 7
theorem nmX5 : ∀ a, a < 7 → ∀ b, b < 7 → a ≠ b → (TX5 a).2.1 ≠ (TX5 b).2.1 := by decide +kernel
theorem tyX5_ok : ∀ k, k < 7 → parseFieldDescriptor (TX5 k).2.2.1 = some (tyX5 k) := by decide +kernel
abbrev cX5_init : ByteArray := prog_7_method_1_code
def yX5_init : MethodName := ⟨RX5, "<init>", "(LFractionLift$Reckoner;)V"⟩
abbrev cX5_begin : ByteArray := prog_7_method_2_code
def yX5_begin : MethodName := ⟨RX5, "begin", "(LFractionLift$House;)V"⟩
abbrev cX5_seekFewest : ByteArray := prog_7_method_3_code
def yX5_seekFewest : MethodName := ⟨RX5, "seekFewest", "(II)I"⟩
abbrev cX5_stepTowards : ByteArray := prog_7_method_4_code
def yX5_stepTowards : MethodName := ⟨RX5, "stepTowards", "(IIII)Z"⟩
abbrev cX5_traceRow : ByteArray := prog_7_method_5_code
def yX5_traceRow : MethodName := ⟨RX5, "traceRow", "(II[I)V"⟩
abbrev cX5_layFloors : ByteArray := prog_7_method_6_code
def yX5_layFloors : MethodName := ⟨RX5, "layFloors", "(I)I"⟩
abbrev cX5_spread : ByteArray := prog_7_method_7_code
def yX5_spread : MethodName := ⟨RX5, "spread", "(III)V"⟩
abbrev cX5_greatestFrom : ByteArray := prog_7_method_8_code
def yX5_greatestFrom : MethodName := ⟨RX5, "greatestFrom", "(I)I"⟩
abbrev cX5_seekTwins : ByteArray := prog_7_method_9_code
def yX5_seekTwins : MethodName := ⟨RX5, "seekTwins", "()I"⟩
abbrev cX5_stepToTwins : ByteArray := prog_7_method_10_code
def yX5_stepToTwins : MethodName := ⟨RX5, "stepToTwins", "(III)Z"⟩
abbrev cX5_seekMeeting : ByteArray := prog_7_method_11_code
def yX5_seekMeeting : MethodName := ⟨RX5, "seekMeeting", "(IIZ)I"⟩
abbrev cX5_stay : ByteArray := prog_7_method_12_code
def yX5_stay : MethodName := ⟨RX5, "stay", "(II)V"⟩
abbrev cX5_leastCommon : ByteArray := prog_7_method_13_code
def yX5_leastCommon : MethodName := ⟨RX5, "leastCommon", "(III)I"⟩
abbrev cX5_layChances : ByteArray := prog_7_method_14_code
def yX5_layChances : MethodName := ⟨RX5, "layChances", "(LFractionLift$Tray;)I"⟩
abbrev cX5_branch : ByteArray := prog_7_method_15_code
def yX5_branch : MethodName := ⟨RX5, "branch", "(III)V"⟩
def RX6 : String := "FractionLift$Tokens"
def TX6 : u_T := fun k => match k with
  | 0 => ("FractionLift$Tokens", "size", "I", false)
  | 1 => ("FractionLift$Tokens", "kinds", "[I", true)
  | 2 => ("FractionLift$Tokens", "places", "[I", true)
  | 3 => ("FractionLift$Tokens", "amounts", "[I", true)
  | 4 => ("FractionLift$Tokens", "text", "[I", false)
  | _ => ("FractionLift$Tokens", "length", "I", false)
def tyX6 : Nat → FieldType := fun k => match k with
  | 0 => .int
  | 1 => .array .int
  | 2 => .array .int
  | 3 => .array .int
  | 4 => .array .int
  | _ => .int
abbrev wsX60 : List Cond := u_ws RX6 TX6 6
theorem nmX6 : ∀ a, a < 6 → ∀ b, b < 6 → a ≠ b → (TX6 a).2.1 ≠ (TX6 b).2.1 := by decide +kernel
theorem tyX6_ok : ∀ k, k < 6 → parseFieldDescriptor (TX6 k).2.2.1 = some (tyX6 k) := by decide +kernel
abbrev cX6_init : ByteArray := prog_8_method_1_code
def yX6_init : MethodName := ⟨RX6, "<init>", "()V"⟩
abbrev cX6_scanAll : ByteArray := prog_8_method_2_code
def yX6_scanAll : MethodName := ⟨RX6, "scanAll", "([II)V"⟩
abbrev cX6_add : ByteArray := prog_8_method_3_code
def yX6_add : MethodName := ⟨RX6, "add", "(III)V"⟩
abbrev cX6_behindBlanks : ByteArray := prog_8_method_4_code
def yX6_behindBlanks : MethodName := ⟨RX6, "behindBlanks", "(I)I"⟩
abbrev cX6_endOf : ByteArray := prog_8_method_5_code
def yX6_endOf : MethodName := ⟨RX6, "endOf", "(I)I"⟩
abbrev cX6_kindOf : ByteArray := prog_8_method_6_code
def yX6_kindOf : MethodName := ⟨RX6, "kindOf", "(II)I"⟩
abbrev cX6_amountOf : ByteArray := prog_8_method_7_code
def yX6_amountOf : MethodName := ⟨RX6, "amountOf", "(II)I"⟩
abbrev cX6_wordKind : ByteArray := prog_8_method_8_code
def yX6_wordKind : MethodName := ⟨RX6, "wordKind", "(II)I"⟩
abbrev cX6_isWord : ByteArray := prog_8_method_9_code
def yX6_isWord : MethodName := ⟨RX6, "isWord", "(Ljava/lang/String;II)Z"⟩
abbrev cX6_isDigit : ByteArray := prog_8_method_10_code
def yX6_isDigit : MethodName := ⟨RX6, "isDigit", "(I)Z"⟩
abbrev cX6_isLetter : ByteArray := prog_8_method_11_code
def yX6_isLetter : MethodName := ⟨RX6, "isLetter", "(I)Z"⟩
abbrev cX6_isSign : ByteArray := prog_8_method_12_code
def yX6_isSign : MethodName := ⟨RX6, "isSign", "(I)Z"⟩
def RX7 : String := "FractionLift$Tray"
def TX7 : u_T := fun k => match k with
  | 0 => ("FractionLift$Tray", "sort", "I", false)
  | 1 => ("FractionLift$Tray", "size", "I", false)
  | _ => ("FractionLift$Tray", "values", "[J", true)
def tyX7 : Nat → FieldType := fun k => match k with
  | 0 => .int
  | 1 => .int
  | _ => .array .long
abbrev wsX70 : List Cond := u_ws RX7 TX7 3
theorem nmX7 : ∀ a, a < 3 → ∀ b, b < 3 → a ≠ b → (TX7 a).2.1 ≠ (TX7 b).2.1 := by decide +kernel
theorem tyX7_ok : ∀ k, k < 3 → parseFieldDescriptor (TX7 k).2.2.1 = some (tyX7 k) := by decide +kernel
abbrev cX7_init : ByteArray := prog_9_method_1_code
def yX7_init : MethodName := ⟨RX7, "<init>", "()V"⟩
abbrev cX7_layOut : ByteArray := prog_9_method_2_code
def yX7_layOut : MethodName := ⟨RX7, "layOut", "(II)V"⟩
abbrev cX7_lay : ByteArray := prog_9_method_3_code
def yX7_lay : MethodName := ⟨RX7, "lay", "(IJ)J"⟩
abbrev cX7_cut : ByteArray := prog_9_method_4_code
def yX7_cut : MethodName := ⟨RX7, "cut", "(J)J"⟩
abbrev cX7_smallAt : ByteArray := prog_9_method_5_code
def yX7_smallAt : MethodName := ⟨RX7, "smallAt", "(I)I"⟩
def RX8 : String := "FractionLift$Watcher"
def TX8 : u_T := fun k => match k with
  | 0 => ("FractionLift$Watcher", "fitting", "I", false)
  | 1 => ("FractionLift$Watcher", "wantedDigits", "I", false)
  | 2 => ("FractionLift$Watcher", "common", "[I", true)
  | 3 => ("FractionLift$Watcher", "row", "[I", true)
  | 4 => ("FractionLift$Watcher", "reckoner", "LFractionLift$Reckoner;", true)
  | 5 => ("FractionLift$Watcher", "house", "LFractionLift$House;", false)
  | 6 => ("FractionLift$Watcher", "seen", "LFractionLift$Tray;", false)
  | _ => ("FractionLift$Watcher", "wanted", "I", false)
def tyX8 : Nat → FieldType := fun k => match k with
  | 0 => .int
  | 1 => .int
  | 2 => .array .int
  | 3 => .array .int
  | 4 => .object "FractionLift$Reckoner"
  | 5 => .object "FractionLift$House"
  | 6 => .object "FractionLift$Tray"
  | _ => .int
abbrev wsX80 : List Cond := u_ws RX8 TX8 8
theorem nmX8 : ∀ a, a < 8 → ∀ b, b < 8 → a ≠ b → (TX8 a).2.1 ≠ (TX8 b).2.1 := by decide +kernel
theorem tyX8_ok : ∀ k, k < 8 → parseFieldDescriptor (TX8 k).2.2.1 = some (tyX8 k) := by decide +kernel
abbrev cX8_init : ByteArray := prog_10_method_1_code
def yX8_init : MethodName := ⟨RX8, "<init>", "(LFractionLift$Reckoner;)V"⟩
abbrev cX8_watchAll : ByteArray := prog_10_method_2_code
def yX8_watchAll : MethodName := ⟨RX8, "watchAll", "(LFractionLift$House;LFractionLift$Tray;I)V"⟩
abbrev cX8_goOn : ByteArray := prog_10_method_3_code
def yX8_goOn : MethodName := ⟨RX8, "goOn", "(III)V"⟩
abbrev cX8_isSeenAt : ByteArray := prog_10_method_4_code
def yX8_isSeenAt : MethodName := ⟨RX8, "isSeenAt", "(I)Z"⟩
abbrev cX8_takeRow : ByteArray := prog_10_method_5_code
def yX8_takeRow : MethodName := ⟨RX8, "takeRow", "(I)V"⟩
def RX9 : String := "FractionLift"
def TX9 : u_T := fun k => match k with
  | 0 => ("FractionLift", "tape", "[I", true)
  | 1 => ("FractionLift", "taped", "I", false)
  | 2 => ("FractionLift", "faultKind", "I", false)
  | 3 => ("FractionLift", "faultPlace", "I", false)
  | 4 => ("FractionLift", "now", "LFractionLift$House;", false)
  | 5 => ("FractionLift", "reader", "LFractionLift$Reader;", false)
  | 6 => ("FractionLift", "images", "[LFractionLift$House;", true)
  | 7 => ("FractionLift", "trays", "[LFractionLift$Tray;", true)
  | 8 => ("FractionLift", "undoUp", "[I", true)
  | 9 => ("FractionLift", "undoLow", "[I", true)
  | 10 => ("FractionLift", "undoable", "I", false)
  | 11 => ("FractionLift", "reckoner", "LFractionLift$Reckoner;", true)
  | 12 => ("FractionLift", "asked", "LFractionLift$Ratio;", true)
  | 13 => ("FractionLift", "spare", "LFractionLift$Ratio;", true)
  | 14 => ("FractionLift", "terms", "[J", true)
  | 15 => ("FractionLift", "counts", "[I", true)
  | 16 => ("FractionLift", "routes", "LFractionLift$Routes;", false)
  | _ => ("FractionLift", "watcher", "LFractionLift$Watcher;", false)
def tyX9 : Nat → FieldType := fun k => match k with
  | 0 => .array .int
  | 1 => .int
  | 2 => .int
  | 3 => .int
  | 4 => .object "FractionLift$House"
  | 5 => .object "FractionLift$Reader"
  | 6 => .array (.object "FractionLift$House")
  | 7 => .array (.object "FractionLift$Tray")
  | 8 => .array .int
  | 9 => .array .int
  | 10 => .int
  | 11 => .object "FractionLift$Reckoner"
  | 12 => .object "FractionLift$Ratio"
  | 13 => .object "FractionLift$Ratio"
  | 14 => .array .long
  | 15 => .array .int
  | 16 => .object "FractionLift$Routes"
  | _ => .object "FractionLift$Watcher"
abbrev wsX90 : List Cond := u_ws RX9 TX9 18
theorem nmX9 : ∀ a, a < 18 → ∀ b, b < 18 → a ≠ b → (TX9 a).2.1 ≠ (TX9 b).2.1 := by decide +kernel
theorem tyX9_ok : ∀ k, k < 18 → parseFieldDescriptor (TX9 k).2.2.1 = some (tyX9 k) := by decide +kernel
abbrev cX9_init : ByteArray := prog_1_method_1_code
def yX9_init : MethodName := ⟨RX9, "<init>", "()V"⟩
abbrev cX9_feed : ByteArray := prog_1_method_2_code
def yX9_feed : MethodName := ⟨RX9, "feed", "(IIIII)I"⟩
abbrev cX9_house : ByteArray := prog_1_method_3_code
def yX9_house : MethodName := ⟨RX9, "house", "(I)I"⟩
abbrev cX9_fault : ByteArray := prog_1_method_4_code
def yX9_fault : MethodName := ⟨RX9, "fault", "(I)I"⟩
abbrev cX9_at : ByteArray := prog_1_method_5_code
def yX9_at : MethodName := ⟨RX9, "at", "(I)I"⟩
abbrev cX9_floor : ByteArray := prog_1_method_6_code
def yX9_floor : MethodName := ⟨RX9, "floor", "(II)I"⟩
abbrev cX9_tenant : ByteArray := prog_1_method_7_code
def yX9_tenant : MethodName := ⟨RX9, "tenant", "(II)I"⟩
abbrev cX9_why : ByteArray := prog_1_method_8_code
def yX9_why : MethodName := ⟨RX9, "why", "(I)I"⟩
abbrev cX9_leads : ByteArray := prog_1_method_9_code
def yX9_leads : MethodName := ⟨RX9, "leads", "(IIII)I"⟩
abbrev cX9_press : ByteArray := prog_1_method_10_code
def yX9_press : MethodName := ⟨RX9, "press", "(I)I"⟩
abbrev cX9_undo : ByteArray := prog_1_method_11_code
def yX9_undo : MethodName := ⟨RX9, "undo", "(I)I"⟩
abbrev cX9_judge : ByteArray := prog_1_method_12_code
def yX9_judge : MethodName := ⟨RX9, "judge", "(II)I"⟩
abbrev cX9_perform : ByteArray := prog_1_method_13_code
def yX9_perform : MethodName := ⟨RX9, "perform", "(I)I"⟩
abbrev cX9_day : ByteArray := prog_1_method_14_code
def yX9_day : MethodName := ⟨RX9, "day", "(II)I"⟩
abbrev cX9_has : ByteArray := prog_1_method_15_code
def yX9_has : MethodName := ⟨RX9, "has", "(IIII)J"⟩
abbrev cX9_where : ByteArray := prog_1_method_16_code
def yX9_where : MethodName := ⟨RX9, "where", "(III)J"⟩
abbrev cX9_alike : ByteArray := prog_1_method_17_code
def yX9_alike : MethodName := ⟨RX9, "alike", "(III)J"⟩
abbrev cX9_most : ByteArray := prog_1_method_18_code
def yX9_most : MethodName := ⟨RX9, "most", "(I)I"⟩
abbrev cX9_tells : ByteArray := prog_1_method_19_code
def yX9_tells : MethodName := ⟨RX9, "tells", "(II)I"⟩
abbrev cX9_fewest : ByteArray := prog_1_method_20_code
def yX9_fewest : MethodName := ⟨RX9, "fewest", "(III)I"⟩
abbrev cX9_reach : ByteArray := prog_1_method_21_code
def yX9_reach : MethodName := ⟨RX9, "reach", "(I)I"⟩
abbrev cX9_highest : ByteArray := prog_1_method_22_code
def yX9_highest : MethodName := ⟨RX9, "highest", "(II)I"⟩
abbrev cX9_twins : ByteArray := prog_1_method_23_code
def yX9_twins : MethodName := ⟨RX9, "twins", "(I)I"⟩
abbrev cX9_never : ByteArray := prog_1_method_24_code
def yX9_never : MethodName := ⟨RX9, "never", "(III)I"⟩
abbrev cX9_shown : ByteArray := prog_1_method_25_code
def yX9_shown : MethodName := ⟨RX9, "shown", "(II)I"⟩
abbrev cX9_rests : ByteArray := prog_1_method_26_code
def yX9_rests : MethodName := ⟨RX9, "rests", "(I)I"⟩
abbrev cX9_meet : ByteArray := prog_1_method_27_code
def yX9_meet : MethodName := ⟨RX9, "meet", "(IIZI)I"⟩
abbrev cX9_address : ByteArray := prog_1_method_28_code
def yX9_address : MethodName := ⟨RX9, "address", "(III)I"⟩
abbrev cX9_neighbour : ByteArray := prog_1_method_29_code
def yX9_neighbour : MethodName := ⟨RX9, "neighbour", "(IIIZI)I"⟩
abbrev cX9_simplest : ByteArray := prog_1_method_30_code
def yX9_simplest : MethodName := ⟨RX9, "simplest", "(IIIII)I"⟩
abbrev cX9_floors : ByteArray := prog_1_method_31_code
def yX9_floors : MethodName := ⟨RX9, "floors", "(I)I"⟩
abbrev cX9_rank : ByteArray := prog_1_method_32_code
def yX9_rank : MethodName := ⟨RX9, "rank", "(III)I"⟩
abbrev cX9_parts : ByteArray := prog_1_method_33_code
def yX9_parts : MethodName := ⟨RX9, "parts", "(III)I"⟩
abbrev cX9_rent : ByteArray := prog_1_method_34_code
def yX9_rent : MethodName := ⟨RX9, "rent", "(II)J"⟩
abbrev cX9_rents : ByteArray := prog_1_method_35_code
def yX9_rents : MethodName := ⟨RX9, "rents", "()I"⟩
abbrev cX9_moves : ByteArray := prog_1_method_36_code
def yX9_moves : MethodName := ⟨RX9, "moves", "(III)I"⟩
abbrev cX9_fairest : ByteArray := prog_1_method_37_code
def yX9_fairest : MethodName := ⟨RX9, "fairest", "(II)J"⟩
abbrev cX9_richest : ByteArray := prog_1_method_38_code
def yX9_richest : MethodName := ⟨RX9, "richest", "()I"⟩
abbrev cX9_fits : ByteArray := prog_1_method_39_code
def yX9_fits : MethodName := ⟨RX9, "fits", "(II)I"⟩
abbrev cX9_sure : ByteArray := prog_1_method_40_code
def yX9_sure : MethodName := ⟨RX9, "sure", "(II)I"⟩
abbrev cX9_odds : ByteArray := prog_1_method_41_code
def yX9_odds : MethodName := ⟨RX9, "odds", "(III)J"⟩
abbrev cX9_ends : ByteArray := prog_1_method_42_code
def yX9_ends : MethodName := ⟨RX9, "ends", "(I)I"⟩
abbrev cX9_numbers : ByteArray := prog_1_method_43_code
def yX9_numbers : MethodName := ⟨RX9, "numbers", "(III)I"⟩
abbrev cX9_write : ByteArray := prog_1_method_44_code
def yX9_write : MethodName := ⟨RX9, "write", "(IIJ)J"⟩
abbrev cX9_copy : ByteArray := prog_1_method_45_code
def yX9_copy : MethodName := ⟨RX9, "copy", "(I)I"⟩
abbrev cX9_image : ByteArray := prog_1_method_46_code
def yX9_image : MethodName := ⟨RX9, "image", "(I)I"⟩
abbrev cX9_restore : ByteArray := prog_1_method_47_code
def yX9_restore : MethodName := ⟨RX9, "restore", "(I)I"⟩
abbrev cX9_count : ByteArray := prog_1_method_48_code
def yX9_count : MethodName := ⟨RX9, "count", "(I)I"⟩
abbrev cX9_asksFloor : ByteArray := prog_1_method_49_code
def yX9_asksFloor : MethodName := ⟨RX9, "asksFloor", "(II)Z"⟩
abbrev cX9_isStuff : ByteArray := prog_1_method_50_code
def yX9_isStuff : MethodName := ⟨RX9, "isStuff", "(I)Z"⟩
abbrev cX9_isModulus : ByteArray := prog_1_method_51_code
def yX9_isModulus : MethodName := ⟨RX9, "isModulus", "(I)Z"⟩
abbrev cX9_refusedTray : ByteArray := prog_1_method_52_code
def yX9_refusedTray : MethodName := ⟨RX9, "refusedTray", "(I)I"⟩
abbrev cX9_refusedRow : ByteArray := prog_1_method_53_code
def yX9_refusedRow : MethodName := ⟨RX9, "refusedRow", "(II)I"⟩
abbrev cX9_refusedSeen : ByteArray := prog_1_method_54_code
def yX9_refusedSeen : MethodName := ⟨RX9, "refusedSeen", "(I)I"⟩
abbrev cX9_hasButtonsAlone : ByteArray := prog_1_method_55_code
def yX9_hasButtonsAlone : MethodName := ⟨RX9, "hasButtonsAlone", "(LFractionLift$Tray;)Z"⟩
abbrev cX9_tapeInt : ByteArray := prog_1_method_56_code
def yX9_tapeInt : MethodName := ⟨RX9, "tapeInt", "(I)V"⟩
abbrev cX9_nextDraw : ByteArray := prog_1_method_57_code
def yX9_nextDraw : MethodName := ⟨RX9, "nextDraw", "(I)I"⟩
abbrev cX9_pressOne : ByteArray := prog_1_method_58_code
def yX9_pressOne : MethodName := ⟨RX9, "pressOne", "(I)I"⟩
abbrev cX9_forgetEldest : ByteArray := prog_1_method_59_code
def yX9_forgetEldest : MethodName := ⟨RX9, "forgetEldest", "()V"⟩
abbrev cX9_commonFactor : ByteArray := prog_1_method_60_code
def yX9_commonFactor : MethodName := ⟨RX9, "commonFactor", "(JJ)J"⟩
abbrev cX9_inverseBy : ByteArray := prog_1_method_61_code
def yX9_inverseBy : MethodName := ⟨RX9, "inverseBy", "(II)I"⟩
abbrev cX9_remainderOf : ByteArray := prog_1_method_62_code
def yX9_remainderOf : MethodName := ⟨RX9, "remainderOf", "(JJI)I"⟩
abbrev cX9_isNever : ByteArray := prog_1_method_63_code
def yX9_isNever : MethodName := ⟨RX9, "isNever", "(I)Z"⟩
abbrev cX9_remaindersBy : ByteArray := prog_1_method_64_code
def yX9_remaindersBy : MethodName := ⟨RX9, "remaindersBy", "(I)I"⟩
abbrev cX9_remaindersFrom : ByteArray := prog_1_method_65_code
def yX9_remaindersFrom : MethodName := ⟨RX9, "remaindersFrom", "(III)I"⟩
abbrev cX9_layTerms : ByteArray := prog_1_method_66_code
def yX9_layTerms : MethodName := ⟨RX9, "layTerms", "(JJ)I"⟩
abbrev cX9_seekAbove : ByteArray := prog_1_method_67_code
def yX9_seekAbove : MethodName := ⟨RX9, "seekAbove", "(I)Z"⟩
abbrev cX9_seekBelow : ByteArray := prog_1_method_68_code
def yX9_seekBelow : MethodName := ⟨RX9, "seekBelow", "(I)Z"⟩
abbrev cX9_seekSimplest : ByteArray := prog_1_method_69_code
def yX9_seekSimplest : MethodName := ⟨RX9, "seekSimplest", "(JJJJ)V"⟩
abbrev cX9_countBelow : ByteArray := prog_1_method_70_code
def yX9_countBelow : MethodName := ⟨RX9, "countBelow", "(JJI)I"⟩
abbrev cX9_layParts : ByteArray := prog_1_method_71_code
def yX9_layParts : MethodName := ⟨RX9, "layParts", "()I"⟩
abbrev cX9_seekFairest : ByteArray := prog_1_method_72_code
def yX9_seekFairest : MethodName := ⟨RX9, "seekFairest", "(I)V"⟩
abbrev cX9_fairUnit : ByteArray := prog_1_method_73_code
def yX9_fairUnit : MethodName := ⟨RX9, "fairUnit", "(I)J"⟩
abbrev cX9_farFromOthers : ByteArray := prog_1_method_74_code
def yX9_farFromOthers : MethodName := ⟨RX9, "farFromOthers", "(IJJ)J"⟩
abbrev cX9_fewRows : ByteArray := prog_1_method_75_code
def yX9_fewRows : MethodName := ⟨RX9, "fewRows", "(I)Z"⟩
abbrev cX9_routesFromHere : ByteArray := prog_1_method_76_code
def yX9_routesFromHere : MethodName := ⟨RX9, "routesFromHere", "()LFractionLift$Routes;"⟩
abbrev cX9_watcherHere : ByteArray := prog_1_method_77_code
def yX9_watcherHere : MethodName := ⟨RX9, "watcherHere", "()LFractionLift$Watcher;"⟩
def RX10 : String := "FractionLiftModel"
def TX10 : u_T := fun k => match k with
  | 0 => ("FractionLiftModel", "thrown", "I", false)
  | 1 => ("FractionLiftModel", "all", "[I", true)
  | 2 => ("FractionLiftModel", "hasImage", "[Z", true)
  | 3 => ("FractionLiftModel", "tape", "[I", true)
  | 4 => ("FractionLiftModel", "fresh", "[I", true)
  | 5 => ("FractionLiftModel", "taped", "I", false)
  | 6 => ("FractionLiftModel", "at", "I", false)
  | 7 => ("FractionLiftModel", "behind", "I", false)
  | 8 => ("FractionLiftModel", "size", "I", false)
  | 9 => ("FractionLiftModel", "kind", "I", false)
  | 10 => ("FractionLiftModel", "number", "I", false)
  | 11 => ("FractionLiftModel", "wrong", "I", false)
  | 12 => ("FractionLiftModel", "wrongAt", "I", false)
  | 13 => ("FractionLiftModel", "faultKind", "I", false)
  | 14 => ("FractionLiftModel", "faultPlace", "I", false)
  | 15 => ("FractionLiftModel", "up", "J", false)
  | 16 => ("FractionLiftModel", "low", "J", false)
  | 17 => ("FractionLiftModel", "above", "Z", false)
  | 18 => ("FractionLiftModel", "ahead", "Z", false)
  | 19 => ("FractionLiftModel", "wayUp", "[J", true)
  | 20 => ("FractionLiftModel", "wayLow", "[J", true)
  | 21 => ("FractionLiftModel", "n", "I", false)
  | 22 => ("FractionLiftModel", "x", "I", false)
  | 23 => ("FractionLiftModel", "order", "[I", true)
  | 24 => ("FractionLiftModel", "metUp", "[I", true)
  | 25 => ("FractionLiftModel", "metLow", "[I", true)
  | 26 => ("FractionLiftModel", "metFrom", "[I", true)
  | 27 => ("FractionLiftModel", "metBy", "[I", true)
  | 28 => ("FractionLiftModel", "places", "[I", true)
  | 29 => ("FractionLiftModel", "met", "I", false)
  | 30 => ("FractionLiftModel", "row", "[I", true)
  | 31 => ("FractionLiftModel", "levelUp", "[I", true)
  | 32 => ("FractionLiftModel", "levelLow", "[I", true)
  | 33 => ("FractionLiftModel", "level", "I", false)
  | 34 => ("FractionLiftModel", "twinFirst", "I", false)
  | 35 => ("FractionLiftModel", "twinSecond", "I", false)
  | 36 => ("FractionLiftModel", "wayRest", "[I", true)
  | 37 => ("FractionLiftModel", "firstUp", "[I", true)
  | 38 => ("FractionLiftModel", "firstLow", "[I", true)
  | 39 => ("FractionLiftModel", "meetUp", "I", false)
  | 40 => ("FractionLiftModel", "meetLow", "I", false)
  | 41 => ("FractionLiftModel", "address", "[I", true)
  | 42 => ("FractionLiftModel", "part", "[I", true)
  | 43 => ("FractionLiftModel", "pressed", "[I", true)
  | 44 => ("FractionLiftModel", "fitting", "[I", true)
  | 45 => ("FractionLiftModel", "often", "[I", true)
  | 46 => ("FractionLiftModel", "fitMany", "I", false)
  | 47 => ("FractionLiftModel", "wanted", "I", false)
  | 48 => ("FractionLiftModel", "mayUp", "[I", true)
  | 49 => ("FractionLiftModel", "mayLow", "[I", true)
  | 50 => ("FractionLiftModel", "mayWays", "[J", true)
  | 51 => ("FractionLiftModel", "may", "I", false)
  | 52 => ("FractionLiftModel", "rowSort", "[I", true)
  | 53 => ("FractionLiftModel", "rowMany", "[I", true)
  | _ => ("FractionLiftModel", "numbers", "[J", true)
def tyX10 : Nat → FieldType := fun k => match k with
  | 0 => .int
  | 1 => .array .int
  | 2 => .array .boolean
  | 3 => .array .int
  | 4 => .array .int
  | 5 => .int
  | 6 => .int
  | 7 => .int
  | 8 => .int
  | 9 => .int
  | 10 => .int
  | 11 => .int
  | 12 => .int
  | 13 => .int
  | 14 => .int
  | 15 => .long
  | 16 => .long
  | 17 => .boolean
  | 18 => .boolean
  | 19 => .array .long
  | 20 => .array .long
  | 21 => .int
  | 22 => .int
  | 23 => .array .int
  | 24 => .array .int
  | 25 => .array .int
  | 26 => .array .int
  | 27 => .array .int
  | 28 => .array .int
  | 29 => .int
  | 30 => .array .int
  | 31 => .array .int
  | 32 => .array .int
  | 33 => .int
  | 34 => .int
  | 35 => .int
  | 36 => .array .int
  | 37 => .array .int
  | 38 => .array .int
  | 39 => .int
  | 40 => .int
  | 41 => .array .int
  | 42 => .array .int
  | 43 => .array .int
  | 44 => .array .int
  | 45 => .array .int
  | 46 => .int
  | 47 => .int
  | 48 => .array .int
  | 49 => .array .int
  | 50 => .array .long
  | 51 => .int
  | 52 => .array .int
  | 53 => .array .int
  | _ => .array .long
abbrev wsX100 : List Cond := u_ws RX10 TX10 55
theorem nmX10 : ∀ a, a < 55 → ∀ b, b < 55 → a ≠ b → (TX10 a).2.1 ≠ (TX10 b).2.1 := by decide +kernel
theorem tyX10_ok : ∀ k, k < 55 → parseFieldDescriptor (TX10 k).2.2.1 = some (tyX10 k) := by decide +kernel
abbrev cX10_within : ByteArray := prog_12_method_2_code
def yX10_within : MethodName := ⟨RX10, "within", "(JJJ)Z"⟩
abbrev cX10_init : ByteArray := prog_12_method_3_code
def yX10_init : MethodName := ⟨RX10, "<init>", "()V"⟩
abbrev cX10_plain : ByteArray := prog_12_method_4_code
def yX10_plain : MethodName := ⟨RX10, "plain", "([I)V"⟩
abbrev cX10_feed : ByteArray := prog_12_method_5_code
def yX10_feed : MethodName := ⟨RX10, "feed", "(IIIII)I"⟩
abbrev cX10_see : ByteArray := prog_12_method_6_code
def yX10_see : MethodName := ⟨RX10, "see", "(I)I"⟩
abbrev cX10_isSmall : ByteArray := prog_12_method_7_code
def yX10_isSmall : MethodName := ⟨RX10, "isSmall", "(I)Z"⟩
abbrev cX10_isDigit : ByteArray := prog_12_method_8_code
def yX10_isDigit : MethodName := ⟨RX10, "isDigit", "(I)Z"⟩
abbrev cX10_keyAt : ByteArray := prog_12_method_9_code
def yX10_keyAt : MethodName := ⟨RX10, "keyAt", "()I"⟩
abbrev cX10_next : ByteArray := prog_12_method_10_code
def yX10_next : MethodName := ⟨RX10, "next", "()V"⟩
abbrev cX10_fails : ByteArray := prog_12_method_11_code
def yX10_fails : MethodName := ⟨RX10, "fails", "(I)V"⟩
abbrev cX10_is : ByteArray := prog_12_method_12_code
def yX10_is : MethodName := ⟨RX10, "is", "(I)Z"⟩
abbrev cX10_eats : ByteArray := prog_12_method_13_code
def yX10_eats : MethodName := ⟨RX10, "eats", "(I)Z"⟩
abbrev cX10_takes : ByteArray := prog_12_method_14_code
def yX10_takes : MethodName := ⟨RX10, "takes", "(II)I"⟩
abbrev cX10_common : ByteArray := prog_12_method_15_code
def yX10_common : MethodName := ⟨RX10, "common", "(JJ)J"⟩
abbrev cX10_lays : ByteArray := prog_12_method_16_code
def yX10_lays : MethodName := ⟨RX10, "lays", "(JJ)V"⟩
abbrev cX10_takesFraction : ByteArray := prog_12_method_17_code
def yX10_takesFraction : MethodName := ⟨RX10, "takesFraction", "()V"⟩
abbrev cX10_goesOn : ByteArray := prog_12_method_18_code
def yX10_goesOn : MethodName := ⟨RX10, "goesOn", "(IZ)V"⟩
abbrev cX10_readFloor : ByteArray := prog_12_method_19_code
def yX10_readFloor : MethodName := ⟨RX10, "readFloor", "()V"⟩
abbrev cX10_readAt : ByteArray := prog_12_method_20_code
def yX10_readAt : MethodName := ⟨RX10, "readAt", "(II)V"⟩
abbrev cX10_readTenant : ByteArray := prog_12_method_21_code
def yX10_readTenant : MethodName := ⟨RX10, "readTenant", "()V"⟩
abbrev cX10_tellsCode : ByteArray := prog_12_method_22_code
def yX10_tellsCode : MethodName := ⟨RX10, "tellsCode", "(I)V"⟩
abbrev cX10_readAtom : ByteArray := prog_12_method_23_code
def yX10_readAtom : MethodName := ⟨RX10, "readAtom", "(I)V"⟩
abbrev cX10_readTerm : ByteArray := prog_12_method_24_code
def yX10_readTerm : MethodName := ⟨RX10, "readTerm", "(I)V"⟩
abbrev cX10_readSum : ByteArray := prog_12_method_25_code
def yX10_readSum : MethodName := ⟨RX10, "readSum", "(I)V"⟩
abbrev cX10_readButton : ByteArray := prog_12_method_26_code
def yX10_readButton : MethodName := ⟨RX10, "readButton", "()V"⟩
abbrev cX10_readLine : ByteArray := prog_12_method_27_code
def yX10_readLine : MethodName := ⟨RX10, "readLine", "()V"⟩
abbrev cX10_house : ByteArray := prog_12_method_28_code
def yX10_house : MethodName := ⟨RX10, "house", "(I)I"⟩
abbrev cX10_fault : ByteArray := prog_12_method_29_code
def yX10_fault : MethodName := ⟨RX10, "fault", "(I)I"⟩
abbrev cX10_at : ByteArray := prog_12_method_30_code
def yX10_at : MethodName := ⟨RX10, "at", "(I)I"⟩
abbrev cX10_isTold : ByteArray := prog_12_method_31_code
def yX10_isTold : MethodName := ⟨RX10, "isTold", "(J)Z"⟩
abbrev cX10_isTenant : ByteArray := prog_12_method_32_code
def yX10_isTenant : MethodName := ⟨RX10, "isTenant", "(I)Z"⟩
abbrev cX10_against : ByteArray := prog_12_method_33_code
def yX10_against : MethodName := ⟨RX10, "against", "(JJJJ)I"⟩
abbrev cX10_placeOf : ByteArray := prog_12_method_34_code
def yX10_placeOf : MethodName := ⟨RX10, "placeOf", "(I)I"⟩
abbrev cX10_floor : ByteArray := prog_12_method_35_code
def yX10_floor : MethodName := ⟨RX10, "floor", "(II)I"⟩
abbrev cX10_tenant : ByteArray := prog_12_method_36_code
def yX10_tenant : MethodName := ⟨RX10, "tenant", "(II)I"⟩
abbrev cX10_pushes : ByteArray := prog_12_method_37_code
def yX10_pushes : MethodName := ⟨RX10, "pushes", "(JJ)I"⟩
abbrev cX10_steps : ByteArray := prog_12_method_38_code
def yX10_steps : MethodName := ⟨RX10, "steps", "(I)I"⟩
abbrev cX10_isFloor : ByteArray := prog_12_method_39_code
def yX10_isFloor : MethodName := ⟨RX10, "isFloor", "(JJ)Z"⟩
abbrev cX10_leadsFrom : ByteArray := prog_12_method_40_code
def yX10_leadsFrom : MethodName := ⟨RX10, "leadsFrom", "(IJJ)I"⟩
abbrev cX10_leadsNow : ByteArray := prog_12_method_41_code
def yX10_leadsNow : MethodName := ⟨RX10, "leadsNow", "(I)I"⟩
abbrev cX10_asks : ByteArray := prog_12_method_42_code
def yX10_asks : MethodName := ⟨RX10, "asks", "(JJ)Z"⟩
abbrev cX10_why : ByteArray := prog_12_method_43_code
def yX10_why : MethodName := ⟨RX10, "why", "(I)I"⟩
abbrev cX10_leads : ByteArray := prog_12_method_44_code
def yX10_leads : MethodName := ⟨RX10, "leads", "(IIII)I"⟩
abbrev cX10_presses : ByteArray := prog_12_method_45_code
def yX10_presses : MethodName := ⟨RX10, "presses", "(I)I"⟩
abbrev cX10_press : ByteArray := prog_12_method_46_code
def yX10_press : MethodName := ⟨RX10, "press", "(I)I"⟩
abbrev cX10_undo : ByteArray := prog_12_method_47_code
def yX10_undo : MethodName := ⟨RX10, "undo", "(I)I"⟩
abbrev cX10_noRow : ByteArray := prog_12_method_48_code
def yX10_noRow : MethodName := ⟨RX10, "noRow", "(II)I"⟩
abbrev cX10_told : ByteArray := prog_12_method_49_code
def yX10_told : MethodName := ⟨RX10, "told", "(II)I"⟩
abbrev cX10_judge : ByteArray := prog_12_method_50_code
def yX10_judge : MethodName := ⟨RX10, "judge", "(II)I"⟩
abbrev cX10_perform : ByteArray := prog_12_method_51_code
def yX10_perform : MethodName := ⟨RX10, "perform", "(I)I"⟩
abbrev cX10_draw : ByteArray := prog_12_method_52_code
def yX10_draw : MethodName := ⟨RX10, "draw", "(I)I"⟩
abbrev cX10_day : ByteArray := prog_12_method_53_code
def yX10_day : MethodName := ⟨RX10, "day", "(II)I"⟩
abbrev cX10_laysOrder : ByteArray := prog_12_method_54_code
def yX10_laysOrder : MethodName := ⟨RX10, "laysOrder", "()V"⟩
abbrev cX10_stuffOf : ByteArray := prog_12_method_55_code
def yX10_stuffOf : MethodName := ⟨RX10, "stuffOf", "(II)I"⟩
abbrev cX10_laysStuff : ByteArray := prog_12_method_56_code
def yX10_laysStuff : MethodName := ⟨RX10, "laysStuff", "(IIJJ)V"⟩
abbrev cX10_laysWhere : ByteArray := prog_12_method_57_code
def yX10_laysWhere : MethodName := ⟨RX10, "laysWhere", "(III)Z"⟩
abbrev cX10_isStuff : ByteArray := prog_12_method_58_code
def yX10_isStuff : MethodName := ⟨RX10, "isStuff", "(I)Z"⟩
abbrev cX10_has : ByteArray := prog_12_method_59_code
def yX10_has : MethodName := ⟨RX10, "has", "(IIII)J"⟩
abbrev cX10_where : ByteArray := prog_12_method_60_code
def yX10_where : MethodName := ⟨RX10, "where", "(III)J"⟩
abbrev cX10_alike : ByteArray := prog_12_method_61_code
def yX10_alike : MethodName := ⟨RX10, "alike", "(III)J"⟩
abbrev cX10_most : ByteArray := prog_12_method_62_code
def yX10_most : MethodName := ⟨RX10, "most", "(I)I"⟩
abbrev cX10_tells : ByteArray := prog_12_method_63_code
def yX10_tells : MethodName := ⟨RX10, "tells", "(II)I"⟩
abbrev cX10_forgets : ByteArray := prog_12_method_64_code
def yX10_forgets : MethodName := ⟨RX10, "forgets", "()V"⟩
abbrev cX10_spot : ByteArray := prog_12_method_65_code
def yX10_spot : MethodName := ⟨RX10, "spot", "(JJ)I"⟩
abbrev cX10_metAt : ByteArray := prog_12_method_66_code
def yX10_metAt : MethodName := ⟨RX10, "metAt", "(JJ)I"⟩
abbrev cX10_meets : ByteArray := prog_12_method_67_code
def yX10_meets : MethodName := ⟨RX10, "meets", "(JJII)V"⟩
abbrev cX10_seeks : ByteArray := prog_12_method_68_code
def yX10_seeks : MethodName := ⟨RX10, "seeks", "(JJ)I"⟩
abbrev cX10_fewest : ByteArray := prog_12_method_69_code
def yX10_fewest : MethodName := ⟨RX10, "fewest", "(III)I"⟩
abbrev cX10_begins : ByteArray := prog_12_method_70_code
def yX10_begins : MethodName := ⟨RX10, "begins", "(II)V"⟩
abbrev cX10_goes : ByteArray := prog_12_method_71_code
def yX10_goes : MethodName := ⟨RX10, "goes", "(Z)V"⟩
abbrev cX10_becomesMet : ByteArray := prog_12_method_72_code
def yX10_becomesMet : MethodName := ⟨RX10, "becomesMet", "()V"⟩
abbrev cX10_laysReach : ByteArray := prog_12_method_73_code
def yX10_laysReach : MethodName := ⟨RX10, "laysReach", "(I)V"⟩
abbrev cX10_reach : ByteArray := prog_12_method_74_code
def yX10_reach : MethodName := ⟨RX10, "reach", "(I)I"⟩
abbrev cX10_highest : ByteArray := prog_12_method_75_code
def yX10_highest : MethodName := ⟨RX10, "highest", "(II)I"⟩
abbrev cX10_rowsOf : ByteArray := prog_12_method_76_code
def yX10_rowsOf : MethodName := ⟨RX10, "rowsOf", "(I)I"⟩
abbrev cX10_digit : ByteArray := prog_12_method_77_code
def yX10_digit : MethodName := ⟨RX10, "digit", "(III)I"⟩
abbrev cX10_leadsRow : ByteArray := prog_12_method_78_code
def yX10_leadsRow : MethodName := ⟨RX10, "leadsRow", "(II)Z"⟩
abbrev cX10_laysTwins : ByteArray := prog_12_method_79_code
def yX10_laysTwins : MethodName := ⟨RX10, "laysTwins", "()I"⟩
abbrev cX10_twins : ByteArray := prog_12_method_80_code
def yX10_twins : MethodName := ⟨RX10, "twins", "(I)I"⟩
abbrev cX10_inverse : ByteArray := prog_12_method_81_code
def yX10_inverse : MethodName := ⟨RX10, "inverse", "(II)I"⟩
abbrev cX10_restOf : ByteArray := prog_12_method_82_code
def yX10_restOf : MethodName := ⟨RX10, "restOf", "(JJI)I"⟩
abbrev cX10_leadsRest : ByteArray := prog_12_method_83_code
def yX10_leadsRest : MethodName := ⟨RX10, "leadsRest", "(III)I"⟩
abbrev cX10_restsOf : ByteArray := prog_12_method_84_code
def yX10_restsOf : MethodName := ⟨RX10, "restsOf", "(I)I"⟩
abbrev cX10_isNever : ByteArray := prog_12_method_85_code
def yX10_isNever : MethodName := ⟨RX10, "isNever", "(IJJ)Z"⟩
abbrev cX10_never : ByteArray := prog_12_method_86_code
def yX10_never : MethodName := ⟨RX10, "never", "(III)I"⟩
abbrev cX10_shown : ByteArray := prog_12_method_87_code
def yX10_shown : MethodName := ⟨RX10, "shown", "(II)I"⟩
abbrev cX10_rests : ByteArray := prog_12_method_88_code
def yX10_rests : MethodName := ⟨RX10, "rests", "(I)I"⟩
abbrev cX10_laysMeet : ByteArray := prog_12_method_89_code
def yX10_laysMeet : MethodName := ⟨RX10, "laysMeet", "(IIIZ)Z"⟩
abbrev cX10_meet : ByteArray := prog_12_method_90_code
def yX10_meet : MethodName := ⟨RX10, "meet", "(IIZI)I"⟩
abbrev cX10_laysAddress : ByteArray := prog_12_method_91_code
def yX10_laysAddress : MethodName := ⟨RX10, "laysAddress", "(JJ)I"⟩
abbrev cX10_address : ByteArray := prog_12_method_92_code
def yX10_address : MethodName := ⟨RX10, "address", "(III)I"⟩
abbrev cX10_neighbour : ByteArray := prog_12_method_93_code
def yX10_neighbour : MethodName := ⟨RX10, "neighbour", "(IIIZI)I"⟩
abbrev cX10_simplest : ByteArray := prog_12_method_94_code
def yX10_simplest : MethodName := ⟨RX10, "simplest", "(IIIII)I"⟩
abbrev cX10_below : ByteArray := prog_12_method_95_code
def yX10_below : MethodName := ⟨RX10, "below", "(JJI)I"⟩
abbrev cX10_floors : ByteArray := prog_12_method_96_code
def yX10_floors : MethodName := ⟨RX10, "floors", "(I)I"⟩
abbrev cX10_rank : ByteArray := prog_12_method_97_code
def yX10_rank : MethodName := ⟨RX10, "rank", "(III)I"⟩
abbrev cX10_laysParts : ByteArray := prog_12_method_98_code
def yX10_laysParts : MethodName := ⟨RX10, "laysParts", "(JJ)I"⟩
abbrev cX10_parts : ByteArray := prog_12_method_99_code
def yX10_parts : MethodName := ⟨RX10, "parts", "(III)I"⟩
abbrev cX10_laysRent : ByteArray := prog_12_method_100_code
def yX10_laysRent : MethodName := ⟨RX10, "laysRent", "(I)V"⟩
abbrev cX10_rent : ByteArray := prog_12_method_101_code
def yX10_rent : MethodName := ⟨RX10, "rent", "(II)J"⟩
abbrev cX10_rents : ByteArray := prog_12_method_102_code
def yX10_rents : MethodName := ⟨RX10, "rents", "()I"⟩
abbrev cX10_moves : ByteArray := prog_12_method_103_code
def yX10_moves : MethodName := ⟨RX10, "moves", "(III)I"⟩
abbrev cX10_farOf : ByteArray := prog_12_method_104_code
def yX10_farOf : MethodName := ⟨RX10, "farOf", "(IJJJ)J"⟩
abbrev cX10_fairest : ByteArray := prog_12_method_105_code
def yX10_fairest : MethodName := ⟨RX10, "fairest", "(II)J"⟩
abbrev cX10_richest : ByteArray := prog_12_method_106_code
def yX10_richest : MethodName := ⟨RX10, "richest", "()I"⟩
abbrev cX10_goesFit : ByteArray := prog_12_method_107_code
def yX10_goesFit : MethodName := ⟨RX10, "goesFit", "(IIJJ)V"⟩
abbrev cX10_laysFits : ByteArray := prog_12_method_108_code
def yX10_laysFits : MethodName := ⟨RX10, "laysFits", "(IIZ)I"⟩
abbrev cX10_fits : ByteArray := prog_12_method_109_code
def yX10_fits : MethodName := ⟨RX10, "fits", "(II)I"⟩
abbrev cX10_sure : ByteArray := prog_12_method_110_code
def yX10_sure : MethodName := ⟨RX10, "sure", "(II)I"⟩
abbrev cX10_comes : ByteArray := prog_12_method_111_code
def yX10_comes : MethodName := ⟨RX10, "comes", "(JJJ)V"⟩
abbrev cX10_goesOdds : ByteArray := prog_12_method_112_code
def yX10_goesOdds : MethodName := ⟨RX10, "goesOdds", "(IIJJJ)V"⟩
abbrev cX10_noOdds : ByteArray := prog_12_method_113_code
def yX10_noOdds : MethodName := ⟨RX10, "noOdds", "(IZ)I"⟩
abbrev cX10_odds : ByteArray := prog_12_method_114_code
def yX10_odds : MethodName := ⟨RX10, "odds", "(III)J"⟩
abbrev cX10_ends : ByteArray := prog_12_method_115_code
def yX10_ends : MethodName := ⟨RX10, "ends", "(I)I"⟩
abbrev cX10_cut : ByteArray := prog_12_method_116_code
def yX10_cut : MethodName := ⟨RX10, "cut", "(JI)J"⟩
abbrev cX10_numbers : ByteArray := prog_12_method_117_code
def yX10_numbers : MethodName := ⟨RX10, "numbers", "(III)I"⟩
abbrev cX10_write : ByteArray := prog_12_method_118_code
def yX10_write : MethodName := ⟨RX10, "write", "(IIJ)J"⟩
abbrev cX10_copy : ByteArray := prog_12_method_119_code
def yX10_copy : MethodName := ⟨RX10, "copy", "(I)I"⟩
abbrev cX10_image : ByteArray := prog_12_method_120_code
def yX10_image : MethodName := ⟨RX10, "image", "(I)I"⟩
abbrev cX10_restore : ByteArray := prog_12_method_121_code
def yX10_restore : MethodName := ⟨RX10, "restore", "(I)I"⟩
abbrev cX10_count : ByteArray := prog_12_method_122_code
def yX10_count : MethodName := ⟨RX10, "count", "(I)I"⟩
def RJx145de : String := "java/io/Serializable"
def RJx9f9b0 : String := "java/lang/CharSequence"
def RJxb160c : String := "java/lang/Comparable"
def RJ13 : String := "java/lang/Long"
abbrev cJ13_compare_74951 : ByteArray := prog_13_method_42_code
def yJ13_compare_74951 : MethodName := ⟨RJ13, "compare", "(JJ)I"⟩
def RJ9 : String := "java/lang/Math"
abbrev cJ9_abs_067f4 : ByteArray := prog_14_method_61_code
def yJ9_abs_067f4 : MethodName := ⟨RJ9, "abs", "(J)J"⟩
abbrev cJ9_min_7cf53 : ByteArray := prog_14_method_69_code
def yJ9_min_7cf53 : MethodName := ⟨RJ9, "min", "(II)I"⟩
def RJ0 : String := "java/lang/String"
abbrev cJ0_length_8abf5 : ByteArray := prog_15_method_54_code
def yJ0_length_8abf5 : MethodName := ⟨RJ0, "length", "()I"⟩
abbrev cJ0_charAt_5068e : ByteArray := prog_15_method_56_code
def yJ0_charAt_5068e : MethodName := ⟨RJ0, "charAt", "(I)C"⟩
abbrev cJ0_coder_7d493 : ByteArray := prog_15_method_152_code
def yJ0_coder_7d493 : MethodName := ⟨RJ0, "coder", "()B"⟩
abbrev cJ0_isLatin1_aae02 : ByteArray := prog_15_method_154_code
def yJ0_isLatin1_aae02 : MethodName := ⟨RJ0, "isLatin1", "()Z"⟩
abbrev cJ0_checkIndex_df160 : ByteArray := prog_15_method_155_code
def yJ0_checkIndex_df160 : MethodName := ⟨RJ0, "checkIndex", "(II)V"⟩
def RJ1 : String := "java/lang/StringLatin1"
abbrev cJ1_charAt_3b067 : ByteArray := prog_16_method_2_code
def yJ1_charAt_3b067 : MethodName := ⟨RJ1, "charAt", "([BI)C"⟩
def RJ2 : String := "java/lang/StringUTF16"
abbrev cJ2_getChar_3b067 : ByteArray := prog_17_method_5_code
def yJ2_getChar_3b067 : MethodName := ⟨RJ2, "getChar", "([BI)C"⟩
abbrev cJ2_length_9d52b : ByteArray := prog_17_method_6_code
def yJ2_length_9d52b : MethodName := ⟨RJ2, "length", "([B)I"⟩
abbrev cJ2_charAt_3b067 : ByteArray := prog_17_method_83_code
def yJ2_charAt_3b067 : MethodName := ⟨RJ2, "charAt", "([BI)C"⟩
abbrev cJ2_checkIndex_2214a : ByteArray := prog_17_method_91_code
def yJ2_checkIndex_2214a : MethodName := ⟨RJ2, "checkIndex", "(I[B)V"⟩
def RJ10 : String := "java/lang/System"
def RJxfd54e : String := "java/lang/constant/Constable"
def RJx3cf43 : String := "java/lang/constant/ConstantDesc"
def RJ7 : String := "java/util/Arrays"
abbrev cJ7_fill_d0a16 : ByteArray := prog_19_method_101_code
def yJ7_fill_d0a16 : MethodName := ⟨RJ7, "fill", "([JJ)V"⟩
abbrev cJ7_fill_53178 : ByteArray := prog_19_method_103_code
def yJ7_fill_53178 : MethodName := ⟨RJ7, "fill", "([II)V"⟩
def RJ3 : String := "jdk/internal/util/Preconditions"
abbrev cJ3_checkIndex_8e157 : ByteArray := prog_20_method_11_code
def yJ3_checkIndex_8e157 : MethodName := ⟨RJ3, "checkIndex", "(IILjava/util/function/BiFunction;)I"⟩
def RL : String := "FractionLiftLaw"
abbrev cL_law : ByteArray := code
def yL_law : MethodName := ⟨RL, "law", "([I)Z"⟩
abbrev cls : List vw_C := [(RX0, TX0, 18), (RX1, TX1, 7), (RX2, TX2, 2), (RX3, TX3, 14), (RX4, TX4, 5), (RX5, TX5, 7), (RX6, TX6, 6), (RX7, TX7, 3), (RX8, TX8, 8), (RX9, TX9, 18), (RX10, TX10, 55)]
def df0 : List Value := [.int 0, .int 0, .int 0, .int 0, .int 0, .int 0, .int 0, .null, .null, .int 0, .null, .null, .null, .null, .null, .int 0, .null, .null]
def df1 : List Value := [.null, .null, .null, .null, .int 0, .null, .null]
def df2 : List Value := [.long 0, .long 0]
def df3 : List Value := [.null, .int 0, .int 0, .null, .int 0, .int 0, .int 0, .int 0, .int 0, .int 0, .int 0, .null, .int 0, .null]
def df4 : List Value := [.int 0, .int 0, .null, .null, .int 0]
def df5 : List Value := [.null, .null, .null, .int 0, .null, .null, .int 0]
def df6 : List Value := [.int 0, .null, .null, .null, .null, .int 0]
def df7 : List Value := [.int 0, .int 0, .null]
def df8 : List Value := [.int 0, .int 0, .null, .null, .null, .null, .null, .int 0]
def df9 : List Value := [.null, .int 0, .int 0, .int 0, .null, .null, .null, .null, .null, .null, .int 0, .null, .null, .null, .null, .null, .null, .null]
def df10 : List Value := [.int 0, .null, .null, .null, .null, .int 0, .int 0, .int 0, .int 0, .int 0, .int 0, .int 0, .int 0, .int 0, .int 0, .long 0, .long 0, .int 0, .int 0, .null, .null, .int 0, .int 0, .null, .null, .null, .null, .null, .null, .int 0, .null, .null, .null, .int 0, .int 0, .int 0, .null, .null, .null, .int 0, .int 0, .null, .null, .null, .null, .null, .int 0, .int 0, .null, .null, .null, .int 0, .null, .null, .null]
def sOwn (j : Nat) : String := if j = 0 then "FractionLift$Tokens" else if j = 1 then "FractionLift$Tokens" else if j = 2 then "FractionLift$Tokens" else if j = 3 then "FractionLift$Tokens" else if j = 4 then "FractionLift$Tokens" else if j = 5 then "FractionLift$Tokens" else if j = 6 then "FractionLift$Tokens" else if j = 7 then "FractionLift$Tokens" else if j = 8 then "FractionLiftModel" else "FractionLiftModel"
def sIdx (j : Nat) : Nat := if j = 0 then 67 else if j = 1 then 73 else if j = 2 then 75 else if j = 3 then 77 else if j = 4 then 79 else if j = 5 then 81 else if j = 6 then 83 else if j = 7 then 85 else if j = 8 then 116 else 154
def sTxt (j : Nat) : String := if j = 0 then "x" else if j = 1 then "top" else if j = 2 then "button" else if j = 3 then "floor" else if j = 4 then "has" else if j = 5 then "tenant" else if j = 6 then "at" else if j = 7 then "stick" else if j = 8 then " top button floor has tenant at stick x " else ";:+-*/()"
def sLen : List Nat := [1, 3, 6, 5, 3, 6, 2, 5, 40, 8]
def sByt : List (List Int32) := [[120], [116, 111, 112], [98, 117, 116, 116, 111, 110], [102, 108, 111, 111, 114], [104, 97, 115], [116, 101, 110, 97, 110, 116], [97, 116], [115, 116, 105, 99, 107], [32, 116, 111, 112, 32, 98, 117, 116, 116, 111, 110, 32, 102, 108, 111, 111, 114, 32, 104, 97, 115, 32, 116, 101, 110, 97, 110, 116, 32, 97, 116, 32, 115, 116, 105, 99, 107, 32, 120, 32], [59, 58, 43, 45, 42, 47, 40, 41]]
