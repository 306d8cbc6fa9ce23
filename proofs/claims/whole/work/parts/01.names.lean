-- ===== PART A: goes FIRST, ahead of the names: the tables' words, and 'selects' of the private methods out of them =====
/-- a private method of a class that the tables say can be made, by its rows of tables_1 -/
def lw_okq (q : MethodName × Nat) : Prop := (q.1.cls ≠ "java/lang/invoke/MethodHandle" ∧ q.1.cls ≠ "java/lang/invoke/VarHandle") ∧ Cond.instantiable q.1.cls q.2 ∈ tables_1 ∧ Cond.privateMethod q.1 ∈ tables_1 ∧ Cond.instanceMethod q.1 ∈ tables_1
theorem lw_p0 : lw_okq (⟨"SpanningTreeProtocol$Network", "resetPort", "(I)V"⟩, 19) := ⟨⟨by decide +kernel, by decide +kernel⟩, List.mem_of_getElem? (i := 20) (by decide +kernel), List.mem_of_getElem? (i := 304) (by decide +kernel), List.mem_of_getElem? (i := 305) (by decide +kernel)⟩
theorem lw_p1 : lw_okq (⟨"SpanningTreeProtocol$Network", "forgetEntriesWith", "(I)V"⟩, 19) := ⟨⟨by decide +kernel, by decide +kernel⟩, List.mem_of_getElem? (i := 20) (by decide +kernel), List.mem_of_getElem? (i := 312) (by decide +kernel), List.mem_of_getElem? (i := 313) (by decide +kernel)⟩
theorem lw_p2 : lw_okq (⟨"SpanningTreeProtocol$Election", "findBestOffers", "()V"⟩, 7) := ⟨⟨by decide +kernel, by decide +kernel⟩, List.mem_of_getElem? (i := 123) (by decide +kernel), List.mem_of_getElem? (i := 340) (by decide +kernel), List.mem_of_getElem? (i := 341) (by decide +kernel)⟩
theorem lw_p3 : lw_okq (⟨"SpanningTreeProtocol$Election", "hasOffer", "(I)Z"⟩, 7) := ⟨⟨by decide +kernel, by decide +kernel⟩, List.mem_of_getElem? (i := 123) (by decide +kernel), List.mem_of_getElem? (i := 344) (by decide +kernel), List.mem_of_getElem? (i := 345) (by decide +kernel)⟩
theorem lw_p4 : lw_okq (⟨"SpanningTreeProtocol$Election", "isFromOwnBridge", "(I)Z"⟩, 7) := ⟨⟨by decide +kernel, by decide +kernel⟩, List.mem_of_getElem? (i := 123) (by decide +kernel), List.mem_of_getElem? (i := 353) (by decide +kernel), List.mem_of_getElem? (i := 354) (by decide +kernel)⟩
theorem lw_p5 : lw_okq (⟨"SpanningTreeProtocol$Election", "considerOffer", "(I)V"⟩, 7) := ⟨⟨by decide +kernel, by decide +kernel⟩, List.mem_of_getElem? (i := 123) (by decide +kernel), List.mem_of_getElem? (i := 365) (by decide +kernel), List.mem_of_getElem? (i := 366) (by decide +kernel)⟩
theorem lw_p6 : lw_okq (⟨"SpanningTreeProtocol$Election", "chooseRoot", "(I)V"⟩, 7) := ⟨⟨by decide +kernel, by decide +kernel⟩, List.mem_of_getElem? (i := 123) (by decide +kernel), List.mem_of_getElem? (i := 372) (by decide +kernel), List.mem_of_getElem? (i := 373) (by decide +kernel)⟩
theorem lw_p7 : lw_okq (⟨"SpanningTreeProtocol$Election", "roleFor", "(I)I"⟩, 7) := ⟨⟨by decide +kernel, by decide +kernel⟩, List.mem_of_getElem? (i := 123) (by decide +kernel), List.mem_of_getElem? (i := 383) (by decide +kernel), List.mem_of_getElem? (i := 384) (by decide +kernel)⟩
theorem lw_p8 : lw_okq (⟨"SpanningTreeProtocol$Ticker", "sendMessages", "()V"⟩, 6) := ⟨⟨by decide +kernel, by decide +kernel⟩, List.mem_of_getElem? (i := 157) (by decide +kernel), List.mem_of_getElem? (i := 398) (by decide +kernel), List.mem_of_getElem? (i := 399) (by decide +kernel)⟩
theorem lw_p9 : lw_okq (⟨"SpanningTreeProtocol$Ticker", "ageToSend", "(I)I"⟩, 6) := ⟨⟨by decide +kernel, by decide +kernel⟩, List.mem_of_getElem? (i := 157) (by decide +kernel), List.mem_of_getElem? (i := 402) (by decide +kernel), List.mem_of_getElem? (i := 403) (by decide +kernel)⟩
theorem lw_p10 : lw_okq (⟨"SpanningTreeProtocol$Ticker", "rankSender", "(I)V"⟩, 6) := ⟨⟨by decide +kernel, by decide +kernel⟩, List.mem_of_getElem? (i := 157) (by decide +kernel), List.mem_of_getElem? (i := 407) (by decide +kernel), List.mem_of_getElem? (i := 408) (by decide +kernel)⟩
theorem lw_p11 : lw_okq (⟨"SpanningTreeProtocol$Ticker", "isBetterSender", "(II)Z"⟩, 6) := ⟨⟨by decide +kernel, by decide +kernel⟩, List.mem_of_getElem? (i := 157) (by decide +kernel), List.mem_of_getElem? (i := 411) (by decide +kernel), List.mem_of_getElem? (i := 412) (by decide +kernel)⟩
theorem lw_p12 : lw_okq (⟨"SpanningTreeProtocol$Ticker", "takesMessage", "(I)Z"⟩, 6) := ⟨⟨by decide +kernel, by decide +kernel⟩, List.mem_of_getElem? (i := 157) (by decide +kernel), List.mem_of_getElem? (i := 415) (by decide +kernel), List.mem_of_getElem? (i := 416) (by decide +kernel)⟩
theorem lw_p13 : lw_okq (⟨"SpanningTreeProtocol$Ticker", "accepts", "(IJ)Z"⟩, 6) := ⟨⟨by decide +kernel, by decide +kernel⟩, List.mem_of_getElem? (i := 157) (by decide +kernel), List.mem_of_getElem? (i := 420) (by decide +kernel), List.mem_of_getElem? (i := 421) (by decide +kernel)⟩
theorem lw_p14 : lw_okq (⟨"SpanningTreeProtocol$Ticker", "moveStates", "()Z"⟩, 6) := ⟨⟨by decide +kernel, by decide +kernel⟩, List.mem_of_getElem? (i := 157) (by decide +kernel), List.mem_of_getElem? (i := 434) (by decide +kernel), List.mem_of_getElem? (i := 435) (by decide +kernel)⟩
theorem lw_p15 : lw_okq (⟨"SpanningTreeProtocol$Ticker", "moveState", "(II)V"⟩, 6) := ⟨⟨by decide +kernel, by decide +kernel⟩, List.mem_of_getElem? (i := 157) (by decide +kernel), List.mem_of_getElem? (i := 438) (by decide +kernel), List.mem_of_getElem? (i := 439) (by decide +kernel)⟩
def lw_privs_1 : List (MethodName × Nat) := [(⟨"SpanningTreeProtocol$Network", "resetPort", "(I)V"⟩, 19), (⟨"SpanningTreeProtocol$Network", "forgetEntriesWith", "(I)V"⟩, 19), (⟨"SpanningTreeProtocol$Election", "findBestOffers", "()V"⟩, 7), (⟨"SpanningTreeProtocol$Election", "hasOffer", "(I)Z"⟩, 7), (⟨"SpanningTreeProtocol$Election", "isFromOwnBridge", "(I)Z"⟩, 7), (⟨"SpanningTreeProtocol$Election", "considerOffer", "(I)V"⟩, 7), (⟨"SpanningTreeProtocol$Election", "chooseRoot", "(I)V"⟩, 7), (⟨"SpanningTreeProtocol$Election", "roleFor", "(I)I"⟩, 7), (⟨"SpanningTreeProtocol$Ticker", "sendMessages", "()V"⟩, 6), (⟨"SpanningTreeProtocol$Ticker", "ageToSend", "(I)I"⟩, 6), (⟨"SpanningTreeProtocol$Ticker", "rankSender", "(I)V"⟩, 6), (⟨"SpanningTreeProtocol$Ticker", "isBetterSender", "(II)Z"⟩, 6), (⟨"SpanningTreeProtocol$Ticker", "takesMessage", "(I)Z"⟩, 6), (⟨"SpanningTreeProtocol$Ticker", "accepts", "(IJ)Z"⟩, 6), (⟨"SpanningTreeProtocol$Ticker", "moveStates", "()Z"⟩, 6), (⟨"SpanningTreeProtocol$Ticker", "moveState", "(II)V"⟩, 6)]
theorem lw_r1 : ∀ q ∈ lw_privs_1, lw_okq q := List.forall_mem_cons.mpr ⟨lw_p0, List.forall_mem_cons.mpr ⟨lw_p1, List.forall_mem_cons.mpr ⟨lw_p2, List.forall_mem_cons.mpr ⟨lw_p3, List.forall_mem_cons.mpr ⟨lw_p4, List.forall_mem_cons.mpr ⟨lw_p5, List.forall_mem_cons.mpr ⟨lw_p6, List.forall_mem_cons.mpr ⟨lw_p7, List.forall_mem_cons.mpr ⟨lw_p8, List.forall_mem_cons.mpr ⟨lw_p9, List.forall_mem_cons.mpr ⟨lw_p10, List.forall_mem_cons.mpr ⟨lw_p11, List.forall_mem_cons.mpr ⟨lw_p12, List.forall_mem_cons.mpr ⟨lw_p13, List.forall_mem_cons.mpr ⟨lw_p14, List.forall_mem_cons.mpr ⟨lw_p15, fun _ h => absurd h List.not_mem_nil⟩⟩⟩⟩⟩⟩⟩⟩⟩⟩⟩⟩⟩⟩⟩⟩
theorem lw_p16 : lw_okq (⟨"SpanningTreeProtocol$Ticker", "enterState", "(III)V"⟩, 6) := ⟨⟨by decide +kernel, by decide +kernel⟩, List.mem_of_getElem? (i := 157) (by decide +kernel), List.mem_of_getElem? (i := 442) (by decide +kernel), List.mem_of_getElem? (i := 443) (by decide +kernel)⟩
theorem lw_p17 : lw_okq (⟨"SpanningTreeProtocol$Ticker", "moveTowardsForwarding", "(I)V"⟩, 6) := ⟨⟨by decide +kernel, by decide +kernel⟩, List.mem_of_getElem? (i := 157) (by decide +kernel), List.mem_of_getElem? (i := 446) (by decide +kernel), List.mem_of_getElem? (i := 447) (by decide +kernel)⟩
theorem lw_p18 : lw_okq (⟨"SpanningTreeProtocol$Topology", "countVertices", "()I"⟩, 2) := ⟨⟨by decide +kernel, by decide +kernel⟩, List.mem_of_getElem? (i := 201) (by decide +kernel), List.mem_of_getElem? (i := 507) (by decide +kernel), List.mem_of_getElem? (i := 508) (by decide +kernel)⟩
theorem lw_p19 : lw_okq (⟨"SpanningTreeProtocol$Topology", "join", "(I)Z"⟩, 2) := ⟨⟨by decide +kernel, by decide +kernel⟩, List.mem_of_getElem? (i := 201) (by decide +kernel), List.mem_of_getElem? (i := 516) (by decide +kernel), List.mem_of_getElem? (i := 517) (by decide +kernel)⟩
theorem lw_p20 : lw_okq (⟨"SpanningTreeProtocol$Frame", "transmit", "(II)V"⟩, 4) := ⟨⟨by decide +kernel, by decide +kernel⟩, List.mem_of_getElem? (i := 182) (by decide +kernel), List.mem_of_getElem? (i := 537) (by decide +kernel), List.mem_of_getElem? (i := 538) (by decide +kernel)⟩
theorem lw_p21 : lw_okq (⟨"SpanningTreeProtocol$Frame", "visitPorts", "(IIII)V"⟩, 4) := ⟨⟨by decide +kernel, by decide +kernel⟩, List.mem_of_getElem? (i := 182) (by decide +kernel), List.mem_of_getElem? (i := 541) (by decide +kernel), List.mem_of_getElem? (i := 542) (by decide +kernel)⟩
theorem lw_p22 : lw_okq (⟨"SpanningTreeProtocol$Frame", "visitPort", "(III)V"⟩, 4) := ⟨⟨by decide +kernel, by decide +kernel⟩, List.mem_of_getElem? (i := 182) (by decide +kernel), List.mem_of_getElem? (i := 546) (by decide +kernel), List.mem_of_getElem? (i := 547) (by decide +kernel)⟩
theorem lw_p23 : lw_okq (⟨"SpanningTreeProtocol$Frame", "passOn", "(II)V"⟩, 4) := ⟨⟨by decide +kernel, by decide +kernel⟩, List.mem_of_getElem? (i := 182) (by decide +kernel), List.mem_of_getElem? (i := 557) (by decide +kernel), List.mem_of_getElem? (i := 558) (by decide +kernel)⟩
theorem lw_p24 : lw_okq (⟨"SpanningTreeProtocol$Frame", "flood", "(II)V"⟩, 4) := ⟨⟨by decide +kernel, by decide +kernel⟩, List.mem_of_getElem? (i := 182) (by decide +kernel), List.mem_of_getElem? (i := 566) (by decide +kernel), List.mem_of_getElem? (i := 567) (by decide +kernel)⟩
theorem lw_p25 : lw_okq (⟨"SpanningTreeProtocolModel", "isBridge", "(I)Z"⟩, 16) := ⟨⟨by decide +kernel, by decide +kernel⟩, List.mem_of_getElem? (i := 607) (by decide +kernel), List.mem_of_getElem? (i := 678) (by decide +kernel), List.mem_of_getElem? (i := 679) (by decide +kernel)⟩
theorem lw_p26 : lw_okq (⟨"SpanningTreeProtocolModel", "isSegment", "(I)Z"⟩, 16) := ⟨⟨by decide +kernel, by decide +kernel⟩, List.mem_of_getElem? (i := 607) (by decide +kernel), List.mem_of_getElem? (i := 682) (by decide +kernel), List.mem_of_getElem? (i := 683) (by decide +kernel)⟩
theorem lw_p27 : lw_okq (⟨"SpanningTreeProtocolModel", "ports", "()I"⟩, 16) := ⟨⟨by decide +kernel, by decide +kernel⟩, List.mem_of_getElem? (i := 607) (by decide +kernel), List.mem_of_getElem? (i := 686) (by decide +kernel), List.mem_of_getElem? (i := 687) (by decide +kernel)⟩
theorem lw_p28 : lw_okq (⟨"SpanningTreeProtocolModel", "isActive", "(I)Z"⟩, 16) := ⟨⟨by decide +kernel, by decide +kernel⟩, List.mem_of_getElem? (i := 607) (by decide +kernel), List.mem_of_getElem? (i := 690) (by decide +kernel), List.mem_of_getElem? (i := 691) (by decide +kernel)⟩
theorem lw_p29 : lw_okq (⟨"SpanningTreeProtocolModel", "bridgeOf", "(I)I"⟩, 16) := ⟨⟨by decide +kernel, by decide +kernel⟩, List.mem_of_getElem? (i := 607) (by decide +kernel), List.mem_of_getElem? (i := 694) (by decide +kernel), List.mem_of_getElem? (i := 695) (by decide +kernel)⟩
theorem lw_p30 : lw_okq (⟨"SpanningTreeProtocolModel", "set", "(II)I"⟩, 16) := ⟨⟨by decide +kernel, by decide +kernel⟩, List.mem_of_getElem? (i := 607) (by decide +kernel), List.mem_of_getElem? (i := 706) (by decide +kernel), List.mem_of_getElem? (i := 707) (by decide +kernel)⟩
theorem lw_p31 : lw_okq (⟨"SpanningTreeProtocolModel", "isPort", "(I)Z"⟩, 16) := ⟨⟨by decide +kernel, by decide +kernel⟩, List.mem_of_getElem? (i := 607) (by decide +kernel), List.mem_of_getElem? (i := 714) (by decide +kernel), List.mem_of_getElem? (i := 715) (by decide +kernel)⟩
def lw_privs_2 : List (MethodName × Nat) := [(⟨"SpanningTreeProtocol$Ticker", "enterState", "(III)V"⟩, 6), (⟨"SpanningTreeProtocol$Ticker", "moveTowardsForwarding", "(I)V"⟩, 6), (⟨"SpanningTreeProtocol$Topology", "countVertices", "()I"⟩, 2), (⟨"SpanningTreeProtocol$Topology", "join", "(I)Z"⟩, 2), (⟨"SpanningTreeProtocol$Frame", "transmit", "(II)V"⟩, 4), (⟨"SpanningTreeProtocol$Frame", "visitPorts", "(IIII)V"⟩, 4), (⟨"SpanningTreeProtocol$Frame", "visitPort", "(III)V"⟩, 4), (⟨"SpanningTreeProtocol$Frame", "passOn", "(II)V"⟩, 4), (⟨"SpanningTreeProtocol$Frame", "flood", "(II)V"⟩, 4), (⟨"SpanningTreeProtocolModel", "isBridge", "(I)Z"⟩, 16), (⟨"SpanningTreeProtocolModel", "isSegment", "(I)Z"⟩, 16), (⟨"SpanningTreeProtocolModel", "ports", "()I"⟩, 16), (⟨"SpanningTreeProtocolModel", "isActive", "(I)Z"⟩, 16), (⟨"SpanningTreeProtocolModel", "bridgeOf", "(I)I"⟩, 16), (⟨"SpanningTreeProtocolModel", "set", "(II)I"⟩, 16), (⟨"SpanningTreeProtocolModel", "isPort", "(I)Z"⟩, 16)]
theorem lw_r2 : ∀ q ∈ lw_privs_2, lw_okq q := List.forall_mem_cons.mpr ⟨lw_p16, List.forall_mem_cons.mpr ⟨lw_p17, List.forall_mem_cons.mpr ⟨lw_p18, List.forall_mem_cons.mpr ⟨lw_p19, List.forall_mem_cons.mpr ⟨lw_p20, List.forall_mem_cons.mpr ⟨lw_p21, List.forall_mem_cons.mpr ⟨lw_p22, List.forall_mem_cons.mpr ⟨lw_p23, List.forall_mem_cons.mpr ⟨lw_p24, List.forall_mem_cons.mpr ⟨lw_p25, List.forall_mem_cons.mpr ⟨lw_p26, List.forall_mem_cons.mpr ⟨lw_p27, List.forall_mem_cons.mpr ⟨lw_p28, List.forall_mem_cons.mpr ⟨lw_p29, List.forall_mem_cons.mpr ⟨lw_p30, List.forall_mem_cons.mpr ⟨lw_p31, fun _ h => absurd h List.not_mem_nil⟩⟩⟩⟩⟩⟩⟩⟩⟩⟩⟩⟩⟩⟩⟩⟩
theorem lw_p32 : lw_okq (⟨"SpanningTreeProtocolModel", "turnAll", "(IZ)I"⟩, 16) := ⟨⟨by decide +kernel, by decide +kernel⟩, List.mem_of_getElem? (i := 607) (by decide +kernel), List.mem_of_getElem? (i := 722) (by decide +kernel), List.mem_of_getElem? (i := 723) (by decide +kernel)⟩
theorem lw_p33 : lw_okq (⟨"SpanningTreeProtocolModel", "turn", "(IZ)V"⟩, 16) := ⟨⟨by decide +kernel, by decide +kernel⟩, List.mem_of_getElem? (i := 607) (by decide +kernel), List.mem_of_getElem? (i := 726) (by decide +kernel), List.mem_of_getElem? (i := 727) (by decide +kernel)⟩
theorem lw_p34 : lw_okq (⟨"SpanningTreeProtocolModel", "isStation", "(I)Z"⟩, 16) := ⟨⟨by decide +kernel, by decide +kernel⟩, List.mem_of_getElem? (i := 607) (by decide +kernel), List.mem_of_getElem? (i := 738) (by decide +kernel), List.mem_of_getElem? (i := 739) (by decide +kernel)⟩
theorem lw_p35 : lw_okq (⟨"SpanningTreeProtocolModel", "tickOnce", "()Z"⟩, 16) := ⟨⟨by decide +kernel, by decide +kernel⟩, List.mem_of_getElem? (i := 607) (by decide +kernel), List.mem_of_getElem? (i := 746) (by decide +kernel), List.mem_of_getElem? (i := 747) (by decide +kernel)⟩
theorem lw_p36 : lw_okq (⟨"SpanningTreeProtocolModel", "layRoles", "()V"⟩, 16) := ⟨⟨by decide +kernel, by decide +kernel⟩, List.mem_of_getElem? (i := 607) (by decide +kernel), List.mem_of_getElem? (i := 750) (by decide +kernel), List.mem_of_getElem? (i := 751) (by decide +kernel)⟩
theorem lw_p37 : lw_okq (⟨"SpanningTreeProtocolModel", "layRoot", "(I)V"⟩, 16) := ⟨⟨by decide +kernel, by decide +kernel⟩, List.mem_of_getElem? (i := 607) (by decide +kernel), List.mem_of_getElem? (i := 754) (by decide +kernel), List.mem_of_getElem? (i := 755) (by decide +kernel)⟩
theorem lw_p38 : lw_okq (⟨"SpanningTreeProtocolModel", "stores", "(I)Z"⟩, 16) := ⟨⟨by decide +kernel, by decide +kernel⟩, List.mem_of_getElem? (i := 607) (by decide +kernel), List.mem_of_getElem? (i := 758) (by decide +kernel), List.mem_of_getElem? (i := 759) (by decide +kernel)⟩
theorem lw_p39 : lw_okq (⟨"SpanningTreeProtocolModel", "message", "(II)I"⟩, 16) := ⟨⟨by decide +kernel, by decide +kernel⟩, List.mem_of_getElem? (i := 607) (by decide +kernel), List.mem_of_getElem? (i := 762) (by decide +kernel), List.mem_of_getElem? (i := 763) (by decide +kernel)⟩
theorem lw_p40 : lw_okq (⟨"SpanningTreeProtocolModel", "idOf", "(I)I"⟩, 16) := ⟨⟨by decide +kernel, by decide +kernel⟩, List.mem_of_getElem? (i := 607) (by decide +kernel), List.mem_of_getElem? (i := 766) (by decide +kernel), List.mem_of_getElem? (i := 767) (by decide +kernel)⟩
theorem lw_p41 : lw_okq (⟨"SpanningTreeProtocolModel", "isBetterOffer", "(II)Z"⟩, 16) := ⟨⟨by decide +kernel, by decide +kernel⟩, List.mem_of_getElem? (i := 607) (by decide +kernel), List.mem_of_getElem? (i := 770) (by decide +kernel), List.mem_of_getElem? (i := 771) (by decide +kernel)⟩
theorem lw_p42 : lw_okq (⟨"SpanningTreeProtocolModel", "roleOf", "(I)I"⟩, 16) := ⟨⟨by decide +kernel, by decide +kernel⟩, List.mem_of_getElem? (i := 607) (by decide +kernel), List.mem_of_getElem? (i := 774) (by decide +kernel), List.mem_of_getElem? (i := 775) (by decide +kernel)⟩
theorem lw_p43 : lw_okq (⟨"SpanningTreeProtocolModel", "isOwnBetter", "(I)Z"⟩, 16) := ⟨⟨by decide +kernel, by decide +kernel⟩, List.mem_of_getElem? (i := 607) (by decide +kernel), List.mem_of_getElem? (i := 778) (by decide +kernel), List.mem_of_getElem? (i := 779) (by decide +kernel)⟩
theorem lw_p44 : lw_okq (⟨"SpanningTreeProtocolModel", "sendAll", "()V"⟩, 16) := ⟨⟨by decide +kernel, by decide +kernel⟩, List.mem_of_getElem? (i := 607) (by decide +kernel), List.mem_of_getElem? (i := 785) (by decide +kernel), List.mem_of_getElem? (i := 786) (by decide +kernel)⟩
theorem lw_p45 : lw_okq (⟨"SpanningTreeProtocolModel", "hear", "(I)V"⟩, 16) := ⟨⟨by decide +kernel, by decide +kernel⟩, List.mem_of_getElem? (i := 607) (by decide +kernel), List.mem_of_getElem? (i := 789) (by decide +kernel), List.mem_of_getElem? (i := 790) (by decide +kernel)⟩
theorem lw_p46 : lw_okq (⟨"SpanningTreeProtocolModel", "heardBy", "(I)I"⟩, 16) := ⟨⟨by decide +kernel, by decide +kernel⟩, List.mem_of_getElem? (i := 607) (by decide +kernel), List.mem_of_getElem? (i := 793) (by decide +kernel), List.mem_of_getElem? (i := 794) (by decide +kernel)⟩
theorem lw_p47 : lw_okq (⟨"SpanningTreeProtocolModel", "isBetterSent", "(II)Z"⟩, 16) := ⟨⟨by decide +kernel, by decide +kernel⟩, List.mem_of_getElem? (i := 607) (by decide +kernel), List.mem_of_getElem? (i := 797) (by decide +kernel), List.mem_of_getElem? (i := 798) (by decide +kernel)⟩
def lw_privs_3 : List (MethodName × Nat) := [(⟨"SpanningTreeProtocolModel", "turnAll", "(IZ)I"⟩, 16), (⟨"SpanningTreeProtocolModel", "turn", "(IZ)V"⟩, 16), (⟨"SpanningTreeProtocolModel", "isStation", "(I)Z"⟩, 16), (⟨"SpanningTreeProtocolModel", "tickOnce", "()Z"⟩, 16), (⟨"SpanningTreeProtocolModel", "layRoles", "()V"⟩, 16), (⟨"SpanningTreeProtocolModel", "layRoot", "(I)V"⟩, 16), (⟨"SpanningTreeProtocolModel", "stores", "(I)Z"⟩, 16), (⟨"SpanningTreeProtocolModel", "message", "(II)I"⟩, 16), (⟨"SpanningTreeProtocolModel", "idOf", "(I)I"⟩, 16), (⟨"SpanningTreeProtocolModel", "isBetterOffer", "(II)Z"⟩, 16), (⟨"SpanningTreeProtocolModel", "roleOf", "(I)I"⟩, 16), (⟨"SpanningTreeProtocolModel", "isOwnBetter", "(I)Z"⟩, 16), (⟨"SpanningTreeProtocolModel", "sendAll", "()V"⟩, 16), (⟨"SpanningTreeProtocolModel", "hear", "(I)V"⟩, 16), (⟨"SpanningTreeProtocolModel", "heardBy", "(I)I"⟩, 16), (⟨"SpanningTreeProtocolModel", "isBetterSent", "(II)Z"⟩, 16)]
theorem lw_r3 : ∀ q ∈ lw_privs_3, lw_okq q := List.forall_mem_cons.mpr ⟨lw_p32, List.forall_mem_cons.mpr ⟨lw_p33, List.forall_mem_cons.mpr ⟨lw_p34, List.forall_mem_cons.mpr ⟨lw_p35, List.forall_mem_cons.mpr ⟨lw_p36, List.forall_mem_cons.mpr ⟨lw_p37, List.forall_mem_cons.mpr ⟨lw_p38, List.forall_mem_cons.mpr ⟨lw_p39, List.forall_mem_cons.mpr ⟨lw_p40, List.forall_mem_cons.mpr ⟨lw_p41, List.forall_mem_cons.mpr ⟨lw_p42, List.forall_mem_cons.mpr ⟨lw_p43, List.forall_mem_cons.mpr ⟨lw_p44, List.forall_mem_cons.mpr ⟨lw_p45, List.forall_mem_cons.mpr ⟨lw_p46, List.forall_mem_cons.mpr ⟨lw_p47, fun _ h => absurd h List.not_mem_nil⟩⟩⟩⟩⟩⟩⟩⟩⟩⟩⟩⟩⟩⟩⟩⟩
theorem lw_p48 : lw_okq (⟨"SpanningTreeProtocolModel", "goOn", "(I)V"⟩, 16) := ⟨⟨by decide +kernel, by decide +kernel⟩, List.mem_of_getElem? (i := 607) (by decide +kernel), List.mem_of_getElem? (i := 801) (by decide +kernel), List.mem_of_getElem? (i := 802) (by decide +kernel)⟩
theorem lw_p49 : lw_okq (⟨"SpanningTreeProtocolModel", "isUp", "(I)Z"⟩, 16) := ⟨⟨by decide +kernel, by decide +kernel⟩, List.mem_of_getElem? (i := 607) (by decide +kernel), List.mem_of_getElem? (i := 817) (by decide +kernel), List.mem_of_getElem? (i := 818) (by decide +kernel)⟩
theorem lw_p50 : lw_okq (⟨"SpanningTreeProtocolModel", "joinAll", "()I"⟩, 16) := ⟨⟨by decide +kernel, by decide +kernel⟩, List.mem_of_getElem? (i := 607) (by decide +kernel), List.mem_of_getElem? (i := 849) (by decide +kernel), List.mem_of_getElem? (i := 850) (by decide +kernel)⟩
theorem lw_p51 : lw_okq (⟨"SpanningTreeProtocolModel", "partsNow", "()I"⟩, 16) := ⟨⟨by decide +kernel, by decide +kernel⟩, List.mem_of_getElem? (i := 607) (by decide +kernel), List.mem_of_getElem? (i := 853) (by decide +kernel), List.mem_of_getElem? (i := 854) (by decide +kernel)⟩
theorem lw_p52 : lw_okq (⟨"SpanningTreeProtocolModel", "isVertex", "(I)Z"⟩, 16) := ⟨⟨by decide +kernel, by decide +kernel⟩, List.mem_of_getElem? (i := 607) (by decide +kernel), List.mem_of_getElem? (i := 857) (by decide +kernel), List.mem_of_getElem? (i := 858) (by decide +kernel)⟩
theorem lw_p53 : lw_okq (⟨"SpanningTreeProtocolModel", "vertices", "()I"⟩, 16) := ⟨⟨by decide +kernel, by decide +kernel⟩, List.mem_of_getElem? (i := 607) (by decide +kernel), List.mem_of_getElem? (i := 865) (by decide +kernel), List.mem_of_getElem? (i := 866) (by decide +kernel)⟩
theorem lw_p54 : lw_okq (⟨"SpanningTreeProtocolModel", "transmit", "(II)V"⟩, 16) := ⟨⟨by decide +kernel, by decide +kernel⟩, List.mem_of_getElem? (i := 607) (by decide +kernel), List.mem_of_getElem? (i := 873) (by decide +kernel), List.mem_of_getElem? (i := 874) (by decide +kernel)⟩
theorem lw_p55 : lw_okq (⟨"SpanningTreeProtocolModel", "receive", "(III)V"⟩, 16) := ⟨⟨by decide +kernel, by decide +kernel⟩, List.mem_of_getElem? (i := 607) (by decide +kernel), List.mem_of_getElem? (i := 877) (by decide +kernel), List.mem_of_getElem? (i := 878) (by decide +kernel)⟩
def lw_privs_4 : List (MethodName × Nat) := [(⟨"SpanningTreeProtocolModel", "goOn", "(I)V"⟩, 16), (⟨"SpanningTreeProtocolModel", "isUp", "(I)Z"⟩, 16), (⟨"SpanningTreeProtocolModel", "joinAll", "()I"⟩, 16), (⟨"SpanningTreeProtocolModel", "partsNow", "()I"⟩, 16), (⟨"SpanningTreeProtocolModel", "isVertex", "(I)Z"⟩, 16), (⟨"SpanningTreeProtocolModel", "vertices", "()I"⟩, 16), (⟨"SpanningTreeProtocolModel", "transmit", "(II)V"⟩, 16), (⟨"SpanningTreeProtocolModel", "receive", "(III)V"⟩, 16)]
theorem lw_r4 : ∀ q ∈ lw_privs_4, lw_okq q := List.forall_mem_cons.mpr ⟨lw_p48, List.forall_mem_cons.mpr ⟨lw_p49, List.forall_mem_cons.mpr ⟨lw_p50, List.forall_mem_cons.mpr ⟨lw_p51, List.forall_mem_cons.mpr ⟨lw_p52, List.forall_mem_cons.mpr ⟨lw_p53, List.forall_mem_cons.mpr ⟨lw_p54, List.forall_mem_cons.mpr ⟨lw_p55, fun _ h => absurd h List.not_mem_nil⟩⟩⟩⟩⟩⟩⟩⟩
def lw_privs : List (MethodName × Nat) := lw_privs_1 ++ (lw_privs_2 ++ (lw_privs_3 ++ (lw_privs_4)))
def lw_tbl : List Cond := k2_sels lw_privs ++ tables_1
theorem lw_privs_ok : ∀ q ∈ lw_privs, lw_okq q := by
  show ∀ q ∈ lw_privs_1 ++ (lw_privs_2 ++ (lw_privs_3 ++ (lw_privs_4))), lw_okq q
  exact List.forall_mem_append.mpr ⟨lw_r1, List.forall_mem_append.mpr ⟨lw_r2, List.forall_mem_append.mpr ⟨lw_r3, lw_r4⟩⟩⟩
def RX0 : String := "SpanningTreeProtocol$Election"
def TX0 : u_T := fun k => match k with
  | 0 => ("SpanningTreeProtocol$Election", "net", "LSpanningTreeProtocol$Network;", true)
  | 1 => ("SpanningTreeProtocol$Election", "bridgeRoot", "[I", true)
  | 2 => ("SpanningTreeProtocol$Election", "bridgeRootCost", "[I", true)
  | 3 => ("SpanningTreeProtocol$Election", "bridgeRootPort", "[I", true)
  | 4 => ("SpanningTreeProtocol$Election", "portRole", "[I", true)
  | 5 => ("SpanningTreeProtocol$Election", "bestOffer", "[J", true)
  | _ => ("SpanningTreeProtocol$Election", "bestOfferPort", "[I", true)
def tyX0 : Nat → FieldType := fun k => match k with
  | 0 => .object "SpanningTreeProtocol$Network"
  | 1 => .array .int
  | 2 => .array .int
  | 3 => .array .int
  | 4 => .array .int
  | 5 => .array .long
  | _ => .array .int
abbrev wsX00 : List Cond := u_ws RX0 TX0 7
theorem nmX0 : ∀ a, a < 7 → ∀ b, b < 7 → a ≠ b → (TX0 a).2.1 ≠ (TX0 b).2.1 := by decide +kernel
theorem tyX0_ok : ∀ k, k < 7 → parseFieldDescriptor (TX0 k).2.2.1 = some (tyX0 k) := by decide +kernel
abbrev cX0_init : ByteArray := prog_2_method_1_code
def yX0_init : MethodName := ⟨RX0, "<init>", "(LSpanningTreeProtocol$Network;)V"⟩
abbrev cX0_elect : ByteArray := prog_2_method_2_code
def yX0_elect : MethodName := ⟨RX0, "elect", "()Z"⟩
abbrev cX0_findBestOffers : ByteArray := prog_2_method_3_code
def yX0_findBestOffers : MethodName := ⟨RX0, "findBestOffers", "()V"⟩
abbrev cX0_hasOffer : ByteArray := prog_2_method_4_code
def yX0_hasOffer : MethodName := ⟨RX0, "hasOffer", "(I)Z"⟩
abbrev cX0_isFromOwnBridge : ByteArray := prog_2_method_5_code
def yX0_isFromOwnBridge : MethodName := ⟨RX0, "isFromOwnBridge", "(I)Z"⟩
abbrev cX0_considerOffer : ByteArray := prog_2_method_6_code
def yX0_considerOffer : MethodName := ⟨RX0, "considerOffer", "(I)V"⟩
abbrev cX0_chooseRoot : ByteArray := prog_2_method_7_code
def yX0_chooseRoot : MethodName := ⟨RX0, "chooseRoot", "(I)V"⟩
abbrev cX0_roleFor : ByteArray := prog_2_method_8_code
def yX0_roleFor : MethodName := ⟨RX0, "roleFor", "(I)I"⟩
abbrev cX0_ownMessage : ByteArray := prog_2_method_9_code
def yX0_ownMessage : MethodName := ⟨RX0, "ownMessage", "(I)J"⟩
def RX1 : String := "SpanningTreeProtocol$Frame"
def TX1 : u_T := fun k => match k with
  | 0 => ("SpanningTreeProtocol$Frame", "net", "LSpanningTreeProtocol$Network;", true)
  | 1 => ("SpanningTreeProtocol$Frame", "queueSegment", "[I", true)
  | 2 => ("SpanningTreeProtocol$Frame", "queuePort", "[I", true)
  | _ => ("SpanningTreeProtocol$Frame", "made", "I", false)
def tyX1 : Nat → FieldType := fun k => match k with
  | 0 => .object "SpanningTreeProtocol$Network"
  | 1 => .array .int
  | 2 => .array .int
  | _ => .int
abbrev wsX10 : List Cond := u_ws RX1 TX1 4
theorem nmX1 : ∀ a, a < 4 → ∀ b, b < 4 → a ≠ b → (TX1 a).2.1 ≠ (TX1 b).2.1 := by decide +kernel
theorem tyX1_ok : ∀ k, k < 4 → parseFieldDescriptor (TX1 k).2.2.1 = some (tyX1 k) := by decide +kernel
abbrev cX1_init : ByteArray := prog_3_method_1_code
def yX1_init : MethodName := ⟨RX1, "<init>", "(LSpanningTreeProtocol$Network;)V"⟩
abbrev cX1_deliver : ByteArray := prog_3_method_2_code
def yX1_deliver : MethodName := ⟨RX1, "deliver", "(II)I"⟩
abbrev cX1_transmit : ByteArray := prog_3_method_3_code
def yX1_transmit : MethodName := ⟨RX1, "transmit", "(II)V"⟩
abbrev cX1_visitPorts : ByteArray := prog_3_method_4_code
def yX1_visitPorts : MethodName := ⟨RX1, "visitPorts", "(IIII)V"⟩
abbrev cX1_visitPort : ByteArray := prog_3_method_5_code
def yX1_visitPort : MethodName := ⟨RX1, "visitPort", "(III)V"⟩
abbrev cX1_passOn : ByteArray := prog_3_method_6_code
def yX1_passOn : MethodName := ⟨RX1, "passOn", "(II)V"⟩
abbrev cX1_flood : ByteArray := prog_3_method_7_code
def yX1_flood : MethodName := ⟨RX1, "flood", "(II)V"⟩
def RX2 : String := "SpanningTreeProtocol$Message"
def TX2 : u_T := fun k => match k with
  | _ => ("", "", "", false)
def tyX2 : Nat → FieldType := fun k => match k with
  | _ => .int
abbrev wsX20 : List Cond := u_ws RX2 TX2 0
theorem nmX2 : ∀ a, a < 0 → ∀ b, b < 0 → a ≠ b → (TX2 a).2.1 ≠ (TX2 b).2.1 := by decide +kernel
theorem tyX2_ok : ∀ k, k < 0 → parseFieldDescriptor (TX2 k).2.2.1 = some (tyX2 k) := by decide +kernel
abbrev cX2_of : ByteArray := prog_4_method_2_code
def yX2_of : MethodName := ⟨RX2, "of", "(IIII)J"⟩
abbrev cX2_rootOf : ByteArray := prog_4_method_3_code
def yX2_rootOf : MethodName := ⟨RX2, "rootOf", "(J)I"⟩
abbrev cX2_costOf : ByteArray := prog_4_method_4_code
def yX2_costOf : MethodName := ⟨RX2, "costOf", "(J)I"⟩
abbrev cX2_senderOf : ByteArray := prog_4_method_5_code
def yX2_senderOf : MethodName := ⟨RX2, "senderOf", "(J)I"⟩
abbrev cX2_senderPortOf : ByteArray := prog_4_method_6_code
def yX2_senderPortOf : MethodName := ⟨RX2, "senderPortOf", "(J)I"⟩
abbrev cX2_withCostAdded : ByteArray := prog_4_method_7_code
def yX2_withCostAdded : MethodName := ⟨RX2, "withCostAdded", "(JI)J"⟩
abbrev cX2_haveSameSource : ByteArray := prog_4_method_8_code
def yX2_haveSameSource : MethodName := ⟨RX2, "haveSameSource", "(JJ)Z"⟩
def RX3 : String := "SpanningTreeProtocol$Network"
def TX3 : u_T := fun k => match k with
  | 0 => ("SpanningTreeProtocol$Network", "bridgeCount", "I", false)
  | 1 => ("SpanningTreeProtocol$Network", "segmentCount", "I", false)
  | 2 => ("SpanningTreeProtocol$Network", "portCount", "I", false)
  | 3 => ("SpanningTreeProtocol$Network", "stationCount", "I", false)
  | 4 => ("SpanningTreeProtocol$Network", "time", "I", false)
  | 5 => ("SpanningTreeProtocol$Network", "priority", "[I", true)
  | 6 => ("SpanningTreeProtocol$Network", "bridgePower", "[I", true)
  | 7 => ("SpanningTreeProtocol$Network", "portBridge", "[I", true)
  | 8 => ("SpanningTreeProtocol$Network", "portSegment", "[I", true)
  | 9 => ("SpanningTreeProtocol$Network", "portCost", "[I", true)
  | 10 => ("SpanningTreeProtocol$Network", "portPower", "[I", true)
  | 11 => ("SpanningTreeProtocol$Network", "portState", "[I", true)
  | 12 => ("SpanningTreeProtocol$Network", "stateCounter", "[I", true)
  | 13 => ("SpanningTreeProtocol$Network", "message", "[J", true)
  | 14 => ("SpanningTreeProtocol$Network", "messageLifetime", "[I", true)
  | 15 => ("SpanningTreeProtocol$Network", "stationSegment", "[I", true)
  | 16 => ("SpanningTreeProtocol$Network", "entryPort", "[I", true)
  | 17 => ("SpanningTreeProtocol$Network", "entryLifetime", "[I", true)
  | _ => ("SpanningTreeProtocol$Network", "transmitted", "[I", true)
def tyX3 : Nat → FieldType := fun k => match k with
  | 0 => .int
  | 1 => .int
  | 2 => .int
  | 3 => .int
  | 4 => .int
  | 5 => .array .int
  | 6 => .array .int
  | 7 => .array .int
  | 8 => .array .int
  | 9 => .array .int
  | 10 => .array .int
  | 11 => .array .int
  | 12 => .array .int
  | 13 => .array .long
  | 14 => .array .int
  | 15 => .array .int
  | 16 => .array .int
  | 17 => .array .int
  | _ => .array .int
abbrev wsX30 : List Cond := u_ws RX3 TX3 19
theorem nmX3 : ∀ a, a < 19 → ∀ b, b < 19 → a ≠ b → (TX3 a).2.1 ≠ (TX3 b).2.1 := by decide +kernel
theorem tyX3_ok : ∀ k, k < 19 → parseFieldDescriptor (TX3 k).2.2.1 = some (tyX3 k) := by decide +kernel
abbrev cX3_init : ByteArray := prog_5_method_1_code
def yX3_init : MethodName := ⟨RX3, "<init>", "()V"⟩
abbrev cX3_copyFrom : ByteArray := prog_5_method_2_code
def yX3_copyFrom : MethodName := ⟨RX3, "copyFrom", "(LSpanningTreeProtocol$Network;)V"⟩
abbrev cX3_copyRow : ByteArray := prog_5_method_3_code
def yX3_copyRow : MethodName := ⟨RX3, "copyRow", "([I[I)V"⟩
abbrev cX3_hasBridge : ByteArray := prog_5_method_4_code
def yX3_hasBridge : MethodName := ⟨RX3, "hasBridge", "(I)Z"⟩
abbrev cX3_hasSegment : ByteArray := prog_5_method_5_code
def yX3_hasSegment : MethodName := ⟨RX3, "hasSegment", "(I)Z"⟩
abbrev cX3_hasPort : ByteArray := prog_5_method_6_code
def yX3_hasPort : MethodName := ⟨RX3, "hasPort", "(I)Z"⟩
abbrev cX3_hasStation : ByteArray := prog_5_method_7_code
def yX3_hasStation : MethodName := ⟨RX3, "hasStation", "(I)Z"⟩
abbrev cX3_appendBridge : ByteArray := prog_5_method_8_code
def yX3_appendBridge : MethodName := ⟨RX3, "appendBridge", "(I)I"⟩
abbrev cX3_appendSegment : ByteArray := prog_5_method_9_code
def yX3_appendSegment : MethodName := ⟨RX3, "appendSegment", "()I"⟩
abbrev cX3_appendPort : ByteArray := prog_5_method_10_code
def yX3_appendPort : MethodName := ⟨RX3, "appendPort", "(III)I"⟩
abbrev cX3_appendStation : ByteArray := prog_5_method_11_code
def yX3_appendStation : MethodName := ⟨RX3, "appendStation", "(I)I"⟩
abbrev cX3_identifierOf : ByteArray := prog_5_method_12_code
def yX3_identifierOf : MethodName := ⟨RX3, "identifierOf", "(I)I"⟩
abbrev cX3_isBridgeUp : ByteArray := prog_5_method_13_code
def yX3_isBridgeUp : MethodName := ⟨RX3, "isBridgeUp", "(I)Z"⟩
abbrev cX3_isActive : ByteArray := prog_5_method_14_code
def yX3_isActive : MethodName := ⟨RX3, "isActive", "(I)Z"⟩
abbrev cX3_isForwarding : ByteArray := prog_5_method_15_code
def yX3_isForwarding : MethodName := ⟨RX3, "isForwarding", "(I)Z"⟩
abbrev cX3_storesMessage : ByteArray := prog_5_method_16_code
def yX3_storesMessage : MethodName := ⟨RX3, "storesMessage", "(I)Z"⟩
abbrev cX3_switchBridge : ByteArray := prog_5_method_17_code
def yX3_switchBridge : MethodName := ⟨RX3, "switchBridge", "(II)I"⟩
abbrev cX3_switchPort : ByteArray := prog_5_method_18_code
def yX3_switchPort : MethodName := ⟨RX3, "switchPort", "(II)I"⟩
abbrev cX3_resetPort : ByteArray := prog_5_method_19_code
def yX3_resetPort : MethodName := ⟨RX3, "resetPort", "(I)V"⟩
abbrev cX3_forgetEntriesWith : ByteArray := prog_5_method_20_code
def yX3_forgetEntriesWith : MethodName := ⟨RX3, "forgetEntriesWith", "(I)V"⟩
abbrev cX3_learnedPort : ByteArray := prog_5_method_21_code
def yX3_learnedPort : MethodName := ⟨RX3, "learnedPort", "(II)I"⟩
abbrev cX3_learn : ByteArray := prog_5_method_22_code
def yX3_learn : MethodName := ⟨RX3, "learn", "(II)V"⟩
abbrev cX3_ageEntries : ByteArray := prog_5_method_23_code
def yX3_ageEntries : MethodName := ⟨RX3, "ageEntries", "()V"⟩
abbrev cX3_ageMessage : ByteArray := prog_5_method_24_code
def yX3_ageMessage : MethodName := ⟨RX3, "ageMessage", "(I)V"⟩
abbrev cX3_entryIndex : ByteArray := prog_5_method_25_code
def yX3_entryIndex : MethodName := ⟨RX3, "entryIndex", "(II)I"⟩
def RX4 : String := "SpanningTreeProtocol$Ticker"
def TX4 : u_T := fun k => match k with
  | 0 => ("SpanningTreeProtocol$Ticker", "net", "LSpanningTreeProtocol$Network;", true)
  | 1 => ("SpanningTreeProtocol$Ticker", "election", "LSpanningTreeProtocol$Election;", true)
  | 2 => ("SpanningTreeProtocol$Ticker", "sentMessage", "[J", true)
  | 3 => ("SpanningTreeProtocol$Ticker", "sentAge", "[I", true)
  | 4 => ("SpanningTreeProtocol$Ticker", "bestSender", "[I", true)
  | _ => ("SpanningTreeProtocol$Ticker", "nextBestSender", "[I", true)
def tyX4 : Nat → FieldType := fun k => match k with
  | 0 => .object "SpanningTreeProtocol$Network"
  | 1 => .object "SpanningTreeProtocol$Election"
  | 2 => .array .long
  | 3 => .array .int
  | 4 => .array .int
  | _ => .array .int
abbrev wsX40 : List Cond := u_ws RX4 TX4 6
theorem nmX4 : ∀ a, a < 6 → ∀ b, b < 6 → a ≠ b → (TX4 a).2.1 ≠ (TX4 b).2.1 := by decide +kernel
theorem tyX4_ok : ∀ k, k < 6 → parseFieldDescriptor (TX4 k).2.2.1 = some (tyX4 k) := by decide +kernel
abbrev cX4_init : ByteArray := prog_6_method_1_code
def yX4_init : MethodName := ⟨RX4, "<init>", "(LSpanningTreeProtocol$Network;LSpanningTreeProtocol$Election;)V"⟩
abbrev cX4_makeTick : ByteArray := prog_6_method_2_code
def yX4_makeTick : MethodName := ⟨RX4, "makeTick", "()Z"⟩
abbrev cX4_sendMessages : ByteArray := prog_6_method_3_code
def yX4_sendMessages : MethodName := ⟨RX4, "sendMessages", "()V"⟩
abbrev cX4_ageToSend : ByteArray := prog_6_method_4_code
def yX4_ageToSend : MethodName := ⟨RX4, "ageToSend", "(I)I"⟩
abbrev cX4_rankSender : ByteArray := prog_6_method_5_code
def yX4_rankSender : MethodName := ⟨RX4, "rankSender", "(I)V"⟩
abbrev cX4_isBetterSender : ByteArray := prog_6_method_6_code
def yX4_isBetterSender : MethodName := ⟨RX4, "isBetterSender", "(II)Z"⟩
abbrev cX4_takesMessage : ByteArray := prog_6_method_7_code
def yX4_takesMessage : MethodName := ⟨RX4, "takesMessage", "(I)Z"⟩
abbrev cX4_accepts : ByteArray := prog_6_method_8_code
def yX4_accepts : MethodName := ⟨RX4, "accepts", "(IJ)Z"⟩
abbrev cX4_moveStates : ByteArray := prog_6_method_9_code
def yX4_moveStates : MethodName := ⟨RX4, "moveStates", "()Z"⟩
abbrev cX4_moveState : ByteArray := prog_6_method_10_code
def yX4_moveState : MethodName := ⟨RX4, "moveState", "(II)V"⟩
abbrev cX4_moveTowardsForwarding : ByteArray := prog_6_method_11_code
def yX4_moveTowardsForwarding : MethodName := ⟨RX4, "moveTowardsForwarding", "(I)V"⟩
abbrev cX4_enterState : ByteArray := prog_6_method_12_code
def yX4_enterState : MethodName := ⟨RX4, "enterState", "(III)V"⟩
def RX5 : String := "SpanningTreeProtocol$Topology"
def TX5 : u_T := fun k => match k with
  | 0 => ("SpanningTreeProtocol$Topology", "net", "LSpanningTreeProtocol$Network;", true)
  | _ => ("SpanningTreeProtocol$Topology", "label", "[I", true)
def tyX5 : Nat → FieldType := fun k => match k with
  | 0 => .object "SpanningTreeProtocol$Network"
  | _ => .array .int
abbrev wsX50 : List Cond := u_ws RX5 TX5 2
theorem nmX5 : ∀ a, a < 2 → ∀ b, b < 2 → a ≠ b → (TX5 a).2.1 ≠ (TX5 b).2.1 := by decide +kernel
theorem tyX5_ok : ∀ k, k < 2 → parseFieldDescriptor (TX5 k).2.2.1 = some (tyX5 k) := by decide +kernel
abbrev cX5_init : ByteArray := prog_7_method_1_code
def yX5_init : MethodName := ⟨RX5, "<init>", "(LSpanningTreeProtocol$Network;)V"⟩
abbrev cX5_countParts : ByteArray := prog_7_method_2_code
def yX5_countParts : MethodName := ⟨RX5, "countParts", "()I"⟩
abbrev cX5_countLoops : ByteArray := prog_7_method_3_code
def yX5_countLoops : MethodName := ⟨RX5, "countLoops", "()I"⟩
abbrev cX5_countVertices : ByteArray := prog_7_method_4_code
def yX5_countVertices : MethodName := ⟨RX5, "countVertices", "()I"⟩
abbrev cX5_join : ByteArray := prog_7_method_5_code
def yX5_join : MethodName := ⟨RX5, "join", "(I)Z"⟩
def RX6 : String := "SpanningTreeProtocol"
def TX6 : u_T := fun k => match k with
  | 0 => ("SpanningTreeProtocol", "network", "LSpanningTreeProtocol$Network;", true)
  | 1 => ("SpanningTreeProtocol", "election", "LSpanningTreeProtocol$Election;", true)
  | 2 => ("SpanningTreeProtocol", "ticker", "LSpanningTreeProtocol$Ticker;", true)
  | 3 => ("SpanningTreeProtocol", "frame", "LSpanningTreeProtocol$Frame;", true)
  | 4 => ("SpanningTreeProtocol", "topology", "LSpanningTreeProtocol$Topology;", true)
  | _ => ("SpanningTreeProtocol", "saved", "[LSpanningTreeProtocol$Network;", true)
def tyX6 : Nat → FieldType := fun k => match k with
  | 0 => .object "SpanningTreeProtocol$Network"
  | 1 => .object "SpanningTreeProtocol$Election"
  | 2 => .object "SpanningTreeProtocol$Ticker"
  | 3 => .object "SpanningTreeProtocol$Frame"
  | 4 => .object "SpanningTreeProtocol$Topology"
  | _ => .array (.object "SpanningTreeProtocol$Network")
abbrev wsX60 : List Cond := u_ws RX6 TX6 6
theorem nmX6 : ∀ a, a < 6 → ∀ b, b < 6 → a ≠ b → (TX6 a).2.1 ≠ (TX6 b).2.1 := by decide +kernel
theorem tyX6_ok : ∀ k, k < 6 → parseFieldDescriptor (TX6 k).2.2.1 = some (tyX6 k) := by decide +kernel
abbrev cX6_init : ByteArray := prog_1_method_1_code
def yX6_init : MethodName := ⟨RX6, "<init>", "()V"⟩
abbrev cX6_addBridge : ByteArray := prog_1_method_2_code
def yX6_addBridge : MethodName := ⟨RX6, "addBridge", "(I)I"⟩
abbrev cX6_addSegment : ByteArray := prog_1_method_3_code
def yX6_addSegment : MethodName := ⟨RX6, "addSegment", "()I"⟩
abbrev cX6_addPort : ByteArray := prog_1_method_4_code
def yX6_addPort : MethodName := ⟨RX6, "addPort", "(III)I"⟩
abbrev cX6_addStation : ByteArray := prog_1_method_5_code
def yX6_addStation : MethodName := ⟨RX6, "addStation", "(I)I"⟩
abbrev cX6_setPriority : ByteArray := prog_1_method_6_code
def yX6_setPriority : MethodName := ⟨RX6, "setPriority", "(II)I"⟩
abbrev cX6_setCost : ByteArray := prog_1_method_7_code
def yX6_setCost : MethodName := ⟨RX6, "setCost", "(II)I"⟩
abbrev cX6_setBridge : ByteArray := prog_1_method_8_code
def yX6_setBridge : MethodName := ⟨RX6, "setBridge", "(IZ)I"⟩
abbrev cX6_setPort : ByteArray := prog_1_method_9_code
def yX6_setPort : MethodName := ⟨RX6, "setPort", "(IZ)I"⟩
abbrev cX6_moveStation : ByteArray := prog_1_method_10_code
def yX6_moveStation : MethodName := ⟨RX6, "moveStation", "(II)I"⟩
abbrev cX6_tick : ByteArray := prog_1_method_11_code
def yX6_tick : MethodName := ⟨RX6, "tick", "(I)I"⟩
abbrev cX6_settle : ByteArray := prog_1_method_12_code
def yX6_settle : MethodName := ⟨RX6, "settle", "(I)I"⟩
abbrev cX6_identifier : ByteArray := prog_1_method_13_code
def yX6_identifier : MethodName := ⟨RX6, "identifier", "(I)I"⟩
abbrev cX6_root : ByteArray := prog_1_method_14_code
def yX6_root : MethodName := ⟨RX6, "root", "(I)I"⟩
abbrev cX6_rootCost : ByteArray := prog_1_method_15_code
def yX6_rootCost : MethodName := ⟨RX6, "rootCost", "(I)I"⟩
abbrev cX6_rootPort : ByteArray := prog_1_method_16_code
def yX6_rootPort : MethodName := ⟨RX6, "rootPort", "(I)I"⟩
abbrev cX6_role : ByteArray := prog_1_method_17_code
def yX6_role : MethodName := ⟨RX6, "role", "(I)I"⟩
abbrev cX6_state : ByteArray := prog_1_method_18_code
def yX6_state : MethodName := ⟨RX6, "state", "(I)I"⟩
abbrev cX6_stored : ByteArray := prog_1_method_19_code
def yX6_stored : MethodName := ⟨RX6, "stored", "(II)I"⟩
abbrev cX6_portsIn : ByteArray := prog_1_method_20_code
def yX6_portsIn : MethodName := ⟨RX6, "portsIn", "(I)I"⟩
abbrev cX6_parts : ByteArray := prog_1_method_21_code
def yX6_parts : MethodName := ⟨RX6, "parts", "()I"⟩
abbrev cX6_loops : ByteArray := prog_1_method_22_code
def yX6_loops : MethodName := ⟨RX6, "loops", "()I"⟩
abbrev cX6_send : ByteArray := prog_1_method_23_code
def yX6_send : MethodName := ⟨RX6, "send", "(II)I"⟩
abbrev cX6_transmissions : ByteArray := prog_1_method_24_code
def yX6_transmissions : MethodName := ⟨RX6, "transmissions", "(I)I"⟩
abbrev cX6_entry : ByteArray := prog_1_method_25_code
def yX6_entry : MethodName := ⟨RX6, "entry", "(II)I"⟩
abbrev cX6_count : ByteArray := prog_1_method_26_code
def yX6_count : MethodName := ⟨RX6, "count", "(I)I"⟩
abbrev cX6_save : ByteArray := prog_1_method_27_code
def yX6_save : MethodName := ⟨RX6, "save", "(I)I"⟩
abbrev cX6_restore : ByteArray := prog_1_method_28_code
def yX6_restore : MethodName := ⟨RX6, "restore", "(I)I"⟩
abbrev cX6_isPriority : ByteArray := prog_1_method_29_code
def yX6_isPriority : MethodName := ⟨RX6, "isPriority", "(I)Z"⟩
abbrev cX6_isCost : ByteArray := prog_1_method_30_code
def yX6_isCost : MethodName := ⟨RX6, "isCost", "(I)Z"⟩
abbrev cX6_isSlot : ByteArray := prog_1_method_31_code
def yX6_isSlot : MethodName := ⟨RX6, "isSlot", "(I)Z"⟩
def RX7 : String := "SpanningTreeProtocolModel"
def TX7 : u_T := fun k => match k with
  | 0 => ("SpanningTreeProtocolModel", "at", "[I", true)
  | 1 => ("SpanningTreeProtocolModel", "slots", "[I", true)
  | 2 => ("SpanningTreeProtocolModel", "isSaved", "[Z", true)
  | 3 => ("SpanningTreeProtocolModel", "wasActive", "[Z", true)
  | 4 => ("SpanningTreeProtocolModel", "rootPorts", "[I", true)
  | 5 => ("SpanningTreeProtocolModel", "roots", "[I", true)
  | 6 => ("SpanningTreeProtocolModel", "rootCosts", "[I", true)
  | 7 => ("SpanningTreeProtocolModel", "roles", "[I", true)
  | 8 => ("SpanningTreeProtocolModel", "ages", "[I", true)
  | 9 => ("SpanningTreeProtocolModel", "sentRoot", "[I", true)
  | 10 => ("SpanningTreeProtocolModel", "sentCost", "[I", true)
  | 11 => ("SpanningTreeProtocolModel", "rolesBefore", "[I", true)
  | 12 => ("SpanningTreeProtocolModel", "part", "[I", true)
  | 13 => ("SpanningTreeProtocolModel", "onSegment", "[I", true)
  | 14 => ("SpanningTreeProtocolModel", "byPort", "[I", true)
  | _ => ("SpanningTreeProtocolModel", "made", "I", false)
def tyX7 : Nat → FieldType := fun k => match k with
  | 0 => .array .int
  | 1 => .array .int
  | 2 => .array .boolean
  | 3 => .array .boolean
  | 4 => .array .int
  | 5 => .array .int
  | 6 => .array .int
  | 7 => .array .int
  | 8 => .array .int
  | 9 => .array .int
  | 10 => .array .int
  | 11 => .array .int
  | 12 => .array .int
  | 13 => .array .int
  | 14 => .array .int
  | _ => .int
abbrev wsX70 : List Cond := u_ws RX7 TX7 16
theorem nmX7 : ∀ a, a < 16 → ∀ b, b < 16 → a ≠ b → (TX7 a).2.1 ≠ (TX7 b).2.1 := by decide +kernel
theorem tyX7_ok : ∀ k, k < 16 → parseFieldDescriptor (TX7 k).2.2.1 = some (tyX7 k) := by decide +kernel
abbrev cX7_init : ByteArray := prog_9_method_1_code
def yX7_init : MethodName := ⟨RX7, "<init>", "()V"⟩
abbrev cX7_in : ByteArray := prog_9_method_2_code
def yX7_in : MethodName := ⟨RX7, "in", "(III)Z"⟩
abbrev cX7_isBridge : ByteArray := prog_9_method_3_code
def yX7_isBridge : MethodName := ⟨RX7, "isBridge", "(I)Z"⟩
abbrev cX7_isSegment : ByteArray := prog_9_method_4_code
def yX7_isSegment : MethodName := ⟨RX7, "isSegment", "(I)Z"⟩
abbrev cX7_isPort : ByteArray := prog_9_method_5_code
def yX7_isPort : MethodName := ⟨RX7, "isPort", "(I)Z"⟩
abbrev cX7_isStation : ByteArray := prog_9_method_6_code
def yX7_isStation : MethodName := ⟨RX7, "isStation", "(I)Z"⟩
abbrev cX7_ports : ByteArray := prog_9_method_7_code
def yX7_ports : MethodName := ⟨RX7, "ports", "()I"⟩
abbrev cX7_bridgeOf : ByteArray := prog_9_method_8_code
def yX7_bridgeOf : MethodName := ⟨RX7, "bridgeOf", "(I)I"⟩
abbrev cX7_isActive : ByteArray := prog_9_method_9_code
def yX7_isActive : MethodName := ⟨RX7, "isActive", "(I)Z"⟩
abbrev cX7_idOf : ByteArray := prog_9_method_10_code
def yX7_idOf : MethodName := ⟨RX7, "idOf", "(I)I"⟩
abbrev cX7_message : ByteArray := prog_9_method_11_code
def yX7_message : MethodName := ⟨RX7, "message", "(II)I"⟩
abbrev cX7_stores : ByteArray := prog_9_method_12_code
def yX7_stores : MethodName := ⟨RX7, "stores", "(I)Z"⟩
abbrev cX7_addBridge : ByteArray := prog_9_method_13_code
def yX7_addBridge : MethodName := ⟨RX7, "addBridge", "(I)I"⟩
abbrev cX7_addSegment : ByteArray := prog_9_method_14_code
def yX7_addSegment : MethodName := ⟨RX7, "addSegment", "()I"⟩
abbrev cX7_addPort : ByteArray := prog_9_method_15_code
def yX7_addPort : MethodName := ⟨RX7, "addPort", "(III)I"⟩
abbrev cX7_addStation : ByteArray := prog_9_method_16_code
def yX7_addStation : MethodName := ⟨RX7, "addStation", "(I)I"⟩
abbrev cX7_set : ByteArray := prog_9_method_17_code
def yX7_set : MethodName := ⟨RX7, "set", "(II)I"⟩
abbrev cX7_setPriority : ByteArray := prog_9_method_18_code
def yX7_setPriority : MethodName := ⟨RX7, "setPriority", "(II)I"⟩
abbrev cX7_setCost : ByteArray := prog_9_method_19_code
def yX7_setCost : MethodName := ⟨RX7, "setCost", "(II)I"⟩
abbrev cX7_turn : ByteArray := prog_9_method_20_code
def yX7_turn : MethodName := ⟨RX7, "turn", "(IZ)V"⟩
abbrev cX7_turnAll : ByteArray := prog_9_method_21_code
def yX7_turnAll : MethodName := ⟨RX7, "turnAll", "(IZ)I"⟩
abbrev cX7_setBridge : ByteArray := prog_9_method_22_code
def yX7_setBridge : MethodName := ⟨RX7, "setBridge", "(IZ)I"⟩
abbrev cX7_setPort : ByteArray := prog_9_method_23_code
def yX7_setPort : MethodName := ⟨RX7, "setPort", "(IZ)I"⟩
abbrev cX7_moveStation : ByteArray := prog_9_method_24_code
def yX7_moveStation : MethodName := ⟨RX7, "moveStation", "(II)I"⟩
abbrev cX7_isBetterOffer : ByteArray := prog_9_method_25_code
def yX7_isBetterOffer : MethodName := ⟨RX7, "isBetterOffer", "(II)Z"⟩
abbrev cX7_layRoot : ByteArray := prog_9_method_26_code
def yX7_layRoot : MethodName := ⟨RX7, "layRoot", "(I)V"⟩
abbrev cX7_isBetter : ByteArray := prog_9_method_27_code
def yX7_isBetter : MethodName := ⟨RX7, "isBetter", "(IIIIIIII)Z"⟩
abbrev cX7_isOwnBetter : ByteArray := prog_9_method_28_code
def yX7_isOwnBetter : MethodName := ⟨RX7, "isOwnBetter", "(I)Z"⟩
abbrev cX7_roleOf : ByteArray := prog_9_method_29_code
def yX7_roleOf : MethodName := ⟨RX7, "roleOf", "(I)I"⟩
abbrev cX7_layRoles : ByteArray := prog_9_method_30_code
def yX7_layRoles : MethodName := ⟨RX7, "layRoles", "()V"⟩
abbrev cX7_sendAll : ByteArray := prog_9_method_31_code
def yX7_sendAll : MethodName := ⟨RX7, "sendAll", "()V"⟩
abbrev cX7_isBetterSent : ByteArray := prog_9_method_32_code
def yX7_isBetterSent : MethodName := ⟨RX7, "isBetterSent", "(II)Z"⟩
abbrev cX7_heardBy : ByteArray := prog_9_method_33_code
def yX7_heardBy : MethodName := ⟨RX7, "heardBy", "(I)I"⟩
abbrev cX7_hear : ByteArray := prog_9_method_34_code
def yX7_hear : MethodName := ⟨RX7, "hear", "(I)V"⟩
abbrev cX7_goOn : ByteArray := prog_9_method_35_code
def yX7_goOn : MethodName := ⟨RX7, "goOn", "(I)V"⟩
abbrev cX7_tickOnce : ByteArray := prog_9_method_36_code
def yX7_tickOnce : MethodName := ⟨RX7, "tickOnce", "()Z"⟩
abbrev cX7_tick : ByteArray := prog_9_method_37_code
def yX7_tick : MethodName := ⟨RX7, "tick", "(I)I"⟩
abbrev cX7_settle : ByteArray := prog_9_method_38_code
def yX7_settle : MethodName := ⟨RX7, "settle", "(I)I"⟩
abbrev cX7_identifier : ByteArray := prog_9_method_39_code
def yX7_identifier : MethodName := ⟨RX7, "identifier", "(I)I"⟩
abbrev cX7_isUp : ByteArray := prog_9_method_40_code
def yX7_isUp : MethodName := ⟨RX7, "isUp", "(I)Z"⟩
abbrev cX7_root : ByteArray := prog_9_method_41_code
def yX7_root : MethodName := ⟨RX7, "root", "(I)I"⟩
abbrev cX7_rootCost : ByteArray := prog_9_method_42_code
def yX7_rootCost : MethodName := ⟨RX7, "rootCost", "(I)I"⟩
abbrev cX7_rootPort : ByteArray := prog_9_method_43_code
def yX7_rootPort : MethodName := ⟨RX7, "rootPort", "(I)I"⟩
abbrev cX7_role : ByteArray := prog_9_method_44_code
def yX7_role : MethodName := ⟨RX7, "role", "(I)I"⟩
abbrev cX7_state : ByteArray := prog_9_method_45_code
def yX7_state : MethodName := ⟨RX7, "state", "(I)I"⟩
abbrev cX7_stored : ByteArray := prog_9_method_46_code
def yX7_stored : MethodName := ⟨RX7, "stored", "(II)I"⟩
abbrev cX7_portsIn : ByteArray := prog_9_method_47_code
def yX7_portsIn : MethodName := ⟨RX7, "portsIn", "(I)I"⟩
abbrev cX7_joinAll : ByteArray := prog_9_method_48_code
def yX7_joinAll : MethodName := ⟨RX7, "joinAll", "()I"⟩
abbrev cX7_isVertex : ByteArray := prog_9_method_49_code
def yX7_isVertex : MethodName := ⟨RX7, "isVertex", "(I)Z"⟩
abbrev cX7_vertices : ByteArray := prog_9_method_50_code
def yX7_vertices : MethodName := ⟨RX7, "vertices", "()I"⟩
abbrev cX7_partsNow : ByteArray := prog_9_method_51_code
def yX7_partsNow : MethodName := ⟨RX7, "partsNow", "()I"⟩
abbrev cX7_parts : ByteArray := prog_9_method_52_code
def yX7_parts : MethodName := ⟨RX7, "parts", "()I"⟩
abbrev cX7_loops : ByteArray := prog_9_method_53_code
def yX7_loops : MethodName := ⟨RX7, "loops", "()I"⟩
abbrev cX7_transmit : ByteArray := prog_9_method_54_code
def yX7_transmit : MethodName := ⟨RX7, "transmit", "(II)V"⟩
abbrev cX7_cell : ByteArray := prog_9_method_55_code
def yX7_cell : MethodName := ⟨RX7, "cell", "(II)I"⟩
abbrev cX7_receive : ByteArray := prog_9_method_56_code
def yX7_receive : MethodName := ⟨RX7, "receive", "(III)V"⟩
abbrev cX7_send : ByteArray := prog_9_method_57_code
def yX7_send : MethodName := ⟨RX7, "send", "(II)I"⟩
abbrev cX7_transmissions : ByteArray := prog_9_method_58_code
def yX7_transmissions : MethodName := ⟨RX7, "transmissions", "(I)I"⟩
abbrev cX7_entry : ByteArray := prog_9_method_59_code
def yX7_entry : MethodName := ⟨RX7, "entry", "(II)I"⟩
abbrev cX7_count : ByteArray := prog_9_method_60_code
def yX7_count : MethodName := ⟨RX7, "count", "(I)I"⟩
abbrev cX7_save : ByteArray := prog_9_method_61_code
def yX7_save : MethodName := ⟨RX7, "save", "(I)I"⟩
abbrev cX7_restore : ByteArray := prog_9_method_62_code
def yX7_restore : MethodName := ⟨RX7, "restore", "(I)I"⟩
def RJ9 : String := "java/lang/Math"
def TJ9 : u_T := fun k => match k with
  | _ => ("", "", "", false)
def tyJ9 : Nat → FieldType := fun k => match k with
  | _ => .int
abbrev wsJ90 : List Cond := u_ws RJ9 TJ9 0
theorem nmJ9 : ∀ a, a < 0 → ∀ b, b < 0 → a ≠ b → (TJ9 a).2.1 ≠ (TJ9 b).2.1 := by decide +kernel
theorem tyJ9_ok : ∀ k, k < 0 → parseFieldDescriptor (TJ9 k).2.2.1 = some (tyJ9 k) := by decide +kernel
abbrev cJ9_min_7cf53 : ByteArray := prog_10_method_69_code
def yJ9_min_7cf53 : MethodName := ⟨RJ9, "min", "(II)I"⟩
def RJ10 : String := "java/lang/System"
def TJ10 : u_T := fun k => match k with
  | _ => ("", "", "", false)
def tyJ10 : Nat → FieldType := fun k => match k with
  | _ => .int
abbrev wsJ100 : List Cond := u_ws RJ10 TJ10 0
theorem nmJ10 : ∀ a, a < 0 → ∀ b, b < 0 → a ≠ b → (TJ10 a).2.1 ≠ (TJ10 b).2.1 := by decide +kernel
theorem tyJ10_ok : ∀ k, k < 0 → parseFieldDescriptor (TJ10 k).2.2.1 = some (tyJ10 k) := by decide +kernel
def RL : String := "SpanningTreeProtocolLaw"
abbrev cL_law : ByteArray := code
def yL_law : MethodName := ⟨RL, "law", "([I)Z"⟩
abbrev vwCl : List vw_C := [(RX0, TX0, 7), (RX1, TX1, 4), (RX3, TX3, 19), (RX4, TX4, 6), (RX5, TX5, 2), (RX6, TX6, 6), (RX7, TX7, 16)]
