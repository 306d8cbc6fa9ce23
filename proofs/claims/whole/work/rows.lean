section
-- ===== PART A: goes FIRST, ahead of the names: the tables' words, and 'selects' of the private methods out of them =====
/-- a private method of a class that the tables say can be made, by its rows of tables_1 -/
def lw_okq (q : MethodName × Nat) : Prop := (q.1.cls ≠ "java/lang/invoke/MethodHandle" ∧ q.1.cls ≠ "java/lang/invoke/VarHandle") ∧ Cond.instantiable q.1.cls q.2 ∈ tables_1 ∧ Cond.privateMethod q.1 ∈ tables_1 ∧ Cond.instanceMethod q.1 ∈ tables_1
theorem lw_p0 : lw_okq (⟨"SpanningTreeProtocol$Network", "resetPort", "(I)V"⟩, 19) := ⟨⟨by decide +kernel, by decide +kernel⟩, List.mem_of_getElem? (i := 20) (by decide +kernel), List.mem_of_getElem? (i := 304) (by decide +kernel), List.mem_of_getElem? (i := 305) (by decide +kernel)⟩
theorem lw_p1 : lw_okq (⟨"SpanningTreeProtocol$Network", "forgetEntriesWith", "(I)V"⟩, 19) := ⟨⟨by decide +kernel, by decide +kernel⟩, List.mem_of_getElem? (i := 20) (by decide +kernel), List.mem_of_getElem? (i := 312) (by decide +kernel), List.mem_of_getElem? (i := 313) (by decide +kernel)⟩
theorem lw_p2 : lw_okq (⟨"SpanningTreeProtocol$Election", "findBestOffers", "()V"⟩, 7) := ⟨⟨by decide +kernel, by decide +kernel⟩, List.mem_of_getElem? (i := 123) (by decide +kernel), List.mem_of_getElem? (i := 340) (by decide +kernel), List.mem_of_getElem? (i := 341) (by decide +kernel)⟩
theorem lw_p3 : lw_okq (⟨"SpanningTreeProtocol$Election", "hasOffer", "(I)Z"⟩, 7) := ⟨⟨by decide +kernel, by decide +kernel⟩, List.mem_of_getElem? (i := 123) (by decide +kernel), List.mem_of_getElem? (i := 344) (by decide +kernel), List.mem_of_getElem? (i := 345) (by decide +kernel)⟩
theorem lw_p4 : lw_okq (⟨"SpanningTreeProtocol$Election", "isFromOwnBridge", "(I)Z"⟩, 7) := ⟨⟨by decide +kernel, by decide +kernel⟩, List.mem_of_getElem? (i := 123) (by decide +kernel), List.mem_of_getElem? (i := 353) (by decide +kernel), List.mem_of_getElem? (i := 354) (by decide +kernel)⟩
theorem lw_p5 : lw_okq (⟨"SpanningTreeProtocol$Election", "considerOffer", "(I)V"⟩, 7) := ⟨⟨by decide +kernel, by decide +kernel⟩, List.mem_of_getElem? (i := 123) (by decide +kernel), List.mem_of_getElem? (i := 365) (by decide +kernel), List.mem_of_getElem? (i := 366) (by decide +kernel)⟩
theorem lw_p6 : lw_okq (⟨"SpanningTreeProtocol$Election", "chooseRoot", "(I)V"⟩, 7) := ⟨⟨by decide +kernel, by decide +kernel⟩, List.mem_of_getElem? (i := 123) (by decide +kernel), List.mem_of_getElem? (i := 372) (by decide +kernel), List.mem_of_getElem? (i := 373) (by decide +kernel)⟩
theorem lw_p7 : lw_okq (⟨"SpanningTreeProtocol$Election", "roleFor", "(I)I"⟩, 7) := ⟨⟨by decide +kernel, by decide +kernel⟩, List.mem_of_getElem? (i := 123) (by decide +kernel), List.mem_of_getElem? (i := 383) (by decide +kernel), List.mem_of_getElem? (i := 384) (by decide +kernel)⟩
theorem lw_p8 : lw_okq (⟨"SpanningTreeProtocol$Ticker", "sendMessages", "()V"⟩, 6) := ⟨⟨by decide +kernel, by decide +kernel⟩, List.mem_of_getElem? (i := 157) (by decide +kernel), List.mem_of_getElem? (i := 398) (by decide +kernel), List.mem_of_getElem? (i := 399) (by decide +kernel)⟩
theorem lw_p9 : lw_okq (⟨"SpanningTreeProtocol$Ticker", "ageToSend", "(I)I"⟩, 6) := ⟨⟨by decide +kernel, by decide +kernel⟩, List.mem_of_getElem? (i := 157) (by decide +kernel), List.mem_of_getElem? (i := 402) (by decide +kernel), List.mem_of_getElem? (i := 403) (by decide +kernel)⟩
theorem lw_p10 : lw_okq (⟨"SpanningTreeProtocol$Ticker", "rankSender", "(I)V"⟩, 6) := ⟨⟨by decide +kernel, by decide +kernel⟩, List.mem_of_getElem? (i := 157) (by decide +kernel), List.mem_of_getElem? (i := 407) (by decide +kernel), List.mem_of_getElem? (i := 408) (by decide +kernel)⟩
theorem lw_p11 : lw_okq (⟨"SpanningTreeProtocol$Ticker", "isBetterSender", "(II)Z"⟩, 6) := ⟨⟨by decide +kernel, by decide +kernel⟩, List.mem_of_getElem? (i := 157) (by decide +kernel), List.mem_of_getElem? (i := 411) (by decide +kernel), List.mem_of_getElem? (i := 412) (by decide +kernel)⟩
theorem lw_p12 : lw_okq (⟨"SpanningTreeProtocol$Ticker", "takesMessage", "(I)Z"⟩, 6) := ⟨⟨by decide +kernel, by decide +kernel⟩, List.mem_of_getElem? (i := 157) (by decide +kernel), List.mem_of_getElem? (i := 415) (by decide +kernel), List.mem_of_getElem? (i := 416) (by decide +kernel)⟩
theorem lw_p13 : lw_okq (⟨"SpanningTreeProtocol$Ticker", "accepts", "(IJ)Z"⟩, 6) := ⟨⟨by decide +kernel, by decide +kernel⟩, List.mem_of_getElem? (i := 157) (by decide +kernel), List.mem_of_getElem? (i := 420) (by decide +kernel), List.mem_of_getElem? (i := 421) (by decide +kernel)⟩
theorem lw_p14 : lw_okq (⟨"SpanningTreeProtocol$Ticker", "moveStates", "()Z"⟩, 6) := ⟨⟨by decide +kernel, by decide +kernel⟩, List.mem_of_getElem? (i := 157) (by decide +kernel), List.mem_of_getElem? (i := 434) (by decide +kernel), List.mem_of_getElem? (i := 435) (by decide +kernel)⟩
theorem lw_p15 : lw_okq (⟨"SpanningTreeProtocol$Ticker", "moveState", "(II)V"⟩, 6) := ⟨⟨by decide +kernel, by decide +kernel⟩, List.mem_of_getElem? (i := 157) (by decide +kernel), List.mem_of_getElem? (i := 438) (by decide +kernel), List.mem_of_getElem? (i := 439) (by decide +kernel)⟩
def lw_privs_1 : List (MethodName × Nat) := [(⟨"SpanningTreeProtocol$Network", "resetPort", "(I)V"⟩, 19), (⟨"SpanningTreeProtocol$Network", "forgetEntriesWith", "(I)V"⟩, 19), (⟨"SpanningTreeProtocol$Election", "findBestOffers", "()V"⟩, 7), (⟨"SpanningTreeProtocol$Election", "hasOffer", "(I)Z"⟩, 7), (⟨"SpanningTreeProtocol$Election", "isFromOwnBridge", "(I)Z"⟩, 7), (⟨"SpanningTreeProtocol$Election", "considerOffer", "(I)V"⟩, 7), (⟨"SpanningTreeProtocol$Election", "chooseRoot", "(I)V"⟩, 7), (⟨"SpanningTreeProtocol$Election", "roleFor", "(I)I"⟩, 7), (⟨"SpanningTreeProtocol$Ticker", "sendMessages", "()V"⟩, 6), (⟨"SpanningTreeProtocol$Ticker", "ageToSend", "(I)I"⟩, 6), (⟨"SpanningTreeProtocol$Ticker", "rankSender", "(I)V"⟩, 6), (⟨"SpanningTreeProtocol$Ticker", "isBetterSender", "(II)Z"⟩, 6), (⟨"SpanningTreeProtocol$Ticker", "takesMessage", "(I)Z"⟩, 6), (⟨"SpanningTreeProtocol$Ticker", "accepts", "(IJ)Z"⟩, 6), (⟨"SpanningTreeProtocol$Ticker", "moveStates", "()Z"⟩, 6), (⟨"SpanningTreeProtocol$Ticker", "moveState", "(II)V"⟩, 6)]
theorem lw_r1 : ∀ q ∈ lw_privs_1, lw_okq q := List.forall_mem_cons.mpr ⟨lw_p0, List.forall_mem_cons.mpr ⟨lw_p1, List.forall_mem_cons.mpr ⟨lw_p2, List.forall_mem_cons.mpr ⟨lw_p3, List.forall_mem_cons.mpr ⟨lw_p4, List.forall_mem_cons.mpr ⟨lw_p5, List.forall_mem_cons.mpr ⟨lw_p6, List.forall_mem_cons.mpr ⟨lw_p7, List.forall_mem_cons.mpr ⟨lw_p8, List.forall_mem_cons.mpr ⟨lw_p9, List.forall_mem_cons.mpr ⟨lw_p10, List.forall_mem_cons.mpr ⟨lw_p11, List.forall_mem_cons.mpr ⟨lw_p12, List.forall_mem_cons.mpr ⟨lw_p13, List.forall_mem_cons.mpr ⟨lw_p14, List.forall_mem_cons.mpr ⟨lw_p15, fun _ h => absurd h List.not_mem_nil⟩⟩⟩⟩⟩⟩⟩⟩⟩⟩⟩⟩⟩⟩⟩⟩
theorem lw_p16 : lw_okq (⟨"SpanningTreeProtocol$Ticker", "enterState", "(III)V"⟩, 6) := ⟨⟨by decide +kernel, by decide +kernel⟩, List.mem_of_getElem? (i := 157) (by decide +kernel), List.mem_of_getElem? (i := 442) (by decide +kernel), List.mem_of_getElem? (i := 443) (by decide +kernel)⟩
theorem lw_p17 : lw_okq (⟨"SpanningTreeProtocol$Ticker", "moveTowardsForwarding", "(I)V"⟩, 6) := ⟨⟨by decide +kernel, by decide +kernel⟩, List.mem_of_getElem? (i := 157) (by decide +kernel), List.mem_of_getElem? (i := 446) (by decide +kernel), List.mem_of_getElem? (i := 447) (by decide +kernel)⟩
theorem lw_p18 : lw_okq (⟨"SpanningTreeProtocol$Topology", "countVertices", "()I"⟩, 2) := ⟨⟨by decide +kernel, by decide +kernel⟩, List.mem_of_getElem? (i := 201) (by decide +kernel), List.mem_of_getElem? (i := 507) (by decide +kernel), List.mem_of_getElem? (i := 508) (by decide +kernel)⟩
theorem lw_p19 : lw_okq (⟨"SpanningTreeProtocol$Topology", "join", "(I)Z"⟩, 2) := ⟨⟨by decide +kernel, by decide +kernel⟩, List.mem_of_getElem? (i := 201) (by decide +kernel), List.mem_of_getElem? (i := 516) (by decide +kernel), List.mem_of_getElem? (i := 517) (by decide +kernel)⟩
theorem lw_p20 : lw_okq (⟨"SpanningTreeProtocol$Frame", "transmit", "(II)V"⟩, 4) := ⟨⟨by decide +kernel, by decide +kernel⟩, List.mem_of_getElem? (i := 182) (by decide +kernel), List.mem_of_getElem? (i := 537) (by decide +kernel), List.mem_of_getElem? (i := 538) (by decide +kernel)⟩
theorem lw_p21 : lw_okq (⟨"SpanningTreeProtocol$Frame", "visitPorts", "(IIII)V"⟩, 4) := ⟨⟨by decide +kernel, by decide +kernel⟩, List.mem_of_getElem? (i := 182) (by decide +kernel), List.mem_of_getElem? (i := 541) (by decide +kernel), List.mem_of_getElem? (i := 542) (by decide +kernel)⟩
theorem lw_p22 : lw_okq (⟨"SpanningTreeProtocol$Frame", "visitPort", "(III)V"⟩, 4) := ⟨⟨by decide +kernel, by decide +kernel⟩, List.mem_of_getElem? (i := 182) (by decide +kernel), List.mem_of_getElem? (i := 546) (by decide +kernel), List.mem_of_getElem? (i := 547) (by decide +kernel)⟩
theorem lw_p23 : lw_okq (⟨"SpanningTreeProtocol$Frame", "passOn", "(II)V"⟩, 4) := ⟨⟨by decide +kernel, by decide +kernel⟩, List.mem_of_getElem? (i := 182) (by decide +kernel), List.mem_of_getElem? (i := 557) (by decide +kernel), List.mem_of_getElem? (i := 558) (by decide +kernel)⟩
theorem lw_p24 : lw_okq (⟨"SpanningTreeProtocol$Frame", "flood", "(II)V"⟩, 4) := ⟨⟨by decide +kernel, by decide +kernel⟩, List.mem_of_getElem? (i := 182) (by decide +kernel), List.mem_of_getElem? (i := 566) (by decide +kernel), List.mem_of_getElem? (i := 567) (by decide +kernel)⟩
theorem lw_p25 : lw_okq (⟨"SpanningTreeProtocolModel", "isBridge", "(I)Z"⟩, 16) := ⟨⟨by decide +kernel, by decide +kernel⟩, List.mem_of_getElem? (i := 607) (by decide +kernel), List.mem_of_getElem? (i := 678) (by decide +kernel), List.mem_of_getElem? (i := 679) (by decide +kernel)⟩
theorem lw_p26 : lw_okq (⟨"SpanningTreeProtocolModel", "isSegment", "(I)Z"⟩, 16) := ⟨⟨by decide +kernel, by decide +kernel⟩, List.mem_of_getElem? (i := 607) (by decide +kernel), List.mem_of_getElem? (i := 682) (by decide +kernel), List.mem_of_getElem? (i := 683) (by decide +kernel)⟩
theorem lw_p27 : lw_okq (⟨"SpanningTreeProtocolModel", "ports", "()I"⟩, 16) := ⟨⟨by decide +kernel, by decide +kernel⟩, List.mem_of_getElem? (i := 607) (by decide +kernel), List.mem_of_getElem? (i := 686) (by decide +kernel), List.mem_of_getElem? (i := 687) (by decide +kernel)⟩
theorem lw_p28 : lw_okq (⟨"SpanningTreeProtocolModel", "isActive", "(I)Z"⟩, 16) := ⟨⟨by decide +kernel, by decide +kernel⟩, List.mem_of_getElem? (i := 607) (by decide +kernel), List.mem_of_getElem? (i := 690) (by decide +kernel), List.mem_of_getElem? (i := 691) (by decide +kernel)⟩
theorem lw_p29 : lw_okq (⟨"SpanningTreeProtocolModel", "bridgeOf", "(I)I"⟩, 16) := ⟨⟨by decide +kernel, by decide +kernel⟩, List.mem_of_getElem? (i := 607) (by decide +kernel), List.mem_of_getElem? (i := 694) (by decide +kernel), List.mem_of_getElem? (i := 695) (by decide +kernel)⟩
theorem lw_p30 : lw_okq (⟨"SpanningTreeProtocolModel", "set", "(II)I"⟩, 16) := ⟨⟨by decide +kernel, by decide +kernel⟩, List.mem_of_getElem? (i := 607) (by decide +kernel), List.mem_of_getElem? (i := 706) (by decide +kernel), List.mem_of_getElem? (i := 707) (by decide +kernel)⟩
theorem lw_p31 : lw_okq (⟨"SpanningTreeProtocolModel", "isPort", "(I)Z"⟩, 16) := ⟨⟨by decide +kernel, by decide +kernel⟩, List.mem_of_getElem? (i := 607) (by decide +kernel), List.mem_of_getElem? (i := 714) (by decide +kernel), List.mem_of_getElem? (i := 715) (by decide +kernel)⟩
def lw_privs_2 : List (MethodName × Nat) := [(⟨"SpanningTreeProtocol$Ticker", "enterState", "(III)V"⟩, 6), (⟨"SpanningTreeProtocol$Ticker", "moveTowardsForwarding", "(I)V"⟩, 6), (⟨"SpanningTreeProtocol$Topology", "countVertices", "()I"⟩, 2), (⟨"SpanningTreeProtocol$Topology", "join", "(I)Z"⟩, 2), (⟨"SpanningTreeProtocol$Frame", "transmit", "(II)V"⟩, 4), (⟨"SpanningTreeProtocol$Frame", "visitPorts", "(IIII)V"⟩, 4), (⟨"SpanningTreeProtocol$Frame", "visitPort", "(III)V"⟩, 4), (⟨"SpanningTreeProtocol$Frame", "passOn", "(II)V"⟩, 4), (⟨"SpanningTreeProtocol$Frame", "flood", "(II)V"⟩, 4), (⟨"SpanningTreeProtocolModel", "isBridge", "(I)Z"⟩, 16), (⟨"SpanningTreeProtocolModel", "isSegment", "(I)Z"⟩, 16), (⟨"SpanningTreeProtocolModel", "ports", "()I"⟩, 16), (⟨"SpanningTreeProtocolModel", "isActive", "(I)Z"⟩, 16), (⟨"SpanningTreeProtocolModel", "bridgeOf", "(I)I"⟩, 16), (⟨"SpanningTreeProtocolModel", "set", "(II)I"⟩, 16), (⟨"SpanningTreeProtocolModel", "isPort", "(I)Z"⟩, 16)]
theorem lw_r2 : ∀ q ∈ lw_privs_2, lw_okq q := List.forall_mem_cons.mpr ⟨lw_p16, List.forall_mem_cons.mpr ⟨lw_p17, List.forall_mem_cons.mpr ⟨lw_p18, List.forall_mem_cons.mpr ⟨lw_p19, List.forall_mem_cons.mpr ⟨lw_p20, List.forall_mem_cons.mpr ⟨lw_p21, List.forall_mem_cons.mpr ⟨lw_p22, List.forall_mem_cons.mpr ⟨lw_p23, List.forall_mem_cons.mpr ⟨lw_p24, List.forall_mem_cons.mpr ⟨lw_p25, List.forall_mem_cons.mpr ⟨lw_p26, List.forall_mem_cons.mpr ⟨lw_p27, List.forall_mem_cons.mpr ⟨lw_p28, List.forall_mem_cons.mpr ⟨lw_p29, List.forall_mem_cons.mpr ⟨lw_p30, List.forall_mem_cons.mpr ⟨lw_p31, fun _ h => absurd h List.not_mem_nil⟩⟩⟩⟩⟩⟩⟩⟩⟩⟩⟩⟩⟩⟩⟩⟩
theorem lw_p32 : lw_okq (⟨"SpanningTreeProtocolModel", "turnAll", "(IZ)I"⟩, 16) := ⟨⟨by decide +kernel, by decide +kernel⟩, List.mem_of_getElem? (i := 607) (by decide +kernel), List.mem_of_getElem? (i := 722) (by decide +kernel), List.mem_of_getElem? (i := 723) (by decide +kernel)⟩
theorem lw_p33 : lw_okq (⟨"SpanningTreeProtocolModel", "turn", "(IZ)V"⟩, 16) := ⟨⟨by decide +kernel, by decide +kernel⟩, List.mem_of_getElem? (i := 607) (by decide +kernel), List.mem_of_getElem? (i := 726) (by decide +kernel), List.mem_of_getElem? (i := 727) (by decide +kernel)⟩
theorem lw_p34 : lw_okq (⟨"SpanningTreeProtocolModel", "isStation", "(I)Z"⟩, 16) := ⟨⟨by decide +kernel, by decide +kernel⟩, List.mem_of_getElem? (i := 607) (by decide +kernel), List.mem_of_getElem? (i := 738) (by decide +kernel), List.mem_of_getElem? (i := 739) (by decide +kernel)⟩
theorem lw_p35 : lw_okq (⟨"SpanningTreeProtocolModel", "tickOnce", "()Z"⟩, 16) := ⟨⟨by decide +kernel, by decide +kernel⟩, List.mem_of_getElem? (i := 607) (by decide +kernel), List.mem_of_getElem? (i := 746) (by decide +kernel), List.mem_of_getElem? (i := 747) (by decide +kernel)⟩
theorem lw_p36 : lw_okq (⟨"SpanningTreeProtocolModel", "layRoles", "()V"⟩, 16) := ⟨⟨by decide +kernel, by decide +kernel⟩, List.mem_of_getElem? (i := 607) (by decide +kernel), List.mem_of_getElem? (i := 750) (by decide +kernel), List.mem_of_getElem? (i := 751) (by decide +kernel)⟩
theorem lw_p37 : lw_okq (⟨"SpanningTreeProtocolModel", "layRoot", "(I)V"⟩, 16) := ⟨⟨by decide +kernel, by decide +kernel⟩, List.mem_of_getElem? (i := 607) (by decide +kernel), List.mem_of_getElem? (i := 754) (by decide +kernel), List.mem_of_getElem? (i := 755) (by decide +kernel)⟩
theorem lw_p38 : lw_okq (⟨"SpanningTreeProtocolModel", "stores", "(I)Z"⟩, 16) := ⟨⟨by decide +kernel, by decide +kernel⟩, List.mem_of_getElem? (i := 607) (by decide +kernel), List.mem_of_getElem? (i := 758) (by decide +kernel), List.mem_of_getElem? (i := 759) (by decide +kernel)⟩
theorem lw_p39 : lw_okq (⟨"SpanningTreeProtocolModel", "message", "(II)I"⟩, 16) := ⟨⟨by decide +kernel, by decide +kernel⟩, List.mem_of_getElem? (i := 607) (by decide +kernel), List.mem_of_getElem? (i := 762) (by decide +kernel), List.mem_of_getElem? (i := 763) (by decide +kernel)⟩
theorem lw_p40 : lw_okq (⟨"SpanningTreeProtocolModel", "idOf", "(I)I"⟩, 16) := ⟨⟨by decide +kernel, by decide +kernel⟩, List.mem_of_getElem? (i := 607) (by decide +kernel), List.mem_of_getElem? (i := 766) (by decide +kernel), List.mem_of_getElem? (i := 767) (by decide +kernel)⟩
theorem lw_p41 : lw_okq (⟨"SpanningTreeProtocolModel", "isBetterOffer", "(II)Z"⟩, 16) := ⟨⟨by decide +kernel, by decide +kernel⟩, List.mem_of_getElem? (i := 607) (by decide +kernel), List.mem_of_getElem? (i := 770) (by decide +kernel), List.mem_of_getElem? (i := 771) (by decide +kernel)⟩
theorem lw_p42 : lw_okq (⟨"SpanningTreeProtocolModel", "roleOf", "(I)I"⟩, 16) := ⟨⟨by decide +kernel, by decide +kernel⟩, List.mem_of_getElem? (i := 607) (by decide +kernel), List.mem_of_getElem? (i := 774) (by decide +kernel), List.mem_of_getElem? (i := 775) (by decide +kernel)⟩
theorem lw_p43 : lw_okq (⟨"SpanningTreeProtocolModel", "isOwnBetter", "(I)Z"⟩, 16) := ⟨⟨by decide +kernel, by decide +kernel⟩, List.mem_of_getElem? (i := 607) (by decide +kernel), List.mem_of_getElem? (i := 778) (by decide +kernel), List.mem_of_getElem? (i := 779) (by decide +kernel)⟩
theorem lw_p44 : lw_okq (⟨"SpanningTreeProtocolModel", "sendAll", "()V"⟩, 16) := ⟨⟨by decide +kernel, by decide +kernel⟩, List.mem_of_getElem? (i := 607) (by decide +kernel), List.mem_of_getElem? (i := 785) (by decide +kernel), List.mem_of_getElem? (i := 786) (by decide +kernel)⟩
theorem lw_p45 : lw_okq (⟨"SpanningTreeProtocolModel", "hear", "(I)V"⟩, 16) := ⟨⟨by decide +kernel, by decide +kernel⟩, List.mem_of_getElem? (i := 607) (by decide +kernel), List.mem_of_getElem? (i := 789) (by decide +kernel), List.mem_of_getElem? (i := 790) (by decide +kernel)⟩
theorem lw_p46 : lw_okq (⟨"SpanningTreeProtocolModel", "heardBy", "(I)I"⟩, 16) := ⟨⟨by decide +kernel, by decide +kernel⟩, List.mem_of_getElem? (i := 607) (by decide +kernel), List.mem_of_getElem? (i := 793) (by decide +kernel), List.mem_of_getElem? (i := 794) (by decide +kernel)⟩
theorem lw_p47 : lw_okq (⟨"SpanningTreeProtocolModel", "isBetterSent", "(II)Z"⟩, 16) := ⟨⟨by decide +kernel, by decide +kernel⟩, List.mem_of_getElem? (i := 607) (by decide +kernel), List.mem_of_getElem? (i := 797) (by decide +kernel), List.mem_of_getElem? (i := 798) (by decide +kernel)⟩
def lw_privs_3 : List (MethodName × Nat) := [(⟨"SpanningTreeProtocolModel", "turnAll", "(IZ)I"⟩, 16), (⟨"SpanningTreeProtocolModel", "turn", "(IZ)V"⟩, 16), (⟨"SpanningTreeProtocolModel", "isStation", "(I)Z"⟩, 16), (⟨"SpanningTreeProtocolModel", "tickOnce", "()Z"⟩, 16), (⟨"SpanningTreeProtocolModel", "layRoles", "()V"⟩, 16), (⟨"SpanningTreeProtocolModel", "layRoot", "(I)V"⟩, 16), (⟨"SpanningTreeProtocolModel", "stores", "(I)Z"⟩, 16), (⟨"SpanningTreeProtocolModel", "message", "(II)I"⟩, 16), (⟨"SpanningTreeProtocolModel", "idOf", "(I)I"⟩, 16), (⟨"SpanningTreeProtocolModel", "isBetterOffer", "(II)Z"⟩, 16), (⟨"SpanningTreeProtocolModel", "roleOf", "(I)I"⟩, 16), (⟨"SpanningTreeProtocolModel", "isOwnBetter", "(I)Z"⟩, 16), (⟨"SpanningTreeProtocolModel", "sendAll", "()V"⟩, 16), (⟨"SpanningTreeProtocolModel", "hear", "(I)V"⟩, 16), (⟨"SpanningTreeProtocolModel", "heardBy", "(I)I"⟩, 16), (⟨"SpanningTreeProtocolModel", "isBetterSent", "(II)Z"⟩, 16)]
theorem lw_r3 : ∀ q ∈ lw_privs_3, lw_okq q := List.forall_mem_cons.mpr ⟨lw_p32, List.forall_mem_cons.mpr ⟨lw_p33, List.forall_mem_cons.mpr ⟨lw_p34, List.forall_mem_cons.mpr ⟨lw_p35, List.forall_mem_cons.mpr ⟨lw_p36, List.forall_mem_cons.mpr ⟨lw_p37, List.forall_mem_cons.mpr ⟨lw_p38, List.forall_mem_cons.mpr ⟨lw_p39, List.forall_mem_cons.mpr ⟨lw_p40, List.forall_mem_cons.mpr ⟨lw_p41, List.forall_mem_cons.mpr ⟨lw_p42, List.forall_mem_cons.mpr ⟨lw_p43, List.forall_mem_cons.mpr ⟨lw_p44, List.forall_mem_cons.mpr ⟨lw_p45, List.forall_mem_cons.mpr ⟨lw_p46, List.forall_mem_cons.mpr ⟨lw_p47, fun _ h => absurd h List.not_mem_nil⟩⟩⟩⟩⟩⟩⟩⟩⟩⟩⟩⟩⟩⟩⟩⟩
theorem lw_p48 : lw_okq (⟨"SpanningTreeProtocolModel", "goOn", "(I)V"⟩, 16) := ⟨⟨by decide +kernel, by decide +kernel⟩, List.mem_of_getElem? (i := 607) (by decide +kernel), List.mem_of_getElem? (i := 801) (by decide +kernel), List.mem_of_getElem? (i := 802) (by decide +kernel)⟩
theorem lw_p49 : lw_okq (⟨"SpanningTreeProtocolModel", "isUp", "(I)Z"⟩, 16) := ⟨⟨by decide +kernel, by decide +kernel⟩, List.mem_of_getElem? (i := 607) (by decide +kernel), List.mem_of_getElem? (i := 817) (by decide +kernel), List.mem_of_getElem? (i := 818) (by decide +kernel)⟩
theorem lw_p50 : lw_okq (⟨"SpanningTreeProtocolModel", "joinAll", "()I"⟩, 16) := ⟨⟨by decide +kernel, by decide +kernel⟩, List.mem_of_getElem? (i := 607) (by decide +kernel), List.mem_of_getElem? (i := 849) (by decide +kernel), List.mem_of_getElem? (i := 850) (by decide +kernel)⟩
theorem lw_p51 : lw_okq (⟨"SpanningTreeProtocolModel", "partsNow", "()I"⟩, 16) := ⟨⟨by decide +kernel, by decide +kernel⟩, List.mem_of_getElem? (i := 607) (by decide +kernel), List.mem_of_getElem? (i := 853) (by decide +kernel), List.mem_of_getElem? (i := 854) (by decide +kernel)⟩
theorem lw_p52 : lw_okq (⟨"SpanningTreeProtocolModel", "isVertex", "(I)Z"⟩, 16) := ⟨⟨by decide +kernel, by decide +kernel⟩, List.mem_of_getElem? (i := 607) (by decide +kernel), List.mem_of_getElem? (i := 857) (by decide +kernel), List.mem_of_getElem? (i := 858) (by decide +kernel)⟩
theorem lw_p53 : lw_okq (⟨"SpanningTreeProtocolModel", "vertices", "()I"⟩, 16) := ⟨⟨by decide +kernel, by decide +kernel⟩, List.mem_of_getElem? (i := 607) (by decide +kernel), List.mem_of_getElem? (i := 865) (by decide +kernel), List.mem_of_getElem? (i := 866) (by decide +kernel)⟩
theorem lw_p54 : lw_okq (⟨"SpanningTreeProtocolModel", "transmit", "(II)V"⟩, 16) := ⟨⟨by decide +kernel, by decide +kernel⟩, List.mem_of_getElem? (i := 607) (by decide +kernel), List.mem_of_getElem? (i := 873) (by decide +kernel), List.mem_of_getElem? (i := 874) (by decide +kernel)⟩
theorem lw_p55 : lw_okq (⟨"SpanningTreeProtocolModel", "receive", "(III)V"⟩, 16) := ⟨⟨by decide +kernel, by decide +kernel⟩, List.mem_of_getElem? (i := 607) (by decide +kernel), List.mem_of_getElem? (i := 877) (by decide +kernel), List.mem_of_getElem? (i := 878) (by decide +kernel)⟩
def lw_privs_4 : List (MethodName × Nat) := [(⟨"SpanningTreeProtocolModel", "goOn", "(I)V"⟩, 16), (⟨"SpanningTreeProtocolModel", "isUp", "(I)Z"⟩, 16), (⟨"SpanningTreeProtocolModel", "joinAll", "()I"⟩, 16), (⟨"SpanningTreeProtocolModel", "partsNow", "()I"⟩, 16), (⟨"SpanningTreeProtocolModel", "isVertex", "(I)Z"⟩, 16), (⟨"SpanningTreeProtocolModel", "vertices", "()I"⟩, 16), (⟨"SpanningTreeProtocolModel", "transmit", "(II)V"⟩, 16), (⟨"SpanningTreeProtocolModel", "receive", "(III)V"⟩, 16)]
theorem lw_r4 : ∀ q ∈ lw_privs_4, lw_okq q := List.forall_mem_cons.mpr ⟨lw_p48, List.forall_mem_cons.mpr ⟨lw_p49, List.forall_mem_cons.mpr ⟨lw_p50, List.forall_mem_cons.mpr ⟨lw_p51, List.forall_mem_cons.mpr ⟨lw_p52, List.forall_mem_cons.mpr ⟨lw_p53, List.forall_mem_cons.mpr ⟨lw_p54, List.forall_mem_cons.mpr ⟨lw_p55, fun _ h => absurd h List.not_mem_nil⟩⟩⟩⟩⟩⟩⟩⟩
def lw_privs : List (MethodName × Nat) := lw_privs_1 ++ (lw_privs_2 ++ (lw_privs_3 ++ (lw_privs_4)))
def lw_tbl : List Cond := k2_sels lw_privs ++ tables_1
theorem lw_privs_ok : ∀ q ∈ lw_privs, lw_okq q := by
  show ∀ q ∈ lw_privs_1 ++ (lw_privs_2 ++ (lw_privs_3 ++ (lw_privs_4))), lw_okq q
  exact List.forall_mem_append.mpr ⟨lw_r1, List.forall_mem_append.mpr ⟨lw_r2, List.forall_mem_append.mpr ⟨lw_r3, lw_r4⟩⟩⟩
def RX0 : String := "SpanningTreeProtocol$Election"
def TX0 : u_T := fun k => match k with
  | 0 => ("SpanningTreeProtocol$Election", "net", "LSpanningTreeProtocol$Network;", true)
  | 1 => ("SpanningTreeProtocol$Election", "bridgeRoot", "[I", true)
  | 2 => ("SpanningTreeProtocol$Election", "bridgeRootCost", "[I", true)
  | 3 => ("SpanningTreeProtocol$Election", "bridgeRootPort", "[I", true)
  | 4 => ("SpanningTreeProtocol$Election", "portRole", "[I", true)
  | 5 => ("SpanningTreeProtocol$Election", "bestOffer", "[J", true)
  | _ => ("SpanningTreeProtocol$Election", "bestOfferPort", "[I", true)
def tyX0 : Nat → FieldType := fun k => match k with
  | 0 => .object "SpanningTreeProtocol$Network"
  | 1 => .array .int
  | 2 => .array .int
  | 3 => .array .int
  | 4 => .array .int
  | 5 => .array .long
  | _ => .array .int
abbrev wsX00 : List Cond := u_ws RX0 TX0 7
theorem nmX0 : ∀ a, a < 7 → ∀ b, b < 7 → a ≠ b → (TX0 a).2.1 ≠ (TX0 b).2.1 := by decide +kernel
theorem tyX0_ok : ∀ k, k < 7 → parseFieldDescriptor (TX0 k).2.2.1 = some (tyX0 k) := by decide +kernel
abbrev cX0_init : ByteArray := prog_2_method_1_code
def yX0_init : MethodName := ⟨RX0, "<init>", "(LSpanningTreeProtocol$Network;)V"⟩
abbrev cX0_elect : ByteArray := prog_2_method_2_code
def yX0_elect : MethodName := ⟨RX0, "elect", "()Z"⟩
abbrev cX0_findBestOffers : ByteArray := prog_2_method_3_code
def yX0_findBestOffers : MethodName := ⟨RX0, "findBestOffers", "()V"⟩
abbrev cX0_hasOffer : ByteArray := prog_2_method_4_code
def yX0_hasOffer : MethodName := ⟨RX0, "hasOffer", "(I)Z"⟩
abbrev cX0_isFromOwnBridge : ByteArray := prog_2_method_5_code
def yX0_isFromOwnBridge : MethodName := ⟨RX0, "isFromOwnBridge", "(I)Z"⟩
abbrev cX0_considerOffer : ByteArray := prog_2_method_6_code
def yX0_considerOffer : MethodName := ⟨RX0, "considerOffer", "(I)V"⟩
abbrev cX0_chooseRoot : ByteArray := prog_2_method_7_code
def yX0_chooseRoot : MethodName := ⟨RX0, "chooseRoot", "(I)V"⟩
abbrev cX0_roleFor : ByteArray := prog_2_method_8_code
def yX0_roleFor : MethodName := ⟨RX0, "roleFor", "(I)I"⟩
abbrev cX0_ownMessage : ByteArray := prog_2_method_9_code
def yX0_ownMessage : MethodName := ⟨RX0, "ownMessage", "(I)J"⟩
def RX1 : String := "SpanningTreeProtocol$Frame"
def TX1 : u_T := fun k => match k with
  | 0 => ("SpanningTreeProtocol$Frame", "net", "LSpanningTreeProtocol$Network;", true)
  | 1 => ("SpanningTreeProtocol$Frame", "queueSegment", "[I", true)
  | 2 => ("SpanningTreeProtocol$Frame", "queuePort", "[I", true)
  | _ => ("SpanningTreeProtocol$Frame", "made", "I", false)
def tyX1 : Nat → FieldType := fun k => match k with
  | 0 => .object "SpanningTreeProtocol$Network"
  | 1 => .array .int
  | 2 => .array .int
  | _ => .int
abbrev wsX10 : List Cond := u_ws RX1 TX1 4
theorem nmX1 : ∀ a, a < 4 → ∀ b, b < 4 → a ≠ b → (TX1 a).2.1 ≠ (TX1 b).2.1 := by decide +kernel
theorem tyX1_ok : ∀ k, k < 4 → parseFieldDescriptor (TX1 k).2.2.1 = some (tyX1 k) := by decide +kernel
abbrev cX1_init : ByteArray := prog_3_method_1_code
def yX1_init : MethodName := ⟨RX1, "<init>", "(LSpanningTreeProtocol$Network;)V"⟩
abbrev cX1_deliver : ByteArray := prog_3_method_2_code
def yX1_deliver : MethodName := ⟨RX1, "deliver", "(II)I"⟩
abbrev cX1_transmit : ByteArray := prog_3_method_3_code
def yX1_transmit : MethodName := ⟨RX1, "transmit", "(II)V"⟩
abbrev cX1_visitPorts : ByteArray := prog_3_method_4_code
def yX1_visitPorts : MethodName := ⟨RX1, "visitPorts", "(IIII)V"⟩
abbrev cX1_visitPort : ByteArray := prog_3_method_5_code
def yX1_visitPort : MethodName := ⟨RX1, "visitPort", "(III)V"⟩
abbrev cX1_passOn : ByteArray := prog_3_method_6_code
def yX1_passOn : MethodName := ⟨RX1, "passOn", "(II)V"⟩
abbrev cX1_flood : ByteArray := prog_3_method_7_code
def yX1_flood : MethodName := ⟨RX1, "flood", "(II)V"⟩
def RX2 : String := "SpanningTreeProtocol$Message"
def TX2 : u_T := fun k => match k with
  | _ => ("", "", "", false)
def tyX2 : Nat → FieldType := fun k => match k with
  | _ => .int
abbrev wsX20 : List Cond := u_ws RX2 TX2 0
theorem nmX2 : ∀ a, a < 0 → ∀ b, b < 0 → a ≠ b → (TX2 a).2.1 ≠ (TX2 b).2.1 := by decide +kernel
theorem tyX2_ok : ∀ k, k < 0 → parseFieldDescriptor (TX2 k).2.2.1 = some (tyX2 k) := by decide +kernel
abbrev cX2_of : ByteArray := prog_4_method_2_code
def yX2_of : MethodName := ⟨RX2, "of", "(IIII)J"⟩
abbrev cX2_rootOf : ByteArray := prog_4_method_3_code
def yX2_rootOf : MethodName := ⟨RX2, "rootOf", "(J)I"⟩
abbrev cX2_costOf : ByteArray := prog_4_method_4_code
def yX2_costOf : MethodName := ⟨RX2, "costOf", "(J)I"⟩
abbrev cX2_senderOf : ByteArray := prog_4_method_5_code
def yX2_senderOf : MethodName := ⟨RX2, "senderOf", "(J)I"⟩
abbrev cX2_senderPortOf : ByteArray := prog_4_method_6_code
def yX2_senderPortOf : MethodName := ⟨RX2, "senderPortOf", "(J)I"⟩
abbrev cX2_withCostAdded : ByteArray := prog_4_method_7_code
def yX2_withCostAdded : MethodName := ⟨RX2, "withCostAdded", "(JI)J"⟩
abbrev cX2_haveSameSource : ByteArray := prog_4_method_8_code
def yX2_haveSameSource : MethodName := ⟨RX2, "haveSameSource", "(JJ)Z"⟩
def RX3 : String := "SpanningTreeProtocol$Network"
def TX3 : u_T := fun k => match k with
  | 0 => ("SpanningTreeProtocol$Network", "bridgeCount", "I", false)
  | 1 => ("SpanningTreeProtocol$Network", "segmentCount", "I", false)
  | 2 => ("SpanningTreeProtocol$Network", "portCount", "I", false)
  | 3 => ("SpanningTreeProtocol$Network", "stationCount", "I", false)
  | 4 => ("SpanningTreeProtocol$Network", "time", "I", false)
  | 5 => ("SpanningTreeProtocol$Network", "priority", "[I", true)
  | 6 => ("SpanningTreeProtocol$Network", "bridgePower", "[I", true)
  | 7 => ("SpanningTreeProtocol$Network", "portBridge", "[I", true)
  | 8 => ("SpanningTreeProtocol$Network", "portSegment", "[I", true)
  | 9 => ("SpanningTreeProtocol$Network", "portCost", "[I", true)
  | 10 => ("SpanningTreeProtocol$Network", "portPower", "[I", true)
  | 11 => ("SpanningTreeProtocol$Network", "portState", "[I", true)
  | 12 => ("SpanningTreeProtocol$Network", "stateCounter", "[I", true)
  | 13 => ("SpanningTreeProtocol$Network", "message", "[J", true)
  | 14 => ("SpanningTreeProtocol$Network", "messageLifetime", "[I", true)
  | 15 => ("SpanningTreeProtocol$Network", "stationSegment", "[I", true)
  | 16 => ("SpanningTreeProtocol$Network", "entryPort", "[I", true)
  | 17 => ("SpanningTreeProtocol$Network", "entryLifetime", "[I", true)
  | _ => ("SpanningTreeProtocol$Network", "transmitted", "[I", true)
def tyX3 : Nat → FieldType := fun k => match k with
  | 0 => .int
  | 1 => .int
  | 2 => .int
  | 3 => .int
  | 4 => .int
  | 5 => .array .int
  | 6 => .array .int
  | 7 => .array .int
  | 8 => .array .int
  | 9 => .array .int
  | 10 => .array .int
  | 11 => .array .int
  | 12 => .array .int
  | 13 => .array .long
  | 14 => .array .int
  | 15 => .array .int
  | 16 => .array .int
  | 17 => .array .int
  | _ => .array .int
abbrev wsX30 : List Cond := u_ws RX3 TX3 19
theorem nmX3 : ∀ a, a < 19 → ∀ b, b < 19 → a ≠ b → (TX3 a).2.1 ≠ (TX3 b).2.1 := by decide +kernel
theorem tyX3_ok : ∀ k, k < 19 → parseFieldDescriptor (TX3 k).2.2.1 = some (tyX3 k) := by decide +kernel
abbrev cX3_init : ByteArray := prog_5_method_1_code
def yX3_init : MethodName := ⟨RX3, "<init>", "()V"⟩
abbrev cX3_copyFrom : ByteArray := prog_5_method_2_code
def yX3_copyFrom : MethodName := ⟨RX3, "copyFrom", "(LSpanningTreeProtocol$Network;)V"⟩
abbrev cX3_copyRow : ByteArray := prog_5_method_3_code
def yX3_copyRow : MethodName := ⟨RX3, "copyRow", "([I[I)V"⟩
abbrev cX3_hasBridge : ByteArray := prog_5_method_4_code
def yX3_hasBridge : MethodName := ⟨RX3, "hasBridge", "(I)Z"⟩
abbrev cX3_hasSegment : ByteArray := prog_5_method_5_code
def yX3_hasSegment : MethodName := ⟨RX3, "hasSegment", "(I)Z"⟩
abbrev cX3_hasPort : ByteArray := prog_5_method_6_code
def yX3_hasPort : MethodName := ⟨RX3, "hasPort", "(I)Z"⟩
abbrev cX3_hasStation : ByteArray := prog_5_method_7_code
def yX3_hasStation : MethodName := ⟨RX3, "hasStation", "(I)Z"⟩
abbrev cX3_appendBridge : ByteArray := prog_5_method_8_code
def yX3_appendBridge : MethodName := ⟨RX3, "appendBridge", "(I)I"⟩
abbrev cX3_appendSegment : ByteArray := prog_5_method_9_code
def yX3_appendSegment : MethodName := ⟨RX3, "appendSegment", "()I"⟩
abbrev cX3_appendPort : ByteArray := prog_5_method_10_code
def yX3_appendPort : MethodName := ⟨RX3, "appendPort", "(III)I"⟩
abbrev cX3_appendStation : ByteArray := prog_5_method_11_code
def yX3_appendStation : MethodName := ⟨RX3, "appendStation", "(I)I"⟩
abbrev cX3_identifierOf : ByteArray := prog_5_method_12_code
def yX3_identifierOf : MethodName := ⟨RX3, "identifierOf", "(I)I"⟩
abbrev cX3_isBridgeUp : ByteArray := prog_5_method_13_code
def yX3_isBridgeUp : MethodName := ⟨RX3, "isBridgeUp", "(I)Z"⟩
abbrev cX3_isActive : ByteArray := prog_5_method_14_code
def yX3_isActive : MethodName := ⟨RX3, "isActive", "(I)Z"⟩
abbrev cX3_isForwarding : ByteArray := prog_5_method_15_code
def yX3_isForwarding : MethodName := ⟨RX3, "isForwarding", "(I)Z"⟩
abbrev cX3_storesMessage : ByteArray := prog_5_method_16_code
def yX3_storesMessage : MethodName := ⟨RX3, "storesMessage", "(I)Z"⟩
abbrev cX3_switchBridge : ByteArray := prog_5_method_17_code
def yX3_switchBridge : MethodName := ⟨RX3, "switchBridge", "(II)I"⟩
abbrev cX3_switchPort : ByteArray := prog_5_method_18_code
def yX3_switchPort : MethodName := ⟨RX3, "switchPort", "(II)I"⟩
abbrev cX3_resetPort : ByteArray := prog_5_method_19_code
def yX3_resetPort : MethodName := ⟨RX3, "resetPort", "(I)V"⟩
abbrev cX3_forgetEntriesWith : ByteArray := prog_5_method_20_code
def yX3_forgetEntriesWith : MethodName := ⟨RX3, "forgetEntriesWith", "(I)V"⟩
abbrev cX3_learnedPort : ByteArray := prog_5_method_21_code
def yX3_learnedPort : MethodName := ⟨RX3, "learnedPort", "(II)I"⟩
abbrev cX3_learn : ByteArray := prog_5_method_22_code
def yX3_learn : MethodName := ⟨RX3, "learn", "(II)V"⟩
abbrev cX3_ageEntries : ByteArray := prog_5_method_23_code
def yX3_ageEntries : MethodName := ⟨RX3, "ageEntries", "()V"⟩
abbrev cX3_ageMessage : ByteArray := prog_5_method_24_code
def yX3_ageMessage : MethodName := ⟨RX3, "ageMessage", "(I)V"⟩
abbrev cX3_entryIndex : ByteArray := prog_5_method_25_code
def yX3_entryIndex : MethodName := ⟨RX3, "entryIndex", "(II)I"⟩
def RX4 : String := "SpanningTreeProtocol$Ticker"
def TX4 : u_T := fun k => match k with
  | 0 => ("SpanningTreeProtocol$Ticker", "net", "LSpanningTreeProtocol$Network;", true)
  | 1 => ("SpanningTreeProtocol$Ticker", "election", "LSpanningTreeProtocol$Election;", true)
  | 2 => ("SpanningTreeProtocol$Ticker", "sentMessage", "[J", true)
  | 3 => ("SpanningTreeProtocol$Ticker", "sentAge", "[I", true)
  | 4 => ("SpanningTreeProtocol$Ticker", "bestSender", "[I", true)
  | _ => ("SpanningTreeProtocol$Ticker", "nextBestSender", "[I", true)
def tyX4 : Nat → FieldType := fun k => match k with
  | 0 => .object "SpanningTreeProtocol$Network"
  | 1 => .object "SpanningTreeProtocol$Election"
  | 2 => .array .long
  | 3 => .array .int
  | 4 => .array .int
  | _ => .array .int
abbrev wsX40 : List Cond := u_ws RX4 TX4 6
theorem nmX4 : ∀ a, a < 6 → ∀ b, b < 6 → a ≠ b → (TX4 a).2.1 ≠ (TX4 b).2.1 := by decide +kernel
theorem tyX4_ok : ∀ k, k < 6 → parseFieldDescriptor (TX4 k).2.2.1 = some (tyX4 k) := by decide +kernel
abbrev cX4_init : ByteArray := prog_6_method_1_code
def yX4_init : MethodName := ⟨RX4, "<init>", "(LSpanningTreeProtocol$Network;LSpanningTreeProtocol$Election;)V"⟩
abbrev cX4_makeTick : ByteArray := prog_6_method_2_code
def yX4_makeTick : MethodName := ⟨RX4, "makeTick", "()Z"⟩
abbrev cX4_sendMessages : ByteArray := prog_6_method_3_code
def yX4_sendMessages : MethodName := ⟨RX4, "sendMessages", "()V"⟩
abbrev cX4_ageToSend : ByteArray := prog_6_method_4_code
def yX4_ageToSend : MethodName := ⟨RX4, "ageToSend", "(I)I"⟩
abbrev cX4_rankSender : ByteArray := prog_6_method_5_code
def yX4_rankSender : MethodName := ⟨RX4, "rankSender", "(I)V"⟩
abbrev cX4_isBetterSender : ByteArray := prog_6_method_6_code
def yX4_isBetterSender : MethodName := ⟨RX4, "isBetterSender", "(II)Z"⟩
abbrev cX4_takesMessage : ByteArray := prog_6_method_7_code
def yX4_takesMessage : MethodName := ⟨RX4, "takesMessage", "(I)Z"⟩
abbrev cX4_accepts : ByteArray := prog_6_method_8_code
def yX4_accepts : MethodName := ⟨RX4, "accepts", "(IJ)Z"⟩
abbrev cX4_moveStates : ByteArray := prog_6_method_9_code
def yX4_moveStates : MethodName := ⟨RX4, "moveStates", "()Z"⟩
abbrev cX4_moveState : ByteArray := prog_6_method_10_code
def yX4_moveState : MethodName := ⟨RX4, "moveState", "(II)V"⟩
abbrev cX4_moveTowardsForwarding : ByteArray := prog_6_method_11_code
def yX4_moveTowardsForwarding : MethodName := ⟨RX4, "moveTowardsForwarding", "(I)V"⟩
abbrev cX4_enterState : ByteArray := prog_6_method_12_code
def yX4_enterState : MethodName := ⟨RX4, "enterState", "(III)V"⟩
def RX5 : String := "SpanningTreeProtocol$Topology"
def TX5 : u_T := fun k => match k with
  | 0 => ("SpanningTreeProtocol$Topology", "net", "LSpanningTreeProtocol$Network;", true)
  | _ => ("SpanningTreeProtocol$Topology", "label", "[I", true)
def tyX5 : Nat → FieldType := fun k => match k with
  | 0 => .object "SpanningTreeProtocol$Network"
  | _ => .array .int
abbrev wsX50 : List Cond := u_ws RX5 TX5 2
theorem nmX5 : ∀ a, a < 2 → ∀ b, b < 2 → a ≠ b → (TX5 a).2.1 ≠ (TX5 b).2.1 := by decide +kernel
theorem tyX5_ok : ∀ k, k < 2 → parseFieldDescriptor (TX5 k).2.2.1 = some (tyX5 k) := by decide +kernel
abbrev cX5_init : ByteArray := prog_7_method_1_code
def yX5_init : MethodName := ⟨RX5, "<init>", "(LSpanningTreeProtocol$Network;)V"⟩
abbrev cX5_countParts : ByteArray := prog_7_method_2_code
def yX5_countParts : MethodName := ⟨RX5, "countParts", "()I"⟩
abbrev cX5_countLoops : ByteArray := prog_7_method_3_code
def yX5_countLoops : MethodName := ⟨RX5, "countLoops", "()I"⟩
abbrev cX5_countVertices : ByteArray := prog_7_method_4_code
def yX5_countVertices : MethodName := ⟨RX5, "countVertices", "()I"⟩
abbrev cX5_join : ByteArray := prog_7_method_5_code
def yX5_join : MethodName := ⟨RX5, "join", "(I)Z"⟩
def RX6 : String := "SpanningTreeProtocol"
def TX6 : u_T := fun k => match k with
  | 0 => ("SpanningTreeProtocol", "network", "LSpanningTreeProtocol$Network;", true)
  | 1 => ("SpanningTreeProtocol", "election", "LSpanningTreeProtocol$Election;", true)
  | 2 => ("SpanningTreeProtocol", "ticker", "LSpanningTreeProtocol$Ticker;", true)
  | 3 => ("SpanningTreeProtocol", "frame", "LSpanningTreeProtocol$Frame;", true)
  | 4 => ("SpanningTreeProtocol", "topology", "LSpanningTreeProtocol$Topology;", true)
  | _ => ("SpanningTreeProtocol", "saved", "[LSpanningTreeProtocol$Network;", true)
def tyX6 : Nat → FieldType := fun k => match k with
  | 0 => .object "SpanningTreeProtocol$Network"
  | 1 => .object "SpanningTreeProtocol$Election"
  | 2 => .object "SpanningTreeProtocol$Ticker"
  | 3 => .object "SpanningTreeProtocol$Frame"
  | 4 => .object "SpanningTreeProtocol$Topology"
  | _ => .array (.object "SpanningTreeProtocol$Network")
abbrev wsX60 : List Cond := u_ws RX6 TX6 6
theorem nmX6 : ∀ a, a < 6 → ∀ b, b < 6 → a ≠ b → (TX6 a).2.1 ≠ (TX6 b).2.1 := by decide +kernel
theorem tyX6_ok : ∀ k, k < 6 → parseFieldDescriptor (TX6 k).2.2.1 = some (tyX6 k) := by decide +kernel
abbrev cX6_init : ByteArray := prog_1_method_1_code
def yX6_init : MethodName := ⟨RX6, "<init>", "()V"⟩
abbrev cX6_addBridge : ByteArray := prog_1_method_2_code
def yX6_addBridge : MethodName := ⟨RX6, "addBridge", "(I)I"⟩
abbrev cX6_addSegment : ByteArray := prog_1_method_3_code
def yX6_addSegment : MethodName := ⟨RX6, "addSegment", "()I"⟩
abbrev cX6_addPort : ByteArray := prog_1_method_4_code
def yX6_addPort : MethodName := ⟨RX6, "addPort", "(III)I"⟩
abbrev cX6_addStation : ByteArray := prog_1_method_5_code
def yX6_addStation : MethodName := ⟨RX6, "addStation", "(I)I"⟩
abbrev cX6_setPriority : ByteArray := prog_1_method_6_code
def yX6_setPriority : MethodName := ⟨RX6, "setPriority", "(II)I"⟩
abbrev cX6_setCost : ByteArray := prog_1_method_7_code
def yX6_setCost : MethodName := ⟨RX6, "setCost", "(II)I"⟩
abbrev cX6_setBridge : ByteArray := prog_1_method_8_code
def yX6_setBridge : MethodName := ⟨RX6, "setBridge", "(IZ)I"⟩
abbrev cX6_setPort : ByteArray := prog_1_method_9_code
def yX6_setPort : MethodName := ⟨RX6, "setPort", "(IZ)I"⟩
abbrev cX6_moveStation : ByteArray := prog_1_method_10_code
def yX6_moveStation : MethodName := ⟨RX6, "moveStation", "(II)I"⟩
abbrev cX6_tick : ByteArray := prog_1_method_11_code
def yX6_tick : MethodName := ⟨RX6, "tick", "(I)I"⟩
abbrev cX6_settle : ByteArray := prog_1_method_12_code
def yX6_settle : MethodName := ⟨RX6, "settle", "(I)I"⟩
abbrev cX6_identifier : ByteArray := prog_1_method_13_code
def yX6_identifier : MethodName := ⟨RX6, "identifier", "(I)I"⟩
abbrev cX6_root : ByteArray := prog_1_method_14_code
def yX6_root : MethodName := ⟨RX6, "root", "(I)I"⟩
abbrev cX6_rootCost : ByteArray := prog_1_method_15_code
def yX6_rootCost : MethodName := ⟨RX6, "rootCost", "(I)I"⟩
abbrev cX6_rootPort : ByteArray := prog_1_method_16_code
def yX6_rootPort : MethodName := ⟨RX6, "rootPort", "(I)I"⟩
abbrev cX6_role : ByteArray := prog_1_method_17_code
def yX6_role : MethodName := ⟨RX6, "role", "(I)I"⟩
abbrev cX6_state : ByteArray := prog_1_method_18_code
def yX6_state : MethodName := ⟨RX6, "state", "(I)I"⟩
abbrev cX6_stored : ByteArray := prog_1_method_19_code
def yX6_stored : MethodName := ⟨RX6, "stored", "(II)I"⟩
abbrev cX6_portsIn : ByteArray := prog_1_method_20_code
def yX6_portsIn : MethodName := ⟨RX6, "portsIn", "(I)I"⟩
abbrev cX6_parts : ByteArray := prog_1_method_21_code
def yX6_parts : MethodName := ⟨RX6, "parts", "()I"⟩
abbrev cX6_loops : ByteArray := prog_1_method_22_code
def yX6_loops : MethodName := ⟨RX6, "loops", "()I"⟩
abbrev cX6_send : ByteArray := prog_1_method_23_code
def yX6_send : MethodName := ⟨RX6, "send", "(II)I"⟩
abbrev cX6_transmissions : ByteArray := prog_1_method_24_code
def yX6_transmissions : MethodName := ⟨RX6, "transmissions", "(I)I"⟩
abbrev cX6_entry : ByteArray := prog_1_method_25_code
def yX6_entry : MethodName := ⟨RX6, "entry", "(II)I"⟩
abbrev cX6_count : ByteArray := prog_1_method_26_code
def yX6_count : MethodName := ⟨RX6, "count", "(I)I"⟩
abbrev cX6_save : ByteArray := prog_1_method_27_code
def yX6_save : MethodName := ⟨RX6, "save", "(I)I"⟩
abbrev cX6_restore : ByteArray := prog_1_method_28_code
def yX6_restore : MethodName := ⟨RX6, "restore", "(I)I"⟩
abbrev cX6_isPriority : ByteArray := prog_1_method_29_code
def yX6_isPriority : MethodName := ⟨RX6, "isPriority", "(I)Z"⟩
abbrev cX6_isCost : ByteArray := prog_1_method_30_code
def yX6_isCost : MethodName := ⟨RX6, "isCost", "(I)Z"⟩
abbrev cX6_isSlot : ByteArray := prog_1_method_31_code
def yX6_isSlot : MethodName := ⟨RX6, "isSlot", "(I)Z"⟩
def RX7 : String := "SpanningTreeProtocolModel"
def TX7 : u_T := fun k => match k with
  | 0 => ("SpanningTreeProtocolModel", "at", "[I", true)
  | 1 => ("SpanningTreeProtocolModel", "slots", "[I", true)
  | 2 => ("SpanningTreeProtocolModel", "isSaved", "[Z", true)
  | 3 => ("SpanningTreeProtocolModel", "wasActive", "[Z", true)
  | 4 => ("SpanningTreeProtocolModel", "rootPorts", "[I", true)
  | 5 => ("SpanningTreeProtocolModel", "roots", "[I", true)
  | 6 => ("SpanningTreeProtocolModel", "rootCosts", "[I", true)
  | 7 => ("SpanningTreeProtocolModel", "roles", "[I", true)
  | 8 => ("SpanningTreeProtocolModel", "ages", "[I", true)
  | 9 => ("SpanningTreeProtocolModel", "sentRoot", "[I", true)
  | 10 => ("SpanningTreeProtocolModel", "sentCost", "[I", true)
  | 11 => ("SpanningTreeProtocolModel", "rolesBefore", "[I", true)
  | 12 => ("SpanningTreeProtocolModel", "part", "[I", true)
  | 13 => ("SpanningTreeProtocolModel", "onSegment", "[I", true)
  | 14 => ("SpanningTreeProtocolModel", "byPort", "[I", true)
  | _ => ("SpanningTreeProtocolModel", "made", "I", false)
def tyX7 : Nat → FieldType := fun k => match k with
  | 0 => .array .int
  | 1 => .array .int
  | 2 => .array .boolean
  | 3 => .array .boolean
  | 4 => .array .int
  | 5 => .array .int
  | 6 => .array .int
  | 7 => .array .int
  | 8 => .array .int
  | 9 => .array .int
  | 10 => .array .int
  | 11 => .array .int
  | 12 => .array .int
  | 13 => .array .int
  | 14 => .array .int
  | _ => .int
abbrev wsX70 : List Cond := u_ws RX7 TX7 16
theorem nmX7 : ∀ a, a < 16 → ∀ b, b < 16 → a ≠ b → (TX7 a).2.1 ≠ (TX7 b).2.1 := by decide +kernel
theorem tyX7_ok : ∀ k, k < 16 → parseFieldDescriptor (TX7 k).2.2.1 = some (tyX7 k) := by decide +kernel
abbrev cX7_init : ByteArray := prog_9_method_1_code
def yX7_init : MethodName := ⟨RX7, "<init>", "()V"⟩
abbrev cX7_in : ByteArray := prog_9_method_2_code
def yX7_in : MethodName := ⟨RX7, "in", "(III)Z"⟩
abbrev cX7_isBridge : ByteArray := prog_9_method_3_code
def yX7_isBridge : MethodName := ⟨RX7, "isBridge", "(I)Z"⟩
abbrev cX7_isSegment : ByteArray := prog_9_method_4_code
def yX7_isSegment : MethodName := ⟨RX7, "isSegment", "(I)Z"⟩
abbrev cX7_isPort : ByteArray := prog_9_method_5_code
def yX7_isPort : MethodName := ⟨RX7, "isPort", "(I)Z"⟩
abbrev cX7_isStation : ByteArray := prog_9_method_6_code
def yX7_isStation : MethodName := ⟨RX7, "isStation", "(I)Z"⟩
abbrev cX7_ports : ByteArray := prog_9_method_7_code
def yX7_ports : MethodName := ⟨RX7, "ports", "()I"⟩
abbrev cX7_bridgeOf : ByteArray := prog_9_method_8_code
def yX7_bridgeOf : MethodName := ⟨RX7, "bridgeOf", "(I)I"⟩
abbrev cX7_isActive : ByteArray := prog_9_method_9_code
def yX7_isActive : MethodName := ⟨RX7, "isActive", "(I)Z"⟩
abbrev cX7_idOf : ByteArray := prog_9_method_10_code
def yX7_idOf : MethodName := ⟨RX7, "idOf", "(I)I"⟩
abbrev cX7_message : ByteArray := prog_9_method_11_code
def yX7_message : MethodName := ⟨RX7, "message", "(II)I"⟩
abbrev cX7_stores : ByteArray := prog_9_method_12_code
def yX7_stores : MethodName := ⟨RX7, "stores", "(I)Z"⟩
abbrev cX7_addBridge : ByteArray := prog_9_method_13_code
def yX7_addBridge : MethodName := ⟨RX7, "addBridge", "(I)I"⟩
abbrev cX7_addSegment : ByteArray := prog_9_method_14_code
def yX7_addSegment : MethodName := ⟨RX7, "addSegment", "()I"⟩
abbrev cX7_addPort : ByteArray := prog_9_method_15_code
def yX7_addPort : MethodName := ⟨RX7, "addPort", "(III)I"⟩
abbrev cX7_addStation : ByteArray := prog_9_method_16_code
def yX7_addStation : MethodName := ⟨RX7, "addStation", "(I)I"⟩
abbrev cX7_set : ByteArray := prog_9_method_17_code
def yX7_set : MethodName := ⟨RX7, "set", "(II)I"⟩
abbrev cX7_setPriority : ByteArray := prog_9_method_18_code
def yX7_setPriority : MethodName := ⟨RX7, "setPriority", "(II)I"⟩
abbrev cX7_setCost : ByteArray := prog_9_method_19_code
def yX7_setCost : MethodName := ⟨RX7, "setCost", "(II)I"⟩
abbrev cX7_turn : ByteArray := prog_9_method_20_code
def yX7_turn : MethodName := ⟨RX7, "turn", "(IZ)V"⟩
abbrev cX7_turnAll : ByteArray := prog_9_method_21_code
def yX7_turnAll : MethodName := ⟨RX7, "turnAll", "(IZ)I"⟩
abbrev cX7_setBridge : ByteArray := prog_9_method_22_code
def yX7_setBridge : MethodName := ⟨RX7, "setBridge", "(IZ)I"⟩
abbrev cX7_setPort : ByteArray := prog_9_method_23_code
def yX7_setPort : MethodName := ⟨RX7, "setPort", "(IZ)I"⟩
abbrev cX7_moveStation : ByteArray := prog_9_method_24_code
def yX7_moveStation : MethodName := ⟨RX7, "moveStation", "(II)I"⟩
abbrev cX7_isBetterOffer : ByteArray := prog_9_method_25_code
def yX7_isBetterOffer : MethodName := ⟨RX7, "isBetterOffer", "(II)Z"⟩
abbrev cX7_layRoot : ByteArray := prog_9_method_26_code
def yX7_layRoot : MethodName := ⟨RX7, "layRoot", "(I)V"⟩
abbrev cX7_isBetter : ByteArray := prog_9_method_27_code
def yX7_isBetter : MethodName := ⟨RX7, "isBetter", "(IIIIIIII)Z"⟩
abbrev cX7_isOwnBetter : ByteArray := prog_9_method_28_code
def yX7_isOwnBetter : MethodName := ⟨RX7, "isOwnBetter", "(I)Z"⟩
abbrev cX7_roleOf : ByteArray := prog_9_method_29_code
def yX7_roleOf : MethodName := ⟨RX7, "roleOf", "(I)I"⟩
abbrev cX7_layRoles : ByteArray := prog_9_method_30_code
def yX7_layRoles : MethodName := ⟨RX7, "layRoles", "()V"⟩
abbrev cX7_sendAll : ByteArray := prog_9_method_31_code
def yX7_sendAll : MethodName := ⟨RX7, "sendAll", "()V"⟩
abbrev cX7_isBetterSent : ByteArray := prog_9_method_32_code
def yX7_isBetterSent : MethodName := ⟨RX7, "isBetterSent", "(II)Z"⟩
abbrev cX7_heardBy : ByteArray := prog_9_method_33_code
def yX7_heardBy : MethodName := ⟨RX7, "heardBy", "(I)I"⟩
abbrev cX7_hear : ByteArray := prog_9_method_34_code
def yX7_hear : MethodName := ⟨RX7, "hear", "(I)V"⟩
abbrev cX7_goOn : ByteArray := prog_9_method_35_code
def yX7_goOn : MethodName := ⟨RX7, "goOn", "(I)V"⟩
abbrev cX7_tickOnce : ByteArray := prog_9_method_36_code
def yX7_tickOnce : MethodName := ⟨RX7, "tickOnce", "()Z"⟩
abbrev cX7_tick : ByteArray := prog_9_method_37_code
def yX7_tick : MethodName := ⟨RX7, "tick", "(I)I"⟩
abbrev cX7_settle : ByteArray := prog_9_method_38_code
def yX7_settle : MethodName := ⟨RX7, "settle", "(I)I"⟩
abbrev cX7_identifier : ByteArray := prog_9_method_39_code
def yX7_identifier : MethodName := ⟨RX7, "identifier", "(I)I"⟩
abbrev cX7_isUp : ByteArray := prog_9_method_40_code
def yX7_isUp : MethodName := ⟨RX7, "isUp", "(I)Z"⟩
abbrev cX7_root : ByteArray := prog_9_method_41_code
def yX7_root : MethodName := ⟨RX7, "root", "(I)I"⟩
abbrev cX7_rootCost : ByteArray := prog_9_method_42_code
def yX7_rootCost : MethodName := ⟨RX7, "rootCost", "(I)I"⟩
abbrev cX7_rootPort : ByteArray := prog_9_method_43_code
def yX7_rootPort : MethodName := ⟨RX7, "rootPort", "(I)I"⟩
abbrev cX7_role : ByteArray := prog_9_method_44_code
def yX7_role : MethodName := ⟨RX7, "role", "(I)I"⟩
abbrev cX7_state : ByteArray := prog_9_method_45_code
def yX7_state : MethodName := ⟨RX7, "state", "(I)I"⟩
abbrev cX7_stored : ByteArray := prog_9_method_46_code
def yX7_stored : MethodName := ⟨RX7, "stored", "(II)I"⟩
abbrev cX7_portsIn : ByteArray := prog_9_method_47_code
def yX7_portsIn : MethodName := ⟨RX7, "portsIn", "(I)I"⟩
abbrev cX7_joinAll : ByteArray := prog_9_method_48_code
def yX7_joinAll : MethodName := ⟨RX7, "joinAll", "()I"⟩
abbrev cX7_isVertex : ByteArray := prog_9_method_49_code
def yX7_isVertex : MethodName := ⟨RX7, "isVertex", "(I)Z"⟩
abbrev cX7_vertices : ByteArray := prog_9_method_50_code
def yX7_vertices : MethodName := ⟨RX7, "vertices", "()I"⟩
abbrev cX7_partsNow : ByteArray := prog_9_method_51_code
def yX7_partsNow : MethodName := ⟨RX7, "partsNow", "()I"⟩
abbrev cX7_parts : ByteArray := prog_9_method_52_code
def yX7_parts : MethodName := ⟨RX7, "parts", "()I"⟩
abbrev cX7_loops : ByteArray := prog_9_method_53_code
def yX7_loops : MethodName := ⟨RX7, "loops", "()I"⟩
abbrev cX7_transmit : ByteArray := prog_9_method_54_code
def yX7_transmit : MethodName := ⟨RX7, "transmit", "(II)V"⟩
abbrev cX7_cell : ByteArray := prog_9_method_55_code
def yX7_cell : MethodName := ⟨RX7, "cell", "(II)I"⟩
abbrev cX7_receive : ByteArray := prog_9_method_56_code
def yX7_receive : MethodName := ⟨RX7, "receive", "(III)V"⟩
abbrev cX7_send : ByteArray := prog_9_method_57_code
def yX7_send : MethodName := ⟨RX7, "send", "(II)I"⟩
abbrev cX7_transmissions : ByteArray := prog_9_method_58_code
def yX7_transmissions : MethodName := ⟨RX7, "transmissions", "(I)I"⟩
abbrev cX7_entry : ByteArray := prog_9_method_59_code
def yX7_entry : MethodName := ⟨RX7, "entry", "(II)I"⟩
abbrev cX7_count : ByteArray := prog_9_method_60_code
def yX7_count : MethodName := ⟨RX7, "count", "(I)I"⟩
abbrev cX7_save : ByteArray := prog_9_method_61_code
def yX7_save : MethodName := ⟨RX7, "save", "(I)I"⟩
abbrev cX7_restore : ByteArray := prog_9_method_62_code
def yX7_restore : MethodName := ⟨RX7, "restore", "(I)I"⟩
def RJ9 : String := "java/lang/Math"
def TJ9 : u_T := fun k => match k with
  | _ => ("", "", "", false)
def tyJ9 : Nat → FieldType := fun k => match k with
  | _ => .int
abbrev wsJ90 : List Cond := u_ws RJ9 TJ9 0
theorem nmJ9 : ∀ a, a < 0 → ∀ b, b < 0 → a ≠ b → (TJ9 a).2.1 ≠ (TJ9 b).2.1 := by decide +kernel
theorem tyJ9_ok : ∀ k, k < 0 → parseFieldDescriptor (TJ9 k).2.2.1 = some (tyJ9 k) := by decide +kernel
abbrev cJ9_min_7cf53 : ByteArray := prog_10_method_69_code
def yJ9_min_7cf53 : MethodName := ⟨RJ9, "min", "(II)I"⟩
def RJ10 : String := "java/lang/System"
def TJ10 : u_T := fun k => match k with
  | _ => ("", "", "", false)
def tyJ10 : Nat → FieldType := fun k => match k with
  | _ => .int
abbrev wsJ100 : List Cond := u_ws RJ10 TJ10 0
theorem nmJ10 : ∀ a, a < 0 → ∀ b, b < 0 → a ≠ b → (TJ10 a).2.1 ≠ (TJ10 b).2.1 := by decide +kernel
theorem tyJ10_ok : ∀ k, k < 0 → parseFieldDescriptor (TJ10 k).2.2.1 = some (tyJ10 k) := by decide +kernel
def RL : String := "SpanningTreeProtocolLaw"
abbrev cL_law : ByteArray := code
def yL_law : MethodName := ⟨RL, "law", "([I)Z"⟩
abbrev vwCl : List vw_C := [(RX0, TX0, 7), (RX1, TX1, 4), (RX3, TX3, 19), (RX4, TX4, 6), (RX5, TX5, 2), (RX6, TX6, 6), (RX7, TX7, 16)]
end
section
theorem dX0_init_0 : decode cX0_init 0 = .ok (.aload_n 0, 1) := by decide +kernel
theorem dX0_init_1 : decode cX0_init 1 = .ok (.invokespecial 3, 3) := by decide +kernel
theorem dX0_init_4 : decode cX0_init 4 = .ok (.aload_n 0, 1) := by decide +kernel
theorem dX0_init_5 : decode cX0_init 5 = .ok (.bipush 8, 2) := by decide +kernel
theorem dX0_init_7 : decode cX0_init 7 = .ok (.newarray .int, 2) := by decide +kernel
theorem dX0_init_9 : decode cX0_init 9 = .ok (.putfield 9, 3) := by decide +kernel
theorem dX0_init_12 : decode cX0_init 12 = .ok (.aload_n 0, 1) := by decide +kernel
theorem dX0_init_13 : decode cX0_init 13 = .ok (.bipush 8, 2) := by decide +kernel
theorem dX0_init_15 : decode cX0_init 15 = .ok (.newarray .int, 2) := by decide +kernel
theorem dX0_init_17 : decode cX0_init 17 = .ok (.putfield 15, 3) := by decide +kernel
theorem dX0_init_20 : decode cX0_init 20 = .ok (.aload_n 0, 1) := by decide +kernel
theorem dX0_init_21 : decode cX0_init 21 = .ok (.bipush 8, 2) := by decide +kernel
theorem dX0_init_23 : decode cX0_init 23 = .ok (.newarray .int, 2) := by decide +kernel
theorem dX0_init_25 : decode cX0_init 25 = .ok (.putfield 18, 3) := by decide +kernel
theorem dX0_init_28 : decode cX0_init 28 = .ok (.aload_n 0, 1) := by decide +kernel
theorem dX0_init_29 : decode cX0_init 29 = .ok (.bipush 24, 2) := by decide +kernel
theorem dX0_init_31 : decode cX0_init 31 = .ok (.newarray .int, 2) := by decide +kernel
theorem dX0_init_33 : decode cX0_init 33 = .ok (.putfield 21, 3) := by decide +kernel
theorem dX0_init_36 : decode cX0_init 36 = .ok (.aload_n 0, 1) := by decide +kernel
theorem dX0_init_37 : decode cX0_init 37 = .ok (.bipush 8, 2) := by decide +kernel
theorem dX0_init_39 : decode cX0_init 39 = .ok (.newarray .long, 2) := by decide +kernel
theorem dX0_init_41 : decode cX0_init 41 = .ok (.putfield 24, 3) := by decide +kernel
theorem dX0_init_44 : decode cX0_init 44 = .ok (.aload_n 0, 1) := by decide +kernel
theorem dX0_init_45 : decode cX0_init 45 = .ok (.bipush 8, 2) := by decide +kernel
theorem dX0_init_47 : decode cX0_init 47 = .ok (.newarray .int, 2) := by decide +kernel
theorem dX0_init_49 : decode cX0_init 49 = .ok (.putfield 28, 3) := by decide +kernel
theorem dX0_init_52 : decode cX0_init 52 = .ok (.aload_n 0, 1) := by decide +kernel
theorem dX0_init_53 : decode cX0_init 53 = .ok (.aload_n 1, 1) := by decide +kernel
theorem dX0_init_54 : decode cX0_init 54 = .ok (.putfield 31, 3) := by decide +kernel
theorem dX0_init_57 : decode cX0_init 57 = .ok (.return_, 1) := by decide +kernel
theorem dX0_elect_0 : decode cX0_elect 0 = .ok (.aload_n 0, 1) := by decide +kernel
theorem dX0_elect_1 : decode cX0_elect 1 = .ok (.invokevirtual 35, 3) := by decide +kernel
theorem dX0_elect_4 : decode cX0_elect 4 = .ok (.iconst 0, 1) := by decide +kernel
theorem dX0_elect_5 : decode cX0_elect 5 = .ok (.istore_n 1, 1) := by decide +kernel
theorem dX0_elect_6 : decode cX0_elect 6 = .ok (.iload_n 1, 1) := by decide +kernel
theorem dX0_elect_7 : decode cX0_elect 7 = .ok (.aload_n 0, 1) := by decide +kernel
theorem dX0_elect_8 : decode cX0_elect 8 = .ok (.getfield 31, 3) := by decide +kernel
theorem dX0_elect_11 : decode cX0_elect 11 = .ok (.getfield 38, 3) := by decide +kernel
theorem dX0_elect_14 : decode cX0_elect 14 = .ok (.if_icmp .ge 14, 3) := by decide +kernel
theorem dX0_elect_17 : decode cX0_elect 17 = .ok (.aload_n 0, 1) := by decide +kernel
theorem dX0_elect_18 : decode cX0_elect 18 = .ok (.iload_n 1, 1) := by decide +kernel
theorem dX0_elect_19 : decode cX0_elect 19 = .ok (.invokevirtual 44, 3) := by decide +kernel
theorem dX0_elect_22 : decode cX0_elect 22 = .ok (.iinc 1 1, 3) := by decide +kernel
theorem dX0_elect_25 : decode cX0_elect 25 = .ok (.goto (-19), 3) := by decide +kernel
theorem dX0_elect_28 : decode cX0_elect 28 = .ok (.iconst 0, 1) := by decide +kernel
theorem dX0_elect_29 : decode cX0_elect 29 = .ok (.istore_n 1, 1) := by decide +kernel
theorem dX0_elect_30 : decode cX0_elect 30 = .ok (.iconst 0, 1) := by decide +kernel
theorem dX0_elect_31 : decode cX0_elect 31 = .ok (.istore_n 2, 1) := by decide +kernel
theorem dX0_elect_32 : decode cX0_elect 32 = .ok (.iload_n 2, 1) := by decide +kernel
theorem dX0_elect_33 : decode cX0_elect 33 = .ok (.aload_n 0, 1) := by decide +kernel
theorem dX0_elect_34 : decode cX0_elect 34 = .ok (.getfield 31, 3) := by decide +kernel
theorem dX0_elect_37 : decode cX0_elect 37 = .ok (.getfield 48, 3) := by decide +kernel
theorem dX0_elect_40 : decode cX0_elect 40 = .ok (.if_icmp .ge 42, 3) := by decide +kernel
theorem dX0_elect_43 : decode cX0_elect 43 = .ok (.aload_n 0, 1) := by decide +kernel
theorem dX0_elect_44 : decode cX0_elect 44 = .ok (.iload_n 2, 1) := by decide +kernel
theorem dX0_elect_45 : decode cX0_elect 45 = .ok (.invokevirtual 51, 3) := by decide +kernel
theorem dX0_elect_48 : decode cX0_elect 48 = .ok (.istore_n 3, 1) := by decide +kernel
theorem dX0_elect_49 : decode cX0_elect 49 = .ok (.iload_n 1, 1) := by decide +kernel
theorem dX0_elect_50 : decode cX0_elect 50 = .ok (.ifCond .ne 13, 3) := by decide +kernel
theorem dX0_elect_53 : decode cX0_elect 53 = .ok (.iload_n 3, 1) := by decide +kernel
theorem dX0_elect_54 : decode cX0_elect 54 = .ok (.aload_n 0, 1) := by decide +kernel
theorem dX0_elect_55 : decode cX0_elect 55 = .ok (.getfield 21, 3) := by decide +kernel
theorem dX0_elect_58 : decode cX0_elect 58 = .ok (.iload_n 2, 1) := by decide +kernel
theorem dX0_elect_59 : decode cX0_elect 59 = .ok (.iaload, 1) := by decide +kernel
theorem dX0_elect_60 : decode cX0_elect 60 = .ok (.if_icmp .eq 7, 3) := by decide +kernel
theorem dX0_elect_63 : decode cX0_elect 63 = .ok (.iconst 1, 1) := by decide +kernel
theorem dX0_elect_64 : decode cX0_elect 64 = .ok (.goto 4, 3) := by decide +kernel
theorem dX0_elect_67 : decode cX0_elect 67 = .ok (.iconst 0, 1) := by decide +kernel
theorem dX0_elect_68 : decode cX0_elect 68 = .ok (.istore_n 1, 1) := by decide +kernel
theorem dX0_elect_69 : decode cX0_elect 69 = .ok (.aload_n 0, 1) := by decide +kernel
theorem dX0_elect_70 : decode cX0_elect 70 = .ok (.getfield 21, 3) := by decide +kernel
theorem dX0_elect_73 : decode cX0_elect 73 = .ok (.iload_n 2, 1) := by decide +kernel
theorem dX0_elect_74 : decode cX0_elect 74 = .ok (.iload_n 3, 1) := by decide +kernel
theorem dX0_elect_75 : decode cX0_elect 75 = .ok (.iastore, 1) := by decide +kernel
theorem dX0_elect_76 : decode cX0_elect 76 = .ok (.iinc 2 1, 3) := by decide +kernel
theorem dX0_elect_79 : decode cX0_elect 79 = .ok (.goto (-47), 3) := by decide +kernel
theorem dX0_elect_82 : decode cX0_elect 82 = .ok (.iload_n 1, 1) := by decide +kernel
theorem dX0_elect_83 : decode cX0_elect 83 = .ok (.ireturn, 1) := by decide +kernel
theorem dX0_findBestOffers_0 : decode cX0_findBestOffers 0 = .ok (.iconst 0, 1) := by decide +kernel
theorem dX0_findBestOffers_1 : decode cX0_findBestOffers 1 = .ok (.istore_n 1, 1) := by decide +kernel
theorem dX0_findBestOffers_2 : decode cX0_findBestOffers 2 = .ok (.iload_n 1, 1) := by decide +kernel
theorem dX0_findBestOffers_3 : decode cX0_findBestOffers 3 = .ok (.aload_n 0, 1) := by decide +kernel
theorem dX0_findBestOffers_4 : decode cX0_findBestOffers 4 = .ok (.getfield 31, 3) := by decide +kernel
theorem dX0_findBestOffers_7 : decode cX0_findBestOffers 7 = .ok (.getfield 38, 3) := by decide +kernel
theorem dX0_findBestOffers_10 : decode cX0_findBestOffers 10 = .ok (.if_icmp .ge 16, 3) := by decide +kernel
theorem dX0_findBestOffers_13 : decode cX0_findBestOffers 13 = .ok (.aload_n 0, 1) := by decide +kernel
theorem dX0_findBestOffers_14 : decode cX0_findBestOffers 14 = .ok (.getfield 28, 3) := by decide +kernel
theorem dX0_findBestOffers_17 : decode cX0_findBestOffers 17 = .ok (.iload_n 1, 1) := by decide +kernel
theorem dX0_findBestOffers_18 : decode cX0_findBestOffers 18 = .ok (.iconst (-1), 1) := by decide +kernel
theorem dX0_findBestOffers_19 : decode cX0_findBestOffers 19 = .ok (.iastore, 1) := by decide +kernel
theorem dX0_findBestOffers_20 : decode cX0_findBestOffers 20 = .ok (.iinc 1 1, 3) := by decide +kernel
theorem dX0_findBestOffers_23 : decode cX0_findBestOffers 23 = .ok (.goto (-21), 3) := by decide +kernel
theorem dX0_findBestOffers_26 : decode cX0_findBestOffers 26 = .ok (.iconst 0, 1) := by decide +kernel
theorem dX0_findBestOffers_27 : decode cX0_findBestOffers 27 = .ok (.istore_n 1, 1) := by decide +kernel
theorem dX0_findBestOffers_28 : decode cX0_findBestOffers 28 = .ok (.iload_n 1, 1) := by decide +kernel
theorem dX0_findBestOffers_29 : decode cX0_findBestOffers 29 = .ok (.aload_n 0, 1) := by decide +kernel
theorem dX0_findBestOffers_30 : decode cX0_findBestOffers 30 = .ok (.getfield 31, 3) := by decide +kernel
theorem dX0_findBestOffers_33 : decode cX0_findBestOffers 33 = .ok (.getfield 48, 3) := by decide +kernel
theorem dX0_findBestOffers_36 : decode cX0_findBestOffers 36 = .ok (.if_icmp .ge 22, 3) := by decide +kernel
theorem dX0_findBestOffers_39 : decode cX0_findBestOffers 39 = .ok (.aload_n 0, 1) := by decide +kernel
theorem dX0_findBestOffers_40 : decode cX0_findBestOffers 40 = .ok (.iload_n 1, 1) := by decide +kernel
theorem dX0_findBestOffers_41 : decode cX0_findBestOffers 41 = .ok (.invokevirtual 55, 3) := by decide +kernel
theorem dX0_findBestOffers_44 : decode cX0_findBestOffers 44 = .ok (.ifCond .eq 8, 3) := by decide +kernel
theorem dX0_findBestOffers_47 : decode cX0_findBestOffers 47 = .ok (.aload_n 0, 1) := by decide +kernel
theorem dX0_findBestOffers_48 : decode cX0_findBestOffers 48 = .ok (.iload_n 1, 1) := by decide +kernel
theorem dX0_findBestOffers_49 : decode cX0_findBestOffers 49 = .ok (.invokevirtual 59, 3) := by decide +kernel
theorem dX0_findBestOffers_52 : decode cX0_findBestOffers 52 = .ok (.iinc 1 1, 3) := by decide +kernel
theorem dX0_findBestOffers_55 : decode cX0_findBestOffers 55 = .ok (.goto (-27), 3) := by decide +kernel
theorem dX0_findBestOffers_58 : decode cX0_findBestOffers 58 = .ok (.return_, 1) := by decide +kernel
theorem dX0_hasOffer_0 : decode cX0_hasOffer 0 = .ok (.aload_n 0, 1) := by decide +kernel
theorem dX0_hasOffer_1 : decode cX0_hasOffer 1 = .ok (.getfield 31, 3) := by decide +kernel
theorem dX0_hasOffer_4 : decode cX0_hasOffer 4 = .ok (.iload_n 1, 1) := by decide +kernel
theorem dX0_hasOffer_5 : decode cX0_hasOffer 5 = .ok (.invokevirtual 62, 3) := by decide +kernel
theorem dX0_hasOffer_8 : decode cX0_hasOffer 8 = .ok (.ifCond .eq 26, 3) := by decide +kernel
theorem dX0_hasOffer_11 : decode cX0_hasOffer 11 = .ok (.aload_n 0, 1) := by decide +kernel
theorem dX0_hasOffer_12 : decode cX0_hasOffer 12 = .ok (.getfield 31, 3) := by decide +kernel
theorem dX0_hasOffer_15 : decode cX0_hasOffer 15 = .ok (.iload_n 1, 1) := by decide +kernel
theorem dX0_hasOffer_16 : decode cX0_hasOffer 16 = .ok (.invokevirtual 65, 3) := by decide +kernel
theorem dX0_hasOffer_19 : decode cX0_hasOffer 19 = .ok (.ifCond .eq 15, 3) := by decide +kernel
theorem dX0_hasOffer_22 : decode cX0_hasOffer 22 = .ok (.aload_n 0, 1) := by decide +kernel
theorem dX0_hasOffer_23 : decode cX0_hasOffer 23 = .ok (.iload_n 1, 1) := by decide +kernel
theorem dX0_hasOffer_24 : decode cX0_hasOffer 24 = .ok (.invokevirtual 68, 3) := by decide +kernel
theorem dX0_hasOffer_27 : decode cX0_hasOffer 27 = .ok (.ifCond .ne 7, 3) := by decide +kernel
theorem dX0_hasOffer_30 : decode cX0_hasOffer 30 = .ok (.iconst 1, 1) := by decide +kernel
theorem dX0_hasOffer_31 : decode cX0_hasOffer 31 = .ok (.goto 4, 3) := by decide +kernel
theorem dX0_hasOffer_34 : decode cX0_hasOffer 34 = .ok (.iconst 0, 1) := by decide +kernel
theorem dX0_hasOffer_35 : decode cX0_hasOffer 35 = .ok (.ireturn, 1) := by decide +kernel
theorem dX0_isFromOwnBridge_0 : decode cX0_isFromOwnBridge 0 = .ok (.aload_n 0, 1) := by decide +kernel
theorem dX0_isFromOwnBridge_1 : decode cX0_isFromOwnBridge 1 = .ok (.getfield 31, 3) := by decide +kernel
theorem dX0_isFromOwnBridge_4 : decode cX0_isFromOwnBridge 4 = .ok (.getfield 71, 3) := by decide +kernel
theorem dX0_isFromOwnBridge_7 : decode cX0_isFromOwnBridge 7 = .ok (.iload_n 1, 1) := by decide +kernel
theorem dX0_isFromOwnBridge_8 : decode cX0_isFromOwnBridge 8 = .ok (.laload, 1) := by decide +kernel
theorem dX0_isFromOwnBridge_9 : decode cX0_isFromOwnBridge 9 = .ok (.invokestatic 74, 3) := by decide +kernel
theorem dX0_isFromOwnBridge_12 : decode cX0_isFromOwnBridge 12 = .ok (.aload_n 0, 1) := by decide +kernel
theorem dX0_isFromOwnBridge_13 : decode cX0_isFromOwnBridge 13 = .ok (.getfield 31, 3) := by decide +kernel
theorem dX0_isFromOwnBridge_16 : decode cX0_isFromOwnBridge 16 = .ok (.aload_n 0, 1) := by decide +kernel
theorem dX0_isFromOwnBridge_17 : decode cX0_isFromOwnBridge 17 = .ok (.getfield 31, 3) := by decide +kernel
theorem dX0_isFromOwnBridge_20 : decode cX0_isFromOwnBridge 20 = .ok (.getfield 80, 3) := by decide +kernel
theorem dX0_isFromOwnBridge_23 : decode cX0_isFromOwnBridge 23 = .ok (.iload_n 1, 1) := by decide +kernel
theorem dX0_isFromOwnBridge_24 : decode cX0_isFromOwnBridge 24 = .ok (.iaload, 1) := by decide +kernel
theorem dX0_isFromOwnBridge_25 : decode cX0_isFromOwnBridge 25 = .ok (.invokevirtual 83, 3) := by decide +kernel
theorem dX0_isFromOwnBridge_28 : decode cX0_isFromOwnBridge 28 = .ok (.if_icmp .ne 7, 3) := by decide +kernel
theorem dX0_isFromOwnBridge_31 : decode cX0_isFromOwnBridge 31 = .ok (.iconst 1, 1) := by decide +kernel
theorem dX0_isFromOwnBridge_32 : decode cX0_isFromOwnBridge 32 = .ok (.goto 4, 3) := by decide +kernel
theorem dX0_isFromOwnBridge_35 : decode cX0_isFromOwnBridge 35 = .ok (.iconst 0, 1) := by decide +kernel
theorem dX0_isFromOwnBridge_36 : decode cX0_isFromOwnBridge 36 = .ok (.ireturn, 1) := by decide +kernel
theorem dX0_considerOffer_0 : decode cX0_considerOffer 0 = .ok (.aload_n 0, 1) := by decide +kernel
theorem dX0_considerOffer_1 : decode cX0_considerOffer 1 = .ok (.getfield 31, 3) := by decide +kernel
theorem dX0_considerOffer_4 : decode cX0_considerOffer 4 = .ok (.getfield 80, 3) := by decide +kernel
theorem dX0_considerOffer_7 : decode cX0_considerOffer 7 = .ok (.iload_n 1, 1) := by decide +kernel
theorem dX0_considerOffer_8 : decode cX0_considerOffer 8 = .ok (.iaload, 1) := by decide +kernel
theorem dX0_considerOffer_9 : decode cX0_considerOffer 9 = .ok (.istore_n 2, 1) := by decide +kernel
theorem dX0_considerOffer_10 : decode cX0_considerOffer 10 = .ok (.aload_n 0, 1) := by decide +kernel
theorem dX0_considerOffer_11 : decode cX0_considerOffer 11 = .ok (.getfield 31, 3) := by decide +kernel
theorem dX0_considerOffer_14 : decode cX0_considerOffer 14 = .ok (.getfield 71, 3) := by decide +kernel
theorem dX0_considerOffer_17 : decode cX0_considerOffer 17 = .ok (.iload_n 1, 1) := by decide +kernel
theorem dX0_considerOffer_18 : decode cX0_considerOffer 18 = .ok (.laload, 1) := by decide +kernel
theorem dX0_considerOffer_19 : decode cX0_considerOffer 19 = .ok (.aload_n 0, 1) := by decide +kernel
theorem dX0_considerOffer_20 : decode cX0_considerOffer 20 = .ok (.getfield 31, 3) := by decide +kernel
theorem dX0_considerOffer_23 : decode cX0_considerOffer 23 = .ok (.getfield 86, 3) := by decide +kernel
theorem dX0_considerOffer_26 : decode cX0_considerOffer 26 = .ok (.iload_n 1, 1) := by decide +kernel
theorem dX0_considerOffer_27 : decode cX0_considerOffer 27 = .ok (.iaload, 1) := by decide +kernel
theorem dX0_considerOffer_28 : decode cX0_considerOffer 28 = .ok (.invokestatic 89, 3) := by decide +kernel
theorem dX0_considerOffer_31 : decode cX0_considerOffer 31 = .ok (.lstore_n 3, 1) := by decide +kernel
theorem dX0_considerOffer_32 : decode cX0_considerOffer 32 = .ok (.aload_n 0, 1) := by decide +kernel
theorem dX0_considerOffer_33 : decode cX0_considerOffer 33 = .ok (.getfield 28, 3) := by decide +kernel
theorem dX0_considerOffer_36 : decode cX0_considerOffer 36 = .ok (.iload_n 2, 1) := by decide +kernel
theorem dX0_considerOffer_37 : decode cX0_considerOffer 37 = .ok (.iaload, 1) := by decide +kernel
theorem dX0_considerOffer_38 : decode cX0_considerOffer 38 = .ok (.iconst (-1), 1) := by decide +kernel
theorem dX0_considerOffer_39 : decode cX0_considerOffer 39 = .ok (.if_icmp .eq 14, 3) := by decide +kernel
theorem dX0_considerOffer_42 : decode cX0_considerOffer 42 = .ok (.lload_n 3, 1) := by decide +kernel
theorem dX0_considerOffer_43 : decode cX0_considerOffer 43 = .ok (.aload_n 0, 1) := by decide +kernel
theorem dX0_considerOffer_44 : decode cX0_considerOffer 44 = .ok (.getfield 24, 3) := by decide +kernel
theorem dX0_considerOffer_47 : decode cX0_considerOffer 47 = .ok (.iload_n 2, 1) := by decide +kernel
theorem dX0_considerOffer_48 : decode cX0_considerOffer 48 = .ok (.laload, 1) := by decide +kernel
theorem dX0_considerOffer_49 : decode cX0_considerOffer 49 = .ok (.lcmp, 1) := by decide +kernel
theorem dX0_considerOffer_50 : decode cX0_considerOffer 50 = .ok (.ifCond .ge 17, 3) := by decide +kernel
theorem dX0_considerOffer_53 : decode cX0_considerOffer 53 = .ok (.aload_n 0, 1) := by decide +kernel
theorem dX0_considerOffer_54 : decode cX0_considerOffer 54 = .ok (.getfield 24, 3) := by decide +kernel
theorem dX0_considerOffer_57 : decode cX0_considerOffer 57 = .ok (.iload_n 2, 1) := by decide +kernel
theorem dX0_considerOffer_58 : decode cX0_considerOffer 58 = .ok (.lload_n 3, 1) := by decide +kernel
theorem dX0_considerOffer_59 : decode cX0_considerOffer 59 = .ok (.lastore, 1) := by decide +kernel
theorem dX0_considerOffer_60 : decode cX0_considerOffer 60 = .ok (.aload_n 0, 1) := by decide +kernel
theorem dX0_considerOffer_61 : decode cX0_considerOffer 61 = .ok (.getfield 28, 3) := by decide +kernel
theorem dX0_considerOffer_64 : decode cX0_considerOffer 64 = .ok (.iload_n 2, 1) := by decide +kernel
theorem dX0_considerOffer_65 : decode cX0_considerOffer 65 = .ok (.iload_n 1, 1) := by decide +kernel
theorem dX0_considerOffer_66 : decode cX0_considerOffer 66 = .ok (.iastore, 1) := by decide +kernel
theorem dX0_considerOffer_67 : decode cX0_considerOffer 67 = .ok (.return_, 1) := by decide +kernel
theorem dX0_chooseRoot_0 : decode cX0_chooseRoot 0 = .ok (.aload_n 0, 1) := by decide +kernel
theorem dX0_chooseRoot_1 : decode cX0_chooseRoot 1 = .ok (.getfield 31, 3) := by decide +kernel
theorem dX0_chooseRoot_4 : decode cX0_chooseRoot 4 = .ok (.iload_n 1, 1) := by decide +kernel
theorem dX0_chooseRoot_5 : decode cX0_chooseRoot 5 = .ok (.invokevirtual 83, 3) := by decide +kernel
theorem dX0_chooseRoot_8 : decode cX0_chooseRoot 8 = .ok (.istore_n 2, 1) := by decide +kernel
theorem dX0_chooseRoot_9 : decode cX0_chooseRoot 9 = .ok (.aload_n 0, 1) := by decide +kernel
theorem dX0_chooseRoot_10 : decode cX0_chooseRoot 10 = .ok (.getfield 28, 3) := by decide +kernel
theorem dX0_chooseRoot_13 : decode cX0_chooseRoot 13 = .ok (.iload_n 1, 1) := by decide +kernel
theorem dX0_chooseRoot_14 : decode cX0_chooseRoot 14 = .ok (.iaload, 1) := by decide +kernel
theorem dX0_chooseRoot_15 : decode cX0_chooseRoot 15 = .ok (.istore_n 3, 1) := by decide +kernel
theorem dX0_chooseRoot_16 : decode cX0_chooseRoot 16 = .ok (.iload_n 3, 1) := by decide +kernel
theorem dX0_chooseRoot_17 : decode cX0_chooseRoot 17 = .ok (.iconst (-1), 1) := by decide +kernel
theorem dX0_chooseRoot_18 : decode cX0_chooseRoot 18 = .ok (.if_icmp .eq 56, 3) := by decide +kernel
theorem dX0_chooseRoot_21 : decode cX0_chooseRoot 21 = .ok (.aload_n 0, 1) := by decide +kernel
theorem dX0_chooseRoot_22 : decode cX0_chooseRoot 22 = .ok (.getfield 24, 3) := by decide +kernel
theorem dX0_chooseRoot_25 : decode cX0_chooseRoot 25 = .ok (.iload_n 1, 1) := by decide +kernel
theorem dX0_chooseRoot_26 : decode cX0_chooseRoot 26 = .ok (.laload, 1) := by decide +kernel
theorem dX0_chooseRoot_27 : decode cX0_chooseRoot 27 = .ok (.invokestatic 93, 3) := by decide +kernel
theorem dX0_chooseRoot_30 : decode cX0_chooseRoot 30 = .ok (.iload_n 2, 1) := by decide +kernel
theorem dX0_chooseRoot_31 : decode cX0_chooseRoot 31 = .ok (.if_icmp .ge 43, 3) := by decide +kernel
theorem dX0_chooseRoot_34 : decode cX0_chooseRoot 34 = .ok (.aload_n 0, 1) := by decide +kernel
theorem dX0_chooseRoot_35 : decode cX0_chooseRoot 35 = .ok (.getfield 9, 3) := by decide +kernel
theorem dX0_chooseRoot_38 : decode cX0_chooseRoot 38 = .ok (.iload_n 1, 1) := by decide +kernel
theorem dX0_chooseRoot_39 : decode cX0_chooseRoot 39 = .ok (.aload_n 0, 1) := by decide +kernel
theorem dX0_chooseRoot_40 : decode cX0_chooseRoot 40 = .ok (.getfield 24, 3) := by decide +kernel
theorem dX0_chooseRoot_43 : decode cX0_chooseRoot 43 = .ok (.iload_n 1, 1) := by decide +kernel
theorem dX0_chooseRoot_44 : decode cX0_chooseRoot 44 = .ok (.laload, 1) := by decide +kernel
theorem dX0_chooseRoot_45 : decode cX0_chooseRoot 45 = .ok (.invokestatic 93, 3) := by decide +kernel
theorem dX0_chooseRoot_48 : decode cX0_chooseRoot 48 = .ok (.iastore, 1) := by decide +kernel
theorem dX0_chooseRoot_49 : decode cX0_chooseRoot 49 = .ok (.aload_n 0, 1) := by decide +kernel
theorem dX0_chooseRoot_50 : decode cX0_chooseRoot 50 = .ok (.getfield 15, 3) := by decide +kernel
theorem dX0_chooseRoot_53 : decode cX0_chooseRoot 53 = .ok (.iload_n 1, 1) := by decide +kernel
theorem dX0_chooseRoot_54 : decode cX0_chooseRoot 54 = .ok (.aload_n 0, 1) := by decide +kernel
theorem dX0_chooseRoot_55 : decode cX0_chooseRoot 55 = .ok (.getfield 24, 3) := by decide +kernel
theorem dX0_chooseRoot_58 : decode cX0_chooseRoot 58 = .ok (.iload_n 1, 1) := by decide +kernel
theorem dX0_chooseRoot_59 : decode cX0_chooseRoot 59 = .ok (.laload, 1) := by decide +kernel
theorem dX0_chooseRoot_60 : decode cX0_chooseRoot 60 = .ok (.invokestatic 96, 3) := by decide +kernel
theorem dX0_chooseRoot_63 : decode cX0_chooseRoot 63 = .ok (.iastore, 1) := by decide +kernel
theorem dX0_chooseRoot_64 : decode cX0_chooseRoot 64 = .ok (.aload_n 0, 1) := by decide +kernel
theorem dX0_chooseRoot_65 : decode cX0_chooseRoot 65 = .ok (.getfield 18, 3) := by decide +kernel
theorem dX0_chooseRoot_68 : decode cX0_chooseRoot 68 = .ok (.iload_n 1, 1) := by decide +kernel
theorem dX0_chooseRoot_69 : decode cX0_chooseRoot 69 = .ok (.iload_n 3, 1) := by decide +kernel
theorem dX0_chooseRoot_70 : decode cX0_chooseRoot 70 = .ok (.iastore, 1) := by decide +kernel
theorem dX0_chooseRoot_71 : decode cX0_chooseRoot 71 = .ok (.goto 24, 3) := by decide +kernel
theorem dX0_chooseRoot_74 : decode cX0_chooseRoot 74 = .ok (.aload_n 0, 1) := by decide +kernel
theorem dX0_chooseRoot_75 : decode cX0_chooseRoot 75 = .ok (.getfield 9, 3) := by decide +kernel
theorem dX0_chooseRoot_78 : decode cX0_chooseRoot 78 = .ok (.iload_n 1, 1) := by decide +kernel
theorem dX0_chooseRoot_79 : decode cX0_chooseRoot 79 = .ok (.iload_n 2, 1) := by decide +kernel
theorem dX0_chooseRoot_80 : decode cX0_chooseRoot 80 = .ok (.iastore, 1) := by decide +kernel
theorem dX0_chooseRoot_81 : decode cX0_chooseRoot 81 = .ok (.aload_n 0, 1) := by decide +kernel
theorem dX0_chooseRoot_82 : decode cX0_chooseRoot 82 = .ok (.getfield 15, 3) := by decide +kernel
theorem dX0_chooseRoot_85 : decode cX0_chooseRoot 85 = .ok (.iload_n 1, 1) := by decide +kernel
theorem dX0_chooseRoot_86 : decode cX0_chooseRoot 86 = .ok (.iconst 0, 1) := by decide +kernel
theorem dX0_chooseRoot_87 : decode cX0_chooseRoot 87 = .ok (.iastore, 1) := by decide +kernel
theorem dX0_chooseRoot_88 : decode cX0_chooseRoot 88 = .ok (.aload_n 0, 1) := by decide +kernel
theorem dX0_chooseRoot_89 : decode cX0_chooseRoot 89 = .ok (.getfield 18, 3) := by decide +kernel
theorem dX0_chooseRoot_92 : decode cX0_chooseRoot 92 = .ok (.iload_n 1, 1) := by decide +kernel
theorem dX0_chooseRoot_93 : decode cX0_chooseRoot 93 = .ok (.iconst (-1), 1) := by decide +kernel
theorem dX0_chooseRoot_94 : decode cX0_chooseRoot 94 = .ok (.iastore, 1) := by decide +kernel
theorem dX0_chooseRoot_95 : decode cX0_chooseRoot 95 = .ok (.return_, 1) := by decide +kernel
theorem dX0_roleFor_0 : decode cX0_roleFor 0 = .ok (.aload_n 0, 1) := by decide +kernel
theorem dX0_roleFor_1 : decode cX0_roleFor 1 = .ok (.getfield 31, 3) := by decide +kernel
theorem dX0_roleFor_4 : decode cX0_roleFor 4 = .ok (.iload_n 1, 1) := by decide +kernel
theorem dX0_roleFor_5 : decode cX0_roleFor 5 = .ok (.invokevirtual 62, 3) := by decide +kernel
theorem dX0_roleFor_8 : decode cX0_roleFor 8 = .ok (.ifCond .ne 5, 3) := by decide +kernel
theorem dX0_roleFor_11 : decode cX0_roleFor 11 = .ok (.iconst 0, 1) := by decide +kernel
theorem dX0_roleFor_12 : decode cX0_roleFor 12 = .ok (.ireturn, 1) := by decide +kernel
theorem dX0_roleFor_13 : decode cX0_roleFor 13 = .ok (.aload_n 0, 1) := by decide +kernel
theorem dX0_roleFor_14 : decode cX0_roleFor 14 = .ok (.getfield 18, 3) := by decide +kernel
theorem dX0_roleFor_17 : decode cX0_roleFor 17 = .ok (.aload_n 0, 1) := by decide +kernel
theorem dX0_roleFor_18 : decode cX0_roleFor 18 = .ok (.getfield 31, 3) := by decide +kernel
theorem dX0_roleFor_21 : decode cX0_roleFor 21 = .ok (.getfield 80, 3) := by decide +kernel
theorem dX0_roleFor_24 : decode cX0_roleFor 24 = .ok (.iload_n 1, 1) := by decide +kernel
theorem dX0_roleFor_25 : decode cX0_roleFor 25 = .ok (.iaload, 1) := by decide +kernel
theorem dX0_roleFor_26 : decode cX0_roleFor 26 = .ok (.iaload, 1) := by decide +kernel
theorem dX0_roleFor_27 : decode cX0_roleFor 27 = .ok (.iload_n 1, 1) := by decide +kernel
theorem dX0_roleFor_28 : decode cX0_roleFor 28 = .ok (.if_icmp .ne 5, 3) := by decide +kernel
theorem dX0_roleFor_31 : decode cX0_roleFor 31 = .ok (.iconst 1, 1) := by decide +kernel
theorem dX0_roleFor_32 : decode cX0_roleFor 32 = .ok (.ireturn, 1) := by decide +kernel
theorem dX0_roleFor_33 : decode cX0_roleFor 33 = .ok (.aload_n 0, 1) := by decide +kernel
theorem dX0_roleFor_34 : decode cX0_roleFor 34 = .ok (.getfield 31, 3) := by decide +kernel
theorem dX0_roleFor_37 : decode cX0_roleFor 37 = .ok (.iload_n 1, 1) := by decide +kernel
theorem dX0_roleFor_38 : decode cX0_roleFor 38 = .ok (.invokevirtual 65, 3) := by decide +kernel
theorem dX0_roleFor_41 : decode cX0_roleFor 41 = .ok (.ifCond .eq 21, 3) := by decide +kernel
theorem dX0_roleFor_44 : decode cX0_roleFor 44 = .ok (.aload_n 0, 1) := by decide +kernel
theorem dX0_roleFor_45 : decode cX0_roleFor 45 = .ok (.iload_n 1, 1) := by decide +kernel
theorem dX0_roleFor_46 : decode cX0_roleFor 46 = .ok (.invokevirtual 99, 3) := by decide +kernel
theorem dX0_roleFor_49 : decode cX0_roleFor 49 = .ok (.aload_n 0, 1) := by decide +kernel
theorem dX0_roleFor_50 : decode cX0_roleFor 50 = .ok (.getfield 31, 3) := by decide +kernel
theorem dX0_roleFor_53 : decode cX0_roleFor 53 = .ok (.getfield 71, 3) := by decide +kernel
theorem dX0_roleFor_56 : decode cX0_roleFor 56 = .ok (.iload_n 1, 1) := by decide +kernel
theorem dX0_roleFor_57 : decode cX0_roleFor 57 = .ok (.laload, 1) := by decide +kernel
theorem dX0_roleFor_58 : decode cX0_roleFor 58 = .ok (.lcmp, 1) := by decide +kernel
theorem dX0_roleFor_59 : decode cX0_roleFor 59 = .ok (.ifCond .ge 5, 3) := by decide +kernel
theorem dX0_roleFor_62 : decode cX0_roleFor 62 = .ok (.iconst 2, 1) := by decide +kernel
theorem dX0_roleFor_63 : decode cX0_roleFor 63 = .ok (.ireturn, 1) := by decide +kernel
theorem dX0_roleFor_64 : decode cX0_roleFor 64 = .ok (.aload_n 0, 1) := by decide +kernel
theorem dX0_roleFor_65 : decode cX0_roleFor 65 = .ok (.iload_n 1, 1) := by decide +kernel
theorem dX0_roleFor_66 : decode cX0_roleFor 66 = .ok (.invokevirtual 68, 3) := by decide +kernel
theorem dX0_roleFor_69 : decode cX0_roleFor 69 = .ok (.ifCond .eq 7, 3) := by decide +kernel
theorem dX0_roleFor_72 : decode cX0_roleFor 72 = .ok (.iconst 4, 1) := by decide +kernel
theorem dX0_roleFor_73 : decode cX0_roleFor 73 = .ok (.goto 4, 3) := by decide +kernel
theorem dX0_roleFor_76 : decode cX0_roleFor 76 = .ok (.iconst 3, 1) := by decide +kernel
theorem dX0_roleFor_77 : decode cX0_roleFor 77 = .ok (.ireturn, 1) := by decide +kernel
theorem dX0_ownMessage_0 : decode cX0_ownMessage 0 = .ok (.aload_n 0, 1) := by decide +kernel
theorem dX0_ownMessage_1 : decode cX0_ownMessage 1 = .ok (.getfield 31, 3) := by decide +kernel
theorem dX0_ownMessage_4 : decode cX0_ownMessage 4 = .ok (.getfield 80, 3) := by decide +kernel
theorem dX0_ownMessage_7 : decode cX0_ownMessage 7 = .ok (.iload_n 1, 1) := by decide +kernel
theorem dX0_ownMessage_8 : decode cX0_ownMessage 8 = .ok (.iaload, 1) := by decide +kernel
theorem dX0_ownMessage_9 : decode cX0_ownMessage 9 = .ok (.istore_n 2, 1) := by decide +kernel
theorem dX0_ownMessage_10 : decode cX0_ownMessage 10 = .ok (.aload_n 0, 1) := by decide +kernel
theorem dX0_ownMessage_11 : decode cX0_ownMessage 11 = .ok (.getfield 9, 3) := by decide +kernel
theorem dX0_ownMessage_14 : decode cX0_ownMessage 14 = .ok (.iload_n 2, 1) := by decide +kernel
theorem dX0_ownMessage_15 : decode cX0_ownMessage 15 = .ok (.iaload, 1) := by decide +kernel
theorem dX0_ownMessage_16 : decode cX0_ownMessage 16 = .ok (.aload_n 0, 1) := by decide +kernel
theorem dX0_ownMessage_17 : decode cX0_ownMessage 17 = .ok (.getfield 15, 3) := by decide +kernel
theorem dX0_ownMessage_20 : decode cX0_ownMessage 20 = .ok (.iload_n 2, 1) := by decide +kernel
theorem dX0_ownMessage_21 : decode cX0_ownMessage 21 = .ok (.iaload, 1) := by decide +kernel
theorem dX0_ownMessage_22 : decode cX0_ownMessage 22 = .ok (.aload_n 0, 1) := by decide +kernel
theorem dX0_ownMessage_23 : decode cX0_ownMessage 23 = .ok (.getfield 31, 3) := by decide +kernel
theorem dX0_ownMessage_26 : decode cX0_ownMessage 26 = .ok (.iload_n 2, 1) := by decide +kernel
theorem dX0_ownMessage_27 : decode cX0_ownMessage 27 = .ok (.invokevirtual 83, 3) := by decide +kernel
theorem dX0_ownMessage_30 : decode cX0_ownMessage 30 = .ok (.iload_n 1, 1) := by decide +kernel
theorem dX0_ownMessage_31 : decode cX0_ownMessage 31 = .ok (.invokestatic 103, 3) := by decide +kernel
theorem dX0_ownMessage_34 : decode cX0_ownMessage 34 = .ok (.lreturn, 1) := by decide +kernel
theorem dX1_init_0 : decode cX1_init 0 = .ok (.aload_n 0, 1) := by decide +kernel
theorem dX1_init_1 : decode cX1_init 1 = .ok (.invokespecial 3, 3) := by decide +kernel
theorem dX1_init_4 : decode cX1_init 4 = .ok (.aload_n 0, 1) := by decide +kernel
theorem dX1_init_5 : decode cX1_init 5 = .ok (.bipush 64, 2) := by decide +kernel
theorem dX1_init_7 : decode cX1_init 7 = .ok (.newarray .int, 2) := by decide +kernel
theorem dX1_init_9 : decode cX1_init 9 = .ok (.putfield 9, 3) := by decide +kernel
theorem dX1_init_12 : decode cX1_init 12 = .ok (.aload_n 0, 1) := by decide +kernel
theorem dX1_init_13 : decode cX1_init 13 = .ok (.bipush 64, 2) := by decide +kernel
theorem dX1_init_15 : decode cX1_init 15 = .ok (.newarray .int, 2) := by decide +kernel
theorem dX1_init_17 : decode cX1_init 17 = .ok (.putfield 15, 3) := by decide +kernel
theorem dX1_init_20 : decode cX1_init 20 = .ok (.aload_n 0, 1) := by decide +kernel
theorem dX1_init_21 : decode cX1_init 21 = .ok (.aload_n 1, 1) := by decide +kernel
theorem dX1_init_22 : decode cX1_init 22 = .ok (.putfield 18, 3) := by decide +kernel
theorem dX1_init_25 : decode cX1_init 25 = .ok (.return_, 1) := by decide +kernel
theorem dX1_deliver_0 : decode cX1_deliver 0 = .ok (.aload_n 0, 1) := by decide +kernel
theorem dX1_deliver_1 : decode cX1_deliver 1 = .ok (.iconst 0, 1) := by decide +kernel
theorem dX1_deliver_2 : decode cX1_deliver 2 = .ok (.putfield 22, 3) := by decide +kernel
theorem dX1_deliver_5 : decode cX1_deliver 5 = .ok (.iconst 0, 1) := by decide +kernel
theorem dX1_deliver_6 : decode cX1_deliver 6 = .ok (.istore_n 3, 1) := by decide +kernel
theorem dX1_deliver_7 : decode cX1_deliver 7 = .ok (.iload_n 3, 1) := by decide +kernel
theorem dX1_deliver_8 : decode cX1_deliver 8 = .ok (.bipush 10, 2) := by decide +kernel
theorem dX1_deliver_10 : decode cX1_deliver 10 = .ok (.if_icmp .ge 19, 3) := by decide +kernel
theorem dX1_deliver_13 : decode cX1_deliver 13 = .ok (.aload_n 0, 1) := by decide +kernel
theorem dX1_deliver_14 : decode cX1_deliver 14 = .ok (.getfield 18, 3) := by decide +kernel
theorem dX1_deliver_17 : decode cX1_deliver 17 = .ok (.getfield 26, 3) := by decide +kernel
theorem dX1_deliver_20 : decode cX1_deliver 20 = .ok (.iload_n 3, 1) := by decide +kernel
theorem dX1_deliver_21 : decode cX1_deliver 21 = .ok (.iconst 0, 1) := by decide +kernel
theorem dX1_deliver_22 : decode cX1_deliver 22 = .ok (.iastore, 1) := by decide +kernel
theorem dX1_deliver_23 : decode cX1_deliver 23 = .ok (.iinc 3 1, 3) := by decide +kernel
theorem dX1_deliver_26 : decode cX1_deliver 26 = .ok (.goto (-19), 3) := by decide +kernel
theorem dX1_deliver_29 : decode cX1_deliver 29 = .ok (.aload_n 0, 1) := by decide +kernel
theorem dX1_deliver_30 : decode cX1_deliver 30 = .ok (.aload_n 0, 1) := by decide +kernel
theorem dX1_deliver_31 : decode cX1_deliver 31 = .ok (.getfield 18, 3) := by decide +kernel
theorem dX1_deliver_34 : decode cX1_deliver 34 = .ok (.getfield 31, 3) := by decide +kernel
theorem dX1_deliver_37 : decode cX1_deliver 37 = .ok (.iload_n 1, 1) := by decide +kernel
theorem dX1_deliver_38 : decode cX1_deliver 38 = .ok (.iaload, 1) := by decide +kernel
theorem dX1_deliver_39 : decode cX1_deliver 39 = .ok (.iconst (-1), 1) := by decide +kernel
theorem dX1_deliver_40 : decode cX1_deliver 40 = .ok (.invokevirtual 34, 3) := by decide +kernel
theorem dX1_deliver_43 : decode cX1_deliver 43 = .ok (.iconst 0, 1) := by decide +kernel
theorem dX1_deliver_44 : decode cX1_deliver 44 = .ok (.istore_n 3, 1) := by decide +kernel
theorem dX1_deliver_45 : decode cX1_deliver 45 = .ok (.iload_n 3, 1) := by decide +kernel
theorem dX1_deliver_46 : decode cX1_deliver 46 = .ok (.aload_n 0, 1) := by decide +kernel
theorem dX1_deliver_47 : decode cX1_deliver 47 = .ok (.getfield 22, 3) := by decide +kernel
theorem dX1_deliver_50 : decode cX1_deliver 50 = .ok (.if_icmp .ge 33, 3) := by decide +kernel
theorem dX1_deliver_53 : decode cX1_deliver 53 = .ok (.iload_n 3, 1) := by decide +kernel
theorem dX1_deliver_54 : decode cX1_deliver 54 = .ok (.bipush 64, 2) := by decide +kernel
theorem dX1_deliver_56 : decode cX1_deliver 56 = .ok (.if_icmp .ge 27, 3) := by decide +kernel
theorem dX1_deliver_59 : decode cX1_deliver 59 = .ok (.aload_n 0, 1) := by decide +kernel
theorem dX1_deliver_60 : decode cX1_deliver 60 = .ok (.aload_n 0, 1) := by decide +kernel
theorem dX1_deliver_61 : decode cX1_deliver 61 = .ok (.getfield 9, 3) := by decide +kernel
theorem dX1_deliver_64 : decode cX1_deliver 64 = .ok (.iload_n 3, 1) := by decide +kernel
theorem dX1_deliver_65 : decode cX1_deliver 65 = .ok (.iaload, 1) := by decide +kernel
theorem dX1_deliver_66 : decode cX1_deliver 66 = .ok (.aload_n 0, 1) := by decide +kernel
theorem dX1_deliver_67 : decode cX1_deliver 67 = .ok (.getfield 15, 3) := by decide +kernel
theorem dX1_deliver_70 : decode cX1_deliver 70 = .ok (.iload_n 3, 1) := by decide +kernel
theorem dX1_deliver_71 : decode cX1_deliver 71 = .ok (.iaload, 1) := by decide +kernel
theorem dX1_deliver_72 : decode cX1_deliver 72 = .ok (.iload_n 1, 1) := by decide +kernel
theorem dX1_deliver_73 : decode cX1_deliver 73 = .ok (.iload_n 2, 1) := by decide +kernel
theorem dX1_deliver_74 : decode cX1_deliver 74 = .ok (.invokevirtual 38, 3) := by decide +kernel
theorem dX1_deliver_77 : decode cX1_deliver 77 = .ok (.iinc 3 1, 3) := by decide +kernel
theorem dX1_deliver_80 : decode cX1_deliver 80 = .ok (.goto (-35), 3) := by decide +kernel
theorem dX1_deliver_83 : decode cX1_deliver 83 = .ok (.aload_n 0, 1) := by decide +kernel
theorem dX1_deliver_84 : decode cX1_deliver 84 = .ok (.getfield 22, 3) := by decide +kernel
theorem dX1_deliver_87 : decode cX1_deliver 87 = .ok (.ireturn, 1) := by decide +kernel
theorem dX1_transmit_0 : decode cX1_transmit 0 = .ok (.aload_n 0, 1) := by decide +kernel
theorem dX1_transmit_1 : decode cX1_transmit 1 = .ok (.getfield 22, 3) := by decide +kernel
theorem dX1_transmit_4 : decode cX1_transmit 4 = .ok (.bipush 64, 2) := by decide +kernel
theorem dX1_transmit_6 : decode cX1_transmit 6 = .ok (.if_icmp .lt 4, 3) := by decide +kernel
theorem dX1_transmit_9 : decode cX1_transmit 9 = .ok (.return_, 1) := by decide +kernel
theorem dX1_transmit_10 : decode cX1_transmit 10 = .ok (.aload_n 0, 1) := by decide +kernel
theorem dX1_transmit_11 : decode cX1_transmit 11 = .ok (.getfield 9, 3) := by decide +kernel
theorem dX1_transmit_14 : decode cX1_transmit 14 = .ok (.aload_n 0, 1) := by decide +kernel
theorem dX1_transmit_15 : decode cX1_transmit 15 = .ok (.getfield 22, 3) := by decide +kernel
theorem dX1_transmit_18 : decode cX1_transmit 18 = .ok (.iload_n 1, 1) := by decide +kernel
theorem dX1_transmit_19 : decode cX1_transmit 19 = .ok (.iastore, 1) := by decide +kernel
theorem dX1_transmit_20 : decode cX1_transmit 20 = .ok (.aload_n 0, 1) := by decide +kernel
theorem dX1_transmit_21 : decode cX1_transmit 21 = .ok (.getfield 15, 3) := by decide +kernel
theorem dX1_transmit_24 : decode cX1_transmit 24 = .ok (.aload_n 0, 1) := by decide +kernel
theorem dX1_transmit_25 : decode cX1_transmit 25 = .ok (.getfield 22, 3) := by decide +kernel
theorem dX1_transmit_28 : decode cX1_transmit 28 = .ok (.iload_n 2, 1) := by decide +kernel
theorem dX1_transmit_29 : decode cX1_transmit 29 = .ok (.iastore, 1) := by decide +kernel
theorem dX1_transmit_30 : decode cX1_transmit 30 = .ok (.aload_n 0, 1) := by decide +kernel
theorem dX1_transmit_31 : decode cX1_transmit 31 = .ok (.dup, 1) := by decide +kernel
theorem dX1_transmit_32 : decode cX1_transmit 32 = .ok (.getfield 22, 3) := by decide +kernel
theorem dX1_transmit_35 : decode cX1_transmit 35 = .ok (.iconst 1, 1) := by decide +kernel
theorem dX1_transmit_36 : decode cX1_transmit 36 = .ok (.iadd, 1) := by decide +kernel
theorem dX1_transmit_37 : decode cX1_transmit 37 = .ok (.putfield 22, 3) := by decide +kernel
theorem dX1_transmit_40 : decode cX1_transmit 40 = .ok (.aload_n 0, 1) := by decide +kernel
theorem dX1_transmit_41 : decode cX1_transmit 41 = .ok (.getfield 18, 3) := by decide +kernel
theorem dX1_transmit_44 : decode cX1_transmit 44 = .ok (.getfield 26, 3) := by decide +kernel
theorem dX1_transmit_47 : decode cX1_transmit 47 = .ok (.iload_n 1, 1) := by decide +kernel
theorem dX1_transmit_48 : decode cX1_transmit 48 = .ok (.dup2, 1) := by decide +kernel
theorem dX1_transmit_49 : decode cX1_transmit 49 = .ok (.iaload, 1) := by decide +kernel
theorem dX1_transmit_50 : decode cX1_transmit 50 = .ok (.iconst 1, 1) := by decide +kernel
theorem dX1_transmit_51 : decode cX1_transmit 51 = .ok (.iadd, 1) := by decide +kernel
theorem dX1_transmit_52 : decode cX1_transmit 52 = .ok (.iastore, 1) := by decide +kernel
theorem dX1_transmit_53 : decode cX1_transmit 53 = .ok (.return_, 1) := by decide +kernel
theorem dX1_visitPorts_0 : decode cX1_visitPorts 0 = .ok (.iconst 0, 1) := by decide +kernel
theorem dX1_visitPorts_1 : decode cX1_visitPorts 1 = .ok (.istore 5, 2) := by decide +kernel
theorem dX1_visitPorts_3 : decode cX1_visitPorts 3 = .ok (.iload 5, 2) := by decide +kernel
theorem dX1_visitPorts_5 : decode cX1_visitPorts 5 = .ok (.aload_n 0, 1) := by decide +kernel
theorem dX1_visitPorts_6 : decode cX1_visitPorts 6 = .ok (.getfield 18, 3) := by decide +kernel
theorem dX1_visitPorts_9 : decode cX1_visitPorts 9 = .ok (.getfield 42, 3) := by decide +kernel
theorem dX1_visitPorts_12 : decode cX1_visitPorts 12 = .ok (.if_icmp .ge 50, 3) := by decide +kernel
theorem dX1_visitPorts_15 : decode cX1_visitPorts 15 = .ok (.aload_n 0, 1) := by decide +kernel
theorem dX1_visitPorts_16 : decode cX1_visitPorts 16 = .ok (.getfield 18, 3) := by decide +kernel
theorem dX1_visitPorts_19 : decode cX1_visitPorts 19 = .ok (.getfield 45, 3) := by decide +kernel
theorem dX1_visitPorts_22 : decode cX1_visitPorts 22 = .ok (.iload 5, 2) := by decide +kernel
theorem dX1_visitPorts_24 : decode cX1_visitPorts 24 = .ok (.iaload, 1) := by decide +kernel
theorem dX1_visitPorts_25 : decode cX1_visitPorts 25 = .ok (.iload_n 1, 1) := by decide +kernel
theorem dX1_visitPorts_26 : decode cX1_visitPorts 26 = .ok (.if_icmp .ne 30, 3) := by decide +kernel
theorem dX1_visitPorts_29 : decode cX1_visitPorts 29 = .ok (.iload 5, 2) := by decide +kernel
theorem dX1_visitPorts_31 : decode cX1_visitPorts 31 = .ok (.iload_n 2, 1) := by decide +kernel
theorem dX1_visitPorts_32 : decode cX1_visitPorts 32 = .ok (.if_icmp .eq 24, 3) := by decide +kernel
theorem dX1_visitPorts_35 : decode cX1_visitPorts 35 = .ok (.aload_n 0, 1) := by decide +kernel
theorem dX1_visitPorts_36 : decode cX1_visitPorts 36 = .ok (.getfield 18, 3) := by decide +kernel
theorem dX1_visitPorts_39 : decode cX1_visitPorts 39 = .ok (.iload 5, 2) := by decide +kernel
theorem dX1_visitPorts_41 : decode cX1_visitPorts 41 = .ok (.invokevirtual 48, 3) := by decide +kernel
theorem dX1_visitPorts_44 : decode cX1_visitPorts 44 = .ok (.ifCond .eq 12, 3) := by decide +kernel
theorem dX1_visitPorts_47 : decode cX1_visitPorts 47 = .ok (.aload_n 0, 1) := by decide +kernel
theorem dX1_visitPorts_48 : decode cX1_visitPorts 48 = .ok (.iload 5, 2) := by decide +kernel
theorem dX1_visitPorts_50 : decode cX1_visitPorts 50 = .ok (.iload_n 3, 1) := by decide +kernel
theorem dX1_visitPorts_51 : decode cX1_visitPorts 51 = .ok (.iload 4, 2) := by decide +kernel
theorem dX1_visitPorts_53 : decode cX1_visitPorts 53 = .ok (.invokevirtual 52, 3) := by decide +kernel
theorem dX1_visitPorts_56 : decode cX1_visitPorts 56 = .ok (.iinc 5 1, 3) := by decide +kernel
theorem dX1_visitPorts_59 : decode cX1_visitPorts 59 = .ok (.goto (-56), 3) := by decide +kernel
theorem dX1_visitPorts_62 : decode cX1_visitPorts 62 = .ok (.return_, 1) := by decide +kernel
theorem dX1_visitPort_0 : decode cX1_visitPort 0 = .ok (.aload_n 0, 1) := by decide +kernel
theorem dX1_visitPort_1 : decode cX1_visitPort 1 = .ok (.getfield 18, 3) := by decide +kernel
theorem dX1_visitPort_4 : decode cX1_visitPort 4 = .ok (.getfield 56, 3) := by decide +kernel
theorem dX1_visitPort_7 : decode cX1_visitPort 7 = .ok (.iload_n 1, 1) := by decide +kernel
theorem dX1_visitPort_8 : decode cX1_visitPort 8 = .ok (.iaload, 1) := by decide +kernel
theorem dX1_visitPort_9 : decode cX1_visitPort 9 = .ok (.istore 4, 2) := by decide +kernel
theorem dX1_visitPort_11 : decode cX1_visitPort 11 = .ok (.iload 4, 2) := by decide +kernel
theorem dX1_visitPort_13 : decode cX1_visitPort 13 = .ok (.iconst 3, 1) := by decide +kernel
theorem dX1_visitPort_14 : decode cX1_visitPort 14 = .ok (.if_icmp .eq 9, 3) := by decide +kernel
theorem dX1_visitPort_17 : decode cX1_visitPort 17 = .ok (.iload 4, 2) := by decide +kernel
theorem dX1_visitPort_19 : decode cX1_visitPort 19 = .ok (.iconst 4, 1) := by decide +kernel
theorem dX1_visitPort_20 : decode cX1_visitPort 20 = .ok (.if_icmp .ne 12, 3) := by decide +kernel
theorem dX1_visitPort_23 : decode cX1_visitPort 23 = .ok (.aload_n 0, 1) := by decide +kernel
theorem dX1_visitPort_24 : decode cX1_visitPort 24 = .ok (.getfield 18, 3) := by decide +kernel
theorem dX1_visitPort_27 : decode cX1_visitPort 27 = .ok (.iload_n 2, 1) := by decide +kernel
theorem dX1_visitPort_28 : decode cX1_visitPort 28 = .ok (.iload_n 1, 1) := by decide +kernel
theorem dX1_visitPort_29 : decode cX1_visitPort 29 = .ok (.invokevirtual 59, 3) := by decide +kernel
theorem dX1_visitPort_32 : decode cX1_visitPort 32 = .ok (.iload 4, 2) := by decide +kernel
theorem dX1_visitPort_34 : decode cX1_visitPort 34 = .ok (.iconst 4, 1) := by decide +kernel
theorem dX1_visitPort_35 : decode cX1_visitPort 35 = .ok (.if_icmp .ne 9, 3) := by decide +kernel
theorem dX1_visitPort_38 : decode cX1_visitPort 38 = .ok (.aload_n 0, 1) := by decide +kernel
theorem dX1_visitPort_39 : decode cX1_visitPort 39 = .ok (.iload_n 1, 1) := by decide +kernel
theorem dX1_visitPort_40 : decode cX1_visitPort 40 = .ok (.iload_n 3, 1) := by decide +kernel
theorem dX1_visitPort_41 : decode cX1_visitPort 41 = .ok (.invokevirtual 62, 3) := by decide +kernel
theorem dX1_visitPort_44 : decode cX1_visitPort 44 = .ok (.return_, 1) := by decide +kernel
theorem dX1_passOn_0 : decode cX1_passOn 0 = .ok (.aload_n 0, 1) := by decide +kernel
theorem dX1_passOn_1 : decode cX1_passOn 1 = .ok (.getfield 18, 3) := by decide +kernel
theorem dX1_passOn_4 : decode cX1_passOn 4 = .ok (.getfield 65, 3) := by decide +kernel
theorem dX1_passOn_7 : decode cX1_passOn 7 = .ok (.iload_n 1, 1) := by decide +kernel
theorem dX1_passOn_8 : decode cX1_passOn 8 = .ok (.iaload, 1) := by decide +kernel
theorem dX1_passOn_9 : decode cX1_passOn 9 = .ok (.istore_n 3, 1) := by decide +kernel
theorem dX1_passOn_10 : decode cX1_passOn 10 = .ok (.iload_n 2, 1) := by decide +kernel
theorem dX1_passOn_11 : decode cX1_passOn 11 = .ok (.iconst (-1), 1) := by decide +kernel
theorem dX1_passOn_12 : decode cX1_passOn 12 = .ok (.if_icmp .ne 7, 3) := by decide +kernel
theorem dX1_passOn_15 : decode cX1_passOn 15 = .ok (.iconst (-1), 1) := by decide +kernel
theorem dX1_passOn_16 : decode cX1_passOn 16 = .ok (.goto 12, 3) := by decide +kernel
theorem dX1_passOn_19 : decode cX1_passOn 19 = .ok (.aload_n 0, 1) := by decide +kernel
theorem dX1_passOn_20 : decode cX1_passOn 20 = .ok (.getfield 18, 3) := by decide +kernel
theorem dX1_passOn_23 : decode cX1_passOn 23 = .ok (.iload_n 3, 1) := by decide +kernel
theorem dX1_passOn_24 : decode cX1_passOn 24 = .ok (.iload_n 2, 1) := by decide +kernel
theorem dX1_passOn_25 : decode cX1_passOn 25 = .ok (.invokevirtual 68, 3) := by decide +kernel
theorem dX1_passOn_28 : decode cX1_passOn 28 = .ok (.istore 4, 2) := by decide +kernel
theorem dX1_passOn_30 : decode cX1_passOn 30 = .ok (.iload 4, 2) := by decide +kernel
theorem dX1_passOn_32 : decode cX1_passOn 32 = .ok (.iconst (-1), 1) := by decide +kernel
theorem dX1_passOn_33 : decode cX1_passOn 33 = .ok (.if_icmp .eq 15, 3) := by decide +kernel
theorem dX1_passOn_36 : decode cX1_passOn 36 = .ok (.aload_n 0, 1) := by decide +kernel
theorem dX1_passOn_37 : decode cX1_passOn 37 = .ok (.getfield 18, 3) := by decide +kernel
theorem dX1_passOn_40 : decode cX1_passOn 40 = .ok (.iload 4, 2) := by decide +kernel
theorem dX1_passOn_42 : decode cX1_passOn 42 = .ok (.invokevirtual 72, 3) := by decide +kernel
theorem dX1_passOn_45 : decode cX1_passOn 45 = .ok (.ifCond .ne 12, 3) := by decide +kernel
theorem dX1_passOn_48 : decode cX1_passOn 48 = .ok (.aload_n 0, 1) := by decide +kernel
theorem dX1_passOn_49 : decode cX1_passOn 49 = .ok (.iload_n 3, 1) := by decide +kernel
theorem dX1_passOn_50 : decode cX1_passOn 50 = .ok (.iload_n 1, 1) := by decide +kernel
theorem dX1_passOn_51 : decode cX1_passOn 51 = .ok (.invokevirtual 75, 3) := by decide +kernel
theorem dX1_passOn_54 : decode cX1_passOn 54 = .ok (.goto 25, 3) := by decide +kernel
theorem dX1_passOn_57 : decode cX1_passOn 57 = .ok (.iload 4, 2) := by decide +kernel
theorem dX1_passOn_59 : decode cX1_passOn 59 = .ok (.iload_n 1, 1) := by decide +kernel
theorem dX1_passOn_60 : decode cX1_passOn 60 = .ok (.if_icmp .eq 19, 3) := by decide +kernel
theorem dX1_passOn_63 : decode cX1_passOn 63 = .ok (.aload_n 0, 1) := by decide +kernel
theorem dX1_passOn_64 : decode cX1_passOn 64 = .ok (.aload_n 0, 1) := by decide +kernel
theorem dX1_passOn_65 : decode cX1_passOn 65 = .ok (.getfield 18, 3) := by decide +kernel
theorem dX1_passOn_68 : decode cX1_passOn 68 = .ok (.getfield 45, 3) := by decide +kernel
theorem dX1_passOn_71 : decode cX1_passOn 71 = .ok (.iload 4, 2) := by decide +kernel
theorem dX1_passOn_73 : decode cX1_passOn 73 = .ok (.iaload, 1) := by decide +kernel
theorem dX1_passOn_74 : decode cX1_passOn 74 = .ok (.iload 4, 2) := by decide +kernel
theorem dX1_passOn_76 : decode cX1_passOn 76 = .ok (.invokevirtual 34, 3) := by decide +kernel
theorem dX1_passOn_79 : decode cX1_passOn 79 = .ok (.return_, 1) := by decide +kernel
theorem dX1_flood_0 : decode cX1_flood 0 = .ok (.iconst 0, 1) := by decide +kernel
theorem dX1_flood_1 : decode cX1_flood 1 = .ok (.istore_n 3, 1) := by decide +kernel
theorem dX1_flood_2 : decode cX1_flood 2 = .ok (.iload_n 3, 1) := by decide +kernel
theorem dX1_flood_3 : decode cX1_flood 3 = .ok (.aload_n 0, 1) := by decide +kernel
theorem dX1_flood_4 : decode cX1_flood 4 = .ok (.getfield 18, 3) := by decide +kernel
theorem dX1_flood_7 : decode cX1_flood 7 = .ok (.getfield 42, 3) := by decide +kernel
theorem dX1_flood_10 : decode cX1_flood 10 = .ok (.if_icmp .ge 52, 3) := by decide +kernel
theorem dX1_flood_13 : decode cX1_flood 13 = .ok (.aload_n 0, 1) := by decide +kernel
theorem dX1_flood_14 : decode cX1_flood 14 = .ok (.getfield 18, 3) := by decide +kernel
theorem dX1_flood_17 : decode cX1_flood 17 = .ok (.getfield 65, 3) := by decide +kernel
theorem dX1_flood_20 : decode cX1_flood 20 = .ok (.iload_n 3, 1) := by decide +kernel
theorem dX1_flood_21 : decode cX1_flood 21 = .ok (.iaload, 1) := by decide +kernel
theorem dX1_flood_22 : decode cX1_flood 22 = .ok (.iload_n 1, 1) := by decide +kernel
theorem dX1_flood_23 : decode cX1_flood 23 = .ok (.if_icmp .ne 33, 3) := by decide +kernel
theorem dX1_flood_26 : decode cX1_flood 26 = .ok (.iload_n 3, 1) := by decide +kernel
theorem dX1_flood_27 : decode cX1_flood 27 = .ok (.iload_n 2, 1) := by decide +kernel
theorem dX1_flood_28 : decode cX1_flood 28 = .ok (.if_icmp .eq 28, 3) := by decide +kernel
theorem dX1_flood_31 : decode cX1_flood 31 = .ok (.aload_n 0, 1) := by decide +kernel
theorem dX1_flood_32 : decode cX1_flood 32 = .ok (.getfield 18, 3) := by decide +kernel
theorem dX1_flood_35 : decode cX1_flood 35 = .ok (.iload_n 3, 1) := by decide +kernel
theorem dX1_flood_36 : decode cX1_flood 36 = .ok (.invokevirtual 72, 3) := by decide +kernel
theorem dX1_flood_39 : decode cX1_flood 39 = .ok (.ifCond .eq 17, 3) := by decide +kernel
theorem dX1_flood_42 : decode cX1_flood 42 = .ok (.aload_n 0, 1) := by decide +kernel
theorem dX1_flood_43 : decode cX1_flood 43 = .ok (.aload_n 0, 1) := by decide +kernel
theorem dX1_flood_44 : decode cX1_flood 44 = .ok (.getfield 18, 3) := by decide +kernel
theorem dX1_flood_47 : decode cX1_flood 47 = .ok (.getfield 45, 3) := by decide +kernel
theorem dX1_flood_50 : decode cX1_flood 50 = .ok (.iload_n 3, 1) := by decide +kernel
theorem dX1_flood_51 : decode cX1_flood 51 = .ok (.iaload, 1) := by decide +kernel
theorem dX1_flood_52 : decode cX1_flood 52 = .ok (.iload_n 3, 1) := by decide +kernel
theorem dX1_flood_53 : decode cX1_flood 53 = .ok (.invokevirtual 34, 3) := by decide +kernel
theorem dX1_flood_56 : decode cX1_flood 56 = .ok (.iinc 3 1, 3) := by decide +kernel
theorem dX1_flood_59 : decode cX1_flood 59 = .ok (.goto (-57), 3) := by decide +kernel
theorem dX1_flood_62 : decode cX1_flood 62 = .ok (.return_, 1) := by decide +kernel
theorem dX2_of_0 : decode cX2_of 0 = .ok (.iload_n 0, 1) := by decide +kernel
theorem dX2_of_1 : decode cX2_of 1 = .ok (.i2l, 1) := by decide +kernel
theorem dX2_of_2 : decode cX2_of 2 = .ok (.bipush 40, 2) := by decide +kernel
theorem dX2_of_4 : decode cX2_of 4 = .ok (.lshl, 1) := by decide +kernel
theorem dX2_of_5 : decode cX2_of 5 = .ok (.iload_n 1, 1) := by decide +kernel
theorem dX2_of_6 : decode cX2_of 6 = .ok (.i2l, 1) := by decide +kernel
theorem dX2_of_7 : decode cX2_of 7 = .ok (.bipush 16, 2) := by decide +kernel
theorem dX2_of_9 : decode cX2_of 9 = .ok (.lshl, 1) := by decide +kernel
theorem dX2_of_10 : decode cX2_of 10 = .ok (.lor, 1) := by decide +kernel
theorem dX2_of_11 : decode cX2_of 11 = .ok (.iload_n 2, 1) := by decide +kernel
theorem dX2_of_12 : decode cX2_of 12 = .ok (.i2l, 1) := by decide +kernel
theorem dX2_of_13 : decode cX2_of 13 = .ok (.bipush 8, 2) := by decide +kernel
theorem dX2_of_15 : decode cX2_of 15 = .ok (.lshl, 1) := by decide +kernel
theorem dX2_of_16 : decode cX2_of 16 = .ok (.lor, 1) := by decide +kernel
theorem dX2_of_17 : decode cX2_of 17 = .ok (.iload_n 3, 1) := by decide +kernel
theorem dX2_of_18 : decode cX2_of 18 = .ok (.i2l, 1) := by decide +kernel
theorem dX2_of_19 : decode cX2_of 19 = .ok (.lor, 1) := by decide +kernel
theorem dX2_of_20 : decode cX2_of 20 = .ok (.lreturn, 1) := by decide +kernel
theorem dX2_rootOf_0 : decode cX2_rootOf 0 = .ok (.lload_n 0, 1) := by decide +kernel
theorem dX2_rootOf_1 : decode cX2_rootOf 1 = .ok (.bipush 40, 2) := by decide +kernel
theorem dX2_rootOf_3 : decode cX2_rootOf 3 = .ok (.lshr, 1) := by decide +kernel
theorem dX2_rootOf_4 : decode cX2_rootOf 4 = .ok (.l2i, 1) := by decide +kernel
theorem dX2_rootOf_5 : decode cX2_rootOf 5 = .ok (.ireturn, 1) := by decide +kernel
theorem dX2_costOf_0 : decode cX2_costOf 0 = .ok (.lload_n 0, 1) := by decide +kernel
theorem dX2_costOf_1 : decode cX2_costOf 1 = .ok (.bipush 16, 2) := by decide +kernel
theorem dX2_costOf_3 : decode cX2_costOf 3 = .ok (.lshr, 1) := by decide +kernel
theorem dX2_costOf_4 : decode cX2_costOf 4 = .ok (.ldc2_w 9, 3) := by decide +kernel
theorem dX2_costOf_7 : decode cX2_costOf 7 = .ok (.land, 1) := by decide +kernel
theorem dX2_costOf_8 : decode cX2_costOf 8 = .ok (.l2i, 1) := by decide +kernel
theorem dX2_costOf_9 : decode cX2_costOf 9 = .ok (.ireturn, 1) := by decide +kernel
theorem dX2_senderOf_0 : decode cX2_senderOf 0 = .ok (.lload_n 0, 1) := by decide +kernel
theorem dX2_senderOf_1 : decode cX2_senderOf 1 = .ok (.bipush 8, 2) := by decide +kernel
theorem dX2_senderOf_3 : decode cX2_senderOf 3 = .ok (.lshr, 1) := by decide +kernel
theorem dX2_senderOf_4 : decode cX2_senderOf 4 = .ok (.ldc2_w 11, 3) := by decide +kernel
theorem dX2_senderOf_7 : decode cX2_senderOf 7 = .ok (.land, 1) := by decide +kernel
theorem dX2_senderOf_8 : decode cX2_senderOf 8 = .ok (.l2i, 1) := by decide +kernel
theorem dX2_senderOf_9 : decode cX2_senderOf 9 = .ok (.ireturn, 1) := by decide +kernel
theorem dX2_senderPortOf_0 : decode cX2_senderPortOf 0 = .ok (.lload_n 0, 1) := by decide +kernel
theorem dX2_senderPortOf_1 : decode cX2_senderPortOf 1 = .ok (.ldc2_w 11, 3) := by decide +kernel
theorem dX2_senderPortOf_4 : decode cX2_senderPortOf 4 = .ok (.land, 1) := by decide +kernel
theorem dX2_senderPortOf_5 : decode cX2_senderPortOf 5 = .ok (.l2i, 1) := by decide +kernel
theorem dX2_senderPortOf_6 : decode cX2_senderPortOf 6 = .ok (.ireturn, 1) := by decide +kernel
theorem dX2_withCostAdded_0 : decode cX2_withCostAdded 0 = .ok (.lload_n 0, 1) := by decide +kernel
theorem dX2_withCostAdded_1 : decode cX2_withCostAdded 1 = .ok (.iload_n 2, 1) := by decide +kernel
theorem dX2_withCostAdded_2 : decode cX2_withCostAdded 2 = .ok (.i2l, 1) := by decide +kernel
theorem dX2_withCostAdded_3 : decode cX2_withCostAdded 3 = .ok (.bipush 16, 2) := by decide +kernel
theorem dX2_withCostAdded_5 : decode cX2_withCostAdded 5 = .ok (.lshl, 1) := by decide +kernel
theorem dX2_withCostAdded_6 : decode cX2_withCostAdded 6 = .ok (.ladd, 1) := by decide +kernel
theorem dX2_withCostAdded_7 : decode cX2_withCostAdded 7 = .ok (.lreturn, 1) := by decide +kernel
theorem dX2_haveSameSource_0 : decode cX2_haveSameSource 0 = .ok (.lload_n 0, 1) := by decide +kernel
theorem dX2_haveSameSource_1 : decode cX2_haveSameSource 1 = .ok (.ldc2_w 13, 3) := by decide +kernel
theorem dX2_haveSameSource_4 : decode cX2_haveSameSource 4 = .ok (.land, 1) := by decide +kernel
theorem dX2_haveSameSource_5 : decode cX2_haveSameSource 5 = .ok (.lload_n 2, 1) := by decide +kernel
theorem dX2_haveSameSource_6 : decode cX2_haveSameSource 6 = .ok (.ldc2_w 13, 3) := by decide +kernel
theorem dX2_haveSameSource_9 : decode cX2_haveSameSource 9 = .ok (.land, 1) := by decide +kernel
theorem dX2_haveSameSource_10 : decode cX2_haveSameSource 10 = .ok (.lcmp, 1) := by decide +kernel
theorem dX2_haveSameSource_11 : decode cX2_haveSameSource 11 = .ok (.ifCond .ne 7, 3) := by decide +kernel
theorem dX2_haveSameSource_14 : decode cX2_haveSameSource 14 = .ok (.iconst 1, 1) := by decide +kernel
theorem dX2_haveSameSource_15 : decode cX2_haveSameSource 15 = .ok (.goto 4, 3) := by decide +kernel
theorem dX2_haveSameSource_18 : decode cX2_haveSameSource 18 = .ok (.iconst 0, 1) := by decide +kernel
theorem dX2_haveSameSource_19 : decode cX2_haveSameSource 19 = .ok (.ireturn, 1) := by decide +kernel
theorem dX3_init_0 : decode cX3_init 0 = .ok (.aload_n 0, 1) := by decide +kernel
theorem dX3_init_1 : decode cX3_init 1 = .ok (.invokespecial 3, 3) := by decide +kernel
theorem dX3_init_4 : decode cX3_init 4 = .ok (.aload_n 0, 1) := by decide +kernel
theorem dX3_init_5 : decode cX3_init 5 = .ok (.bipush 8, 2) := by decide +kernel
theorem dX3_init_7 : decode cX3_init 7 = .ok (.newarray .int, 2) := by decide +kernel
theorem dX3_init_9 : decode cX3_init 9 = .ok (.putfield 9, 3) := by decide +kernel
theorem dX3_init_12 : decode cX3_init 12 = .ok (.aload_n 0, 1) := by decide +kernel
theorem dX3_init_13 : decode cX3_init 13 = .ok (.bipush 8, 2) := by decide +kernel
theorem dX3_init_15 : decode cX3_init 15 = .ok (.newarray .int, 2) := by decide +kernel
theorem dX3_init_17 : decode cX3_init 17 = .ok (.putfield 15, 3) := by decide +kernel
theorem dX3_init_20 : decode cX3_init 20 = .ok (.aload_n 0, 1) := by decide +kernel
theorem dX3_init_21 : decode cX3_init 21 = .ok (.bipush 24, 2) := by decide +kernel
theorem dX3_init_23 : decode cX3_init 23 = .ok (.newarray .int, 2) := by decide +kernel
theorem dX3_init_25 : decode cX3_init 25 = .ok (.putfield 18, 3) := by decide +kernel
theorem dX3_init_28 : decode cX3_init 28 = .ok (.aload_n 0, 1) := by decide +kernel
theorem dX3_init_29 : decode cX3_init 29 = .ok (.bipush 24, 2) := by decide +kernel
theorem dX3_init_31 : decode cX3_init 31 = .ok (.newarray .int, 2) := by decide +kernel
theorem dX3_init_33 : decode cX3_init 33 = .ok (.putfield 21, 3) := by decide +kernel
theorem dX3_init_36 : decode cX3_init 36 = .ok (.aload_n 0, 1) := by decide +kernel
theorem dX3_init_37 : decode cX3_init 37 = .ok (.bipush 24, 2) := by decide +kernel
theorem dX3_init_39 : decode cX3_init 39 = .ok (.newarray .int, 2) := by decide +kernel
theorem dX3_init_41 : decode cX3_init 41 = .ok (.putfield 24, 3) := by decide +kernel
theorem dX3_init_44 : decode cX3_init 44 = .ok (.aload_n 0, 1) := by decide +kernel
theorem dX3_init_45 : decode cX3_init 45 = .ok (.bipush 24, 2) := by decide +kernel
theorem dX3_init_47 : decode cX3_init 47 = .ok (.newarray .int, 2) := by decide +kernel
theorem dX3_init_49 : decode cX3_init 49 = .ok (.putfield 27, 3) := by decide +kernel
theorem dX3_init_52 : decode cX3_init 52 = .ok (.aload_n 0, 1) := by decide +kernel
theorem dX3_init_53 : decode cX3_init 53 = .ok (.bipush 24, 2) := by decide +kernel
theorem dX3_init_55 : decode cX3_init 55 = .ok (.newarray .int, 2) := by decide +kernel
theorem dX3_init_57 : decode cX3_init 57 = .ok (.putfield 30, 3) := by decide +kernel
theorem dX3_init_60 : decode cX3_init 60 = .ok (.aload_n 0, 1) := by decide +kernel
theorem dX3_init_61 : decode cX3_init 61 = .ok (.bipush 24, 2) := by decide +kernel
theorem dX3_init_63 : decode cX3_init 63 = .ok (.newarray .int, 2) := by decide +kernel
theorem dX3_init_65 : decode cX3_init 65 = .ok (.putfield 33, 3) := by decide +kernel
theorem dX3_init_68 : decode cX3_init 68 = .ok (.aload_n 0, 1) := by decide +kernel
theorem dX3_init_69 : decode cX3_init 69 = .ok (.bipush 24, 2) := by decide +kernel
theorem dX3_init_71 : decode cX3_init 71 = .ok (.newarray .long, 2) := by decide +kernel
theorem dX3_init_73 : decode cX3_init 73 = .ok (.putfield 36, 3) := by decide +kernel
theorem dX3_init_76 : decode cX3_init 76 = .ok (.aload_n 0, 1) := by decide +kernel
theorem dX3_init_77 : decode cX3_init 77 = .ok (.bipush 24, 2) := by decide +kernel
theorem dX3_init_79 : decode cX3_init 79 = .ok (.newarray .int, 2) := by decide +kernel
theorem dX3_init_81 : decode cX3_init 81 = .ok (.putfield 40, 3) := by decide +kernel
theorem dX3_init_84 : decode cX3_init 84 = .ok (.aload_n 0, 1) := by decide +kernel
theorem dX3_init_85 : decode cX3_init 85 = .ok (.bipush 8, 2) := by decide +kernel
theorem dX3_init_87 : decode cX3_init 87 = .ok (.newarray .int, 2) := by decide +kernel
theorem dX3_init_89 : decode cX3_init 89 = .ok (.putfield 43, 3) := by decide +kernel
theorem dX3_init_92 : decode cX3_init 92 = .ok (.aload_n 0, 1) := by decide +kernel
theorem dX3_init_93 : decode cX3_init 93 = .ok (.bipush 64, 2) := by decide +kernel
theorem dX3_init_95 : decode cX3_init 95 = .ok (.newarray .int, 2) := by decide +kernel
theorem dX3_init_97 : decode cX3_init 97 = .ok (.putfield 46, 3) := by decide +kernel
theorem dX3_init_100 : decode cX3_init 100 = .ok (.aload_n 0, 1) := by decide +kernel
theorem dX3_init_101 : decode cX3_init 101 = .ok (.bipush 64, 2) := by decide +kernel
theorem dX3_init_103 : decode cX3_init 103 = .ok (.newarray .int, 2) := by decide +kernel
theorem dX3_init_105 : decode cX3_init 105 = .ok (.putfield 49, 3) := by decide +kernel
theorem dX3_init_108 : decode cX3_init 108 = .ok (.aload_n 0, 1) := by decide +kernel
theorem dX3_init_109 : decode cX3_init 109 = .ok (.bipush 10, 2) := by decide +kernel
theorem dX3_init_111 : decode cX3_init 111 = .ok (.newarray .int, 2) := by decide +kernel
theorem dX3_init_113 : decode cX3_init 113 = .ok (.putfield 52, 3) := by decide +kernel
theorem dX3_init_116 : decode cX3_init 116 = .ok (.return_, 1) := by decide +kernel
theorem dX3_copyFrom_0 : decode cX3_copyFrom 0 = .ok (.aload_n 0, 1) := by decide +kernel
theorem dX3_copyFrom_1 : decode cX3_copyFrom 1 = .ok (.aload_n 1, 1) := by decide +kernel
theorem dX3_copyFrom_2 : decode cX3_copyFrom 2 = .ok (.getfield 55, 3) := by decide +kernel
theorem dX3_copyFrom_5 : decode cX3_copyFrom 5 = .ok (.putfield 55, 3) := by decide +kernel
theorem dX3_copyFrom_8 : decode cX3_copyFrom 8 = .ok (.aload_n 0, 1) := by decide +kernel
theorem dX3_copyFrom_9 : decode cX3_copyFrom 9 = .ok (.aload_n 1, 1) := by decide +kernel
theorem dX3_copyFrom_10 : decode cX3_copyFrom 10 = .ok (.getfield 59, 3) := by decide +kernel
theorem dX3_copyFrom_13 : decode cX3_copyFrom 13 = .ok (.putfield 59, 3) := by decide +kernel
theorem dX3_copyFrom_16 : decode cX3_copyFrom 16 = .ok (.aload_n 0, 1) := by decide +kernel
theorem dX3_copyFrom_17 : decode cX3_copyFrom 17 = .ok (.aload_n 1, 1) := by decide +kernel
theorem dX3_copyFrom_18 : decode cX3_copyFrom 18 = .ok (.getfield 62, 3) := by decide +kernel
theorem dX3_copyFrom_21 : decode cX3_copyFrom 21 = .ok (.putfield 62, 3) := by decide +kernel
theorem dX3_copyFrom_24 : decode cX3_copyFrom 24 = .ok (.aload_n 0, 1) := by decide +kernel
theorem dX3_copyFrom_25 : decode cX3_copyFrom 25 = .ok (.aload_n 1, 1) := by decide +kernel
theorem dX3_copyFrom_26 : decode cX3_copyFrom 26 = .ok (.getfield 65, 3) := by decide +kernel
theorem dX3_copyFrom_29 : decode cX3_copyFrom 29 = .ok (.putfield 65, 3) := by decide +kernel
theorem dX3_copyFrom_32 : decode cX3_copyFrom 32 = .ok (.aload_n 0, 1) := by decide +kernel
theorem dX3_copyFrom_33 : decode cX3_copyFrom 33 = .ok (.aload_n 1, 1) := by decide +kernel
theorem dX3_copyFrom_34 : decode cX3_copyFrom 34 = .ok (.getfield 68, 3) := by decide +kernel
theorem dX3_copyFrom_37 : decode cX3_copyFrom 37 = .ok (.putfield 68, 3) := by decide +kernel
theorem dX3_copyFrom_40 : decode cX3_copyFrom 40 = .ok (.aload_n 1, 1) := by decide +kernel
theorem dX3_copyFrom_41 : decode cX3_copyFrom 41 = .ok (.getfield 9, 3) := by decide +kernel
theorem dX3_copyFrom_44 : decode cX3_copyFrom 44 = .ok (.aload_n 0, 1) := by decide +kernel
theorem dX3_copyFrom_45 : decode cX3_copyFrom 45 = .ok (.getfield 9, 3) := by decide +kernel
theorem dX3_copyFrom_48 : decode cX3_copyFrom 48 = .ok (.invokestatic 71, 3) := by decide +kernel
theorem dX3_copyFrom_51 : decode cX3_copyFrom 51 = .ok (.aload_n 1, 1) := by decide +kernel
theorem dX3_copyFrom_52 : decode cX3_copyFrom 52 = .ok (.getfield 15, 3) := by decide +kernel
theorem dX3_copyFrom_55 : decode cX3_copyFrom 55 = .ok (.aload_n 0, 1) := by decide +kernel
theorem dX3_copyFrom_56 : decode cX3_copyFrom 56 = .ok (.getfield 15, 3) := by decide +kernel
theorem dX3_copyFrom_59 : decode cX3_copyFrom 59 = .ok (.invokestatic 71, 3) := by decide +kernel
theorem dX3_copyFrom_62 : decode cX3_copyFrom 62 = .ok (.aload_n 1, 1) := by decide +kernel
theorem dX3_copyFrom_63 : decode cX3_copyFrom 63 = .ok (.getfield 18, 3) := by decide +kernel
theorem dX3_copyFrom_66 : decode cX3_copyFrom 66 = .ok (.aload_n 0, 1) := by decide +kernel
theorem dX3_copyFrom_67 : decode cX3_copyFrom 67 = .ok (.getfield 18, 3) := by decide +kernel
theorem dX3_copyFrom_70 : decode cX3_copyFrom 70 = .ok (.invokestatic 71, 3) := by decide +kernel
theorem dX3_copyFrom_73 : decode cX3_copyFrom 73 = .ok (.aload_n 1, 1) := by decide +kernel
theorem dX3_copyFrom_74 : decode cX3_copyFrom 74 = .ok (.getfield 21, 3) := by decide +kernel
theorem dX3_copyFrom_77 : decode cX3_copyFrom 77 = .ok (.aload_n 0, 1) := by decide +kernel
theorem dX3_copyFrom_78 : decode cX3_copyFrom 78 = .ok (.getfield 21, 3) := by decide +kernel
theorem dX3_copyFrom_81 : decode cX3_copyFrom 81 = .ok (.invokestatic 71, 3) := by decide +kernel
theorem dX3_copyFrom_84 : decode cX3_copyFrom 84 = .ok (.aload_n 1, 1) := by decide +kernel
theorem dX3_copyFrom_85 : decode cX3_copyFrom 85 = .ok (.getfield 24, 3) := by decide +kernel
theorem dX3_copyFrom_88 : decode cX3_copyFrom 88 = .ok (.aload_n 0, 1) := by decide +kernel
theorem dX3_copyFrom_89 : decode cX3_copyFrom 89 = .ok (.getfield 24, 3) := by decide +kernel
theorem dX3_copyFrom_92 : decode cX3_copyFrom 92 = .ok (.invokestatic 71, 3) := by decide +kernel
theorem dX3_copyFrom_95 : decode cX3_copyFrom 95 = .ok (.aload_n 1, 1) := by decide +kernel
theorem dX3_copyFrom_96 : decode cX3_copyFrom 96 = .ok (.getfield 27, 3) := by decide +kernel
theorem dX3_copyFrom_99 : decode cX3_copyFrom 99 = .ok (.aload_n 0, 1) := by decide +kernel
theorem dX3_copyFrom_100 : decode cX3_copyFrom 100 = .ok (.getfield 27, 3) := by decide +kernel
theorem dX3_copyFrom_103 : decode cX3_copyFrom 103 = .ok (.invokestatic 71, 3) := by decide +kernel
theorem dX3_copyFrom_106 : decode cX3_copyFrom 106 = .ok (.aload_n 1, 1) := by decide +kernel
theorem dX3_copyFrom_107 : decode cX3_copyFrom 107 = .ok (.getfield 30, 3) := by decide +kernel
theorem dX3_copyFrom_110 : decode cX3_copyFrom 110 = .ok (.aload_n 0, 1) := by decide +kernel
theorem dX3_copyFrom_111 : decode cX3_copyFrom 111 = .ok (.getfield 30, 3) := by decide +kernel
theorem dX3_copyFrom_114 : decode cX3_copyFrom 114 = .ok (.invokestatic 71, 3) := by decide +kernel
theorem dX3_copyFrom_117 : decode cX3_copyFrom 117 = .ok (.aload_n 1, 1) := by decide +kernel
theorem dX3_copyFrom_118 : decode cX3_copyFrom 118 = .ok (.getfield 33, 3) := by decide +kernel
theorem dX3_copyFrom_121 : decode cX3_copyFrom 121 = .ok (.aload_n 0, 1) := by decide +kernel
theorem dX3_copyFrom_122 : decode cX3_copyFrom 122 = .ok (.getfield 33, 3) := by decide +kernel
theorem dX3_copyFrom_125 : decode cX3_copyFrom 125 = .ok (.invokestatic 71, 3) := by decide +kernel
theorem dX3_copyFrom_128 : decode cX3_copyFrom 128 = .ok (.aload_n 1, 1) := by decide +kernel
theorem dX3_copyFrom_129 : decode cX3_copyFrom 129 = .ok (.getfield 36, 3) := by decide +kernel
theorem dX3_copyFrom_132 : decode cX3_copyFrom 132 = .ok (.iconst 0, 1) := by decide +kernel
theorem dX3_copyFrom_133 : decode cX3_copyFrom 133 = .ok (.aload_n 0, 1) := by decide +kernel
theorem dX3_copyFrom_134 : decode cX3_copyFrom 134 = .ok (.getfield 36, 3) := by decide +kernel
theorem dX3_copyFrom_137 : decode cX3_copyFrom 137 = .ok (.iconst 0, 1) := by decide +kernel
theorem dX3_copyFrom_138 : decode cX3_copyFrom 138 = .ok (.bipush 24, 2) := by decide +kernel
theorem dX3_copyFrom_140 : decode cX3_copyFrom 140 = .ok (.invokestatic 75, 3) := by decide +kernel
theorem dX3_copyFrom_143 : decode cX3_copyFrom 143 = .ok (.aload_n 1, 1) := by decide +kernel
theorem dX3_copyFrom_144 : decode cX3_copyFrom 144 = .ok (.getfield 40, 3) := by decide +kernel
theorem dX3_copyFrom_147 : decode cX3_copyFrom 147 = .ok (.aload_n 0, 1) := by decide +kernel
theorem dX3_copyFrom_148 : decode cX3_copyFrom 148 = .ok (.getfield 40, 3) := by decide +kernel
theorem dX3_copyFrom_151 : decode cX3_copyFrom 151 = .ok (.invokestatic 71, 3) := by decide +kernel
theorem dX3_copyFrom_154 : decode cX3_copyFrom 154 = .ok (.aload_n 1, 1) := by decide +kernel
theorem dX3_copyFrom_155 : decode cX3_copyFrom 155 = .ok (.getfield 43, 3) := by decide +kernel
theorem dX3_copyFrom_158 : decode cX3_copyFrom 158 = .ok (.aload_n 0, 1) := by decide +kernel
theorem dX3_copyFrom_159 : decode cX3_copyFrom 159 = .ok (.getfield 43, 3) := by decide +kernel
theorem dX3_copyFrom_162 : decode cX3_copyFrom 162 = .ok (.invokestatic 71, 3) := by decide +kernel
theorem dX3_copyFrom_165 : decode cX3_copyFrom 165 = .ok (.aload_n 1, 1) := by decide +kernel
theorem dX3_copyFrom_166 : decode cX3_copyFrom 166 = .ok (.getfield 46, 3) := by decide +kernel
theorem dX3_copyFrom_169 : decode cX3_copyFrom 169 = .ok (.aload_n 0, 1) := by decide +kernel
theorem dX3_copyFrom_170 : decode cX3_copyFrom 170 = .ok (.getfield 46, 3) := by decide +kernel
theorem dX3_copyFrom_173 : decode cX3_copyFrom 173 = .ok (.invokestatic 71, 3) := by decide +kernel
theorem dX3_copyFrom_176 : decode cX3_copyFrom 176 = .ok (.aload_n 1, 1) := by decide +kernel
theorem dX3_copyFrom_177 : decode cX3_copyFrom 177 = .ok (.getfield 49, 3) := by decide +kernel
theorem dX3_copyFrom_180 : decode cX3_copyFrom 180 = .ok (.aload_n 0, 1) := by decide +kernel
theorem dX3_copyFrom_181 : decode cX3_copyFrom 181 = .ok (.getfield 49, 3) := by decide +kernel
theorem dX3_copyFrom_184 : decode cX3_copyFrom 184 = .ok (.invokestatic 71, 3) := by decide +kernel
theorem dX3_copyFrom_187 : decode cX3_copyFrom 187 = .ok (.aload_n 1, 1) := by decide +kernel
theorem dX3_copyFrom_188 : decode cX3_copyFrom 188 = .ok (.getfield 52, 3) := by decide +kernel
theorem dX3_copyFrom_191 : decode cX3_copyFrom 191 = .ok (.aload_n 0, 1) := by decide +kernel
theorem dX3_copyFrom_192 : decode cX3_copyFrom 192 = .ok (.getfield 52, 3) := by decide +kernel
theorem dX3_copyFrom_195 : decode cX3_copyFrom 195 = .ok (.invokestatic 71, 3) := by decide +kernel
theorem dX3_copyFrom_198 : decode cX3_copyFrom 198 = .ok (.return_, 1) := by decide +kernel
theorem dX3_copyRow_0 : decode cX3_copyRow 0 = .ok (.aload_n 0, 1) := by decide +kernel
theorem dX3_copyRow_1 : decode cX3_copyRow 1 = .ok (.iconst 0, 1) := by decide +kernel
theorem dX3_copyRow_2 : decode cX3_copyRow 2 = .ok (.aload_n 1, 1) := by decide +kernel
theorem dX3_copyRow_3 : decode cX3_copyRow 3 = .ok (.iconst 0, 1) := by decide +kernel
theorem dX3_copyRow_4 : decode cX3_copyRow 4 = .ok (.aload_n 0, 1) := by decide +kernel
theorem dX3_copyRow_5 : decode cX3_copyRow 5 = .ok (.arraylength, 1) := by decide +kernel
theorem dX3_copyRow_6 : decode cX3_copyRow 6 = .ok (.aload_n 1, 1) := by decide +kernel
theorem dX3_copyRow_7 : decode cX3_copyRow 7 = .ok (.arraylength, 1) := by decide +kernel
theorem dX3_copyRow_8 : decode cX3_copyRow 8 = .ok (.invokestatic 81, 3) := by decide +kernel
theorem dX3_copyRow_11 : decode cX3_copyRow 11 = .ok (.invokestatic 75, 3) := by decide +kernel
theorem dX3_copyRow_14 : decode cX3_copyRow 14 = .ok (.return_, 1) := by decide +kernel
theorem dX3_hasBridge_0 : decode cX3_hasBridge 0 = .ok (.iload_n 1, 1) := by decide +kernel
theorem dX3_hasBridge_1 : decode cX3_hasBridge 1 = .ok (.ifCond .lt 15, 3) := by decide +kernel
theorem dX3_hasBridge_4 : decode cX3_hasBridge 4 = .ok (.iload_n 1, 1) := by decide +kernel
theorem dX3_hasBridge_5 : decode cX3_hasBridge 5 = .ok (.aload_n 0, 1) := by decide +kernel
theorem dX3_hasBridge_6 : decode cX3_hasBridge 6 = .ok (.getfield 55, 3) := by decide +kernel
theorem dX3_hasBridge_9 : decode cX3_hasBridge 9 = .ok (.if_icmp .ge 7, 3) := by decide +kernel
theorem dX3_hasBridge_12 : decode cX3_hasBridge 12 = .ok (.iconst 1, 1) := by decide +kernel
theorem dX3_hasBridge_13 : decode cX3_hasBridge 13 = .ok (.goto 4, 3) := by decide +kernel
theorem dX3_hasBridge_16 : decode cX3_hasBridge 16 = .ok (.iconst 0, 1) := by decide +kernel
theorem dX3_hasBridge_17 : decode cX3_hasBridge 17 = .ok (.ireturn, 1) := by decide +kernel
theorem dX3_hasSegment_0 : decode cX3_hasSegment 0 = .ok (.iload_n 1, 1) := by decide +kernel
theorem dX3_hasSegment_1 : decode cX3_hasSegment 1 = .ok (.ifCond .lt 15, 3) := by decide +kernel
theorem dX3_hasSegment_4 : decode cX3_hasSegment 4 = .ok (.iload_n 1, 1) := by decide +kernel
theorem dX3_hasSegment_5 : decode cX3_hasSegment 5 = .ok (.aload_n 0, 1) := by decide +kernel
theorem dX3_hasSegment_6 : decode cX3_hasSegment 6 = .ok (.getfield 59, 3) := by decide +kernel
theorem dX3_hasSegment_9 : decode cX3_hasSegment 9 = .ok (.if_icmp .ge 7, 3) := by decide +kernel
theorem dX3_hasSegment_12 : decode cX3_hasSegment 12 = .ok (.iconst 1, 1) := by decide +kernel
theorem dX3_hasSegment_13 : decode cX3_hasSegment 13 = .ok (.goto 4, 3) := by decide +kernel
theorem dX3_hasSegment_16 : decode cX3_hasSegment 16 = .ok (.iconst 0, 1) := by decide +kernel
theorem dX3_hasSegment_17 : decode cX3_hasSegment 17 = .ok (.ireturn, 1) := by decide +kernel
theorem dX3_hasPort_0 : decode cX3_hasPort 0 = .ok (.iload_n 1, 1) := by decide +kernel
theorem dX3_hasPort_1 : decode cX3_hasPort 1 = .ok (.ifCond .lt 15, 3) := by decide +kernel
theorem dX3_hasPort_4 : decode cX3_hasPort 4 = .ok (.iload_n 1, 1) := by decide +kernel
theorem dX3_hasPort_5 : decode cX3_hasPort 5 = .ok (.aload_n 0, 1) := by decide +kernel
theorem dX3_hasPort_6 : decode cX3_hasPort 6 = .ok (.getfield 62, 3) := by decide +kernel
theorem dX3_hasPort_9 : decode cX3_hasPort 9 = .ok (.if_icmp .ge 7, 3) := by decide +kernel
theorem dX3_hasPort_12 : decode cX3_hasPort 12 = .ok (.iconst 1, 1) := by decide +kernel
theorem dX3_hasPort_13 : decode cX3_hasPort 13 = .ok (.goto 4, 3) := by decide +kernel
theorem dX3_hasPort_16 : decode cX3_hasPort 16 = .ok (.iconst 0, 1) := by decide +kernel
theorem dX3_hasPort_17 : decode cX3_hasPort 17 = .ok (.ireturn, 1) := by decide +kernel
theorem dX3_hasStation_0 : decode cX3_hasStation 0 = .ok (.iload_n 1, 1) := by decide +kernel
theorem dX3_hasStation_1 : decode cX3_hasStation 1 = .ok (.ifCond .lt 15, 3) := by decide +kernel
theorem dX3_hasStation_4 : decode cX3_hasStation 4 = .ok (.iload_n 1, 1) := by decide +kernel
theorem dX3_hasStation_5 : decode cX3_hasStation 5 = .ok (.aload_n 0, 1) := by decide +kernel
theorem dX3_hasStation_6 : decode cX3_hasStation 6 = .ok (.getfield 65, 3) := by decide +kernel
theorem dX3_hasStation_9 : decode cX3_hasStation 9 = .ok (.if_icmp .ge 7, 3) := by decide +kernel
theorem dX3_hasStation_12 : decode cX3_hasStation 12 = .ok (.iconst 1, 1) := by decide +kernel
theorem dX3_hasStation_13 : decode cX3_hasStation 13 = .ok (.goto 4, 3) := by decide +kernel
theorem dX3_hasStation_16 : decode cX3_hasStation 16 = .ok (.iconst 0, 1) := by decide +kernel
theorem dX3_hasStation_17 : decode cX3_hasStation 17 = .ok (.ireturn, 1) := by decide +kernel
theorem dX3_appendBridge_0 : decode cX3_appendBridge 0 = .ok (.aload_n 0, 1) := by decide +kernel
theorem dX3_appendBridge_1 : decode cX3_appendBridge 1 = .ok (.getfield 55, 3) := by decide +kernel
theorem dX3_appendBridge_4 : decode cX3_appendBridge 4 = .ok (.istore_n 2, 1) := by decide +kernel
theorem dX3_appendBridge_5 : decode cX3_appendBridge 5 = .ok (.aload_n 0, 1) := by decide +kernel
theorem dX3_appendBridge_6 : decode cX3_appendBridge 6 = .ok (.getfield 9, 3) := by decide +kernel
theorem dX3_appendBridge_9 : decode cX3_appendBridge 9 = .ok (.iload_n 2, 1) := by decide +kernel
theorem dX3_appendBridge_10 : decode cX3_appendBridge 10 = .ok (.iload_n 1, 1) := by decide +kernel
theorem dX3_appendBridge_11 : decode cX3_appendBridge 11 = .ok (.iastore, 1) := by decide +kernel
theorem dX3_appendBridge_12 : decode cX3_appendBridge 12 = .ok (.aload_n 0, 1) := by decide +kernel
theorem dX3_appendBridge_13 : decode cX3_appendBridge 13 = .ok (.getfield 15, 3) := by decide +kernel
theorem dX3_appendBridge_16 : decode cX3_appendBridge 16 = .ok (.iload_n 2, 1) := by decide +kernel
theorem dX3_appendBridge_17 : decode cX3_appendBridge 17 = .ok (.iconst 1, 1) := by decide +kernel
theorem dX3_appendBridge_18 : decode cX3_appendBridge 18 = .ok (.iastore, 1) := by decide +kernel
theorem dX3_appendBridge_19 : decode cX3_appendBridge 19 = .ok (.aload_n 0, 1) := by decide +kernel
theorem dX3_appendBridge_20 : decode cX3_appendBridge 20 = .ok (.dup, 1) := by decide +kernel
theorem dX3_appendBridge_21 : decode cX3_appendBridge 21 = .ok (.getfield 55, 3) := by decide +kernel
theorem dX3_appendBridge_24 : decode cX3_appendBridge 24 = .ok (.iconst 1, 1) := by decide +kernel
theorem dX3_appendBridge_25 : decode cX3_appendBridge 25 = .ok (.iadd, 1) := by decide +kernel
theorem dX3_appendBridge_26 : decode cX3_appendBridge 26 = .ok (.putfield 55, 3) := by decide +kernel
theorem dX3_appendBridge_29 : decode cX3_appendBridge 29 = .ok (.iload_n 2, 1) := by decide +kernel
theorem dX3_appendBridge_30 : decode cX3_appendBridge 30 = .ok (.ireturn, 1) := by decide +kernel
theorem dX3_appendSegment_0 : decode cX3_appendSegment 0 = .ok (.aload_n 0, 1) := by decide +kernel
theorem dX3_appendSegment_1 : decode cX3_appendSegment 1 = .ok (.getfield 59, 3) := by decide +kernel
theorem dX3_appendSegment_4 : decode cX3_appendSegment 4 = .ok (.istore_n 1, 1) := by decide +kernel
theorem dX3_appendSegment_5 : decode cX3_appendSegment 5 = .ok (.aload_n 0, 1) := by decide +kernel
theorem dX3_appendSegment_6 : decode cX3_appendSegment 6 = .ok (.dup, 1) := by decide +kernel
theorem dX3_appendSegment_7 : decode cX3_appendSegment 7 = .ok (.getfield 59, 3) := by decide +kernel
theorem dX3_appendSegment_10 : decode cX3_appendSegment 10 = .ok (.iconst 1, 1) := by decide +kernel
theorem dX3_appendSegment_11 : decode cX3_appendSegment 11 = .ok (.iadd, 1) := by decide +kernel
theorem dX3_appendSegment_12 : decode cX3_appendSegment 12 = .ok (.putfield 59, 3) := by decide +kernel
theorem dX3_appendSegment_15 : decode cX3_appendSegment 15 = .ok (.iload_n 1, 1) := by decide +kernel
theorem dX3_appendSegment_16 : decode cX3_appendSegment 16 = .ok (.ireturn, 1) := by decide +kernel
theorem dX3_appendPort_0 : decode cX3_appendPort 0 = .ok (.aload_n 0, 1) := by decide +kernel
theorem dX3_appendPort_1 : decode cX3_appendPort 1 = .ok (.getfield 62, 3) := by decide +kernel
theorem dX3_appendPort_4 : decode cX3_appendPort 4 = .ok (.istore 4, 2) := by decide +kernel
theorem dX3_appendPort_6 : decode cX3_appendPort 6 = .ok (.aload_n 0, 1) := by decide +kernel
theorem dX3_appendPort_7 : decode cX3_appendPort 7 = .ok (.getfield 18, 3) := by decide +kernel
theorem dX3_appendPort_10 : decode cX3_appendPort 10 = .ok (.iload 4, 2) := by decide +kernel
theorem dX3_appendPort_12 : decode cX3_appendPort 12 = .ok (.iload_n 1, 1) := by decide +kernel
theorem dX3_appendPort_13 : decode cX3_appendPort 13 = .ok (.iastore, 1) := by decide +kernel
theorem dX3_appendPort_14 : decode cX3_appendPort 14 = .ok (.aload_n 0, 1) := by decide +kernel
theorem dX3_appendPort_15 : decode cX3_appendPort 15 = .ok (.getfield 21, 3) := by decide +kernel
theorem dX3_appendPort_18 : decode cX3_appendPort 18 = .ok (.iload 4, 2) := by decide +kernel
theorem dX3_appendPort_20 : decode cX3_appendPort 20 = .ok (.iload_n 2, 1) := by decide +kernel
theorem dX3_appendPort_21 : decode cX3_appendPort 21 = .ok (.iastore, 1) := by decide +kernel
theorem dX3_appendPort_22 : decode cX3_appendPort 22 = .ok (.aload_n 0, 1) := by decide +kernel
theorem dX3_appendPort_23 : decode cX3_appendPort 23 = .ok (.getfield 24, 3) := by decide +kernel
theorem dX3_appendPort_26 : decode cX3_appendPort 26 = .ok (.iload 4, 2) := by decide +kernel
theorem dX3_appendPort_28 : decode cX3_appendPort 28 = .ok (.iload_n 3, 1) := by decide +kernel
theorem dX3_appendPort_29 : decode cX3_appendPort 29 = .ok (.iastore, 1) := by decide +kernel
theorem dX3_appendPort_30 : decode cX3_appendPort 30 = .ok (.aload_n 0, 1) := by decide +kernel
theorem dX3_appendPort_31 : decode cX3_appendPort 31 = .ok (.getfield 27, 3) := by decide +kernel
theorem dX3_appendPort_34 : decode cX3_appendPort 34 = .ok (.iload 4, 2) := by decide +kernel
theorem dX3_appendPort_36 : decode cX3_appendPort 36 = .ok (.iconst 1, 1) := by decide +kernel
theorem dX3_appendPort_37 : decode cX3_appendPort 37 = .ok (.iastore, 1) := by decide +kernel
theorem dX3_appendPort_38 : decode cX3_appendPort 38 = .ok (.aload_n 0, 1) := by decide +kernel
theorem dX3_appendPort_39 : decode cX3_appendPort 39 = .ok (.getfield 30, 3) := by decide +kernel
theorem dX3_appendPort_42 : decode cX3_appendPort 42 = .ok (.iload 4, 2) := by decide +kernel
theorem dX3_appendPort_44 : decode cX3_appendPort 44 = .ok (.aload_n 0, 1) := by decide +kernel
theorem dX3_appendPort_45 : decode cX3_appendPort 45 = .ok (.iload_n 1, 1) := by decide +kernel
theorem dX3_appendPort_46 : decode cX3_appendPort 46 = .ok (.invokevirtual 87, 3) := by decide +kernel
theorem dX3_appendPort_49 : decode cX3_appendPort 49 = .ok (.ifCond .eq 7, 3) := by decide +kernel
theorem dX3_appendPort_52 : decode cX3_appendPort 52 = .ok (.iconst 1, 1) := by decide +kernel
theorem dX3_appendPort_53 : decode cX3_appendPort 53 = .ok (.goto 4, 3) := by decide +kernel
theorem dX3_appendPort_56 : decode cX3_appendPort 56 = .ok (.iconst 0, 1) := by decide +kernel
theorem dX3_appendPort_57 : decode cX3_appendPort 57 = .ok (.iastore, 1) := by decide +kernel
theorem dX3_appendPort_58 : decode cX3_appendPort 58 = .ok (.aload_n 0, 1) := by decide +kernel
theorem dX3_appendPort_59 : decode cX3_appendPort 59 = .ok (.dup, 1) := by decide +kernel
theorem dX3_appendPort_60 : decode cX3_appendPort 60 = .ok (.getfield 62, 3) := by decide +kernel
theorem dX3_appendPort_63 : decode cX3_appendPort 63 = .ok (.iconst 1, 1) := by decide +kernel
theorem dX3_appendPort_64 : decode cX3_appendPort 64 = .ok (.iadd, 1) := by decide +kernel
theorem dX3_appendPort_65 : decode cX3_appendPort 65 = .ok (.putfield 62, 3) := by decide +kernel
theorem dX3_appendPort_68 : decode cX3_appendPort 68 = .ok (.iload 4, 2) := by decide +kernel
theorem dX3_appendPort_70 : decode cX3_appendPort 70 = .ok (.ireturn, 1) := by decide +kernel
theorem dX3_appendStation_0 : decode cX3_appendStation 0 = .ok (.aload_n 0, 1) := by decide +kernel
theorem dX3_appendStation_1 : decode cX3_appendStation 1 = .ok (.getfield 65, 3) := by decide +kernel
theorem dX3_appendStation_4 : decode cX3_appendStation 4 = .ok (.istore_n 2, 1) := by decide +kernel
theorem dX3_appendStation_5 : decode cX3_appendStation 5 = .ok (.aload_n 0, 1) := by decide +kernel
theorem dX3_appendStation_6 : decode cX3_appendStation 6 = .ok (.getfield 43, 3) := by decide +kernel
theorem dX3_appendStation_9 : decode cX3_appendStation 9 = .ok (.iload_n 2, 1) := by decide +kernel
theorem dX3_appendStation_10 : decode cX3_appendStation 10 = .ok (.iload_n 1, 1) := by decide +kernel
theorem dX3_appendStation_11 : decode cX3_appendStation 11 = .ok (.iastore, 1) := by decide +kernel
theorem dX3_appendStation_12 : decode cX3_appendStation 12 = .ok (.aload_n 0, 1) := by decide +kernel
theorem dX3_appendStation_13 : decode cX3_appendStation 13 = .ok (.dup, 1) := by decide +kernel
theorem dX3_appendStation_14 : decode cX3_appendStation 14 = .ok (.getfield 65, 3) := by decide +kernel
theorem dX3_appendStation_17 : decode cX3_appendStation 17 = .ok (.iconst 1, 1) := by decide +kernel
theorem dX3_appendStation_18 : decode cX3_appendStation 18 = .ok (.iadd, 1) := by decide +kernel
theorem dX3_appendStation_19 : decode cX3_appendStation 19 = .ok (.putfield 65, 3) := by decide +kernel
theorem dX3_appendStation_22 : decode cX3_appendStation 22 = .ok (.iload_n 2, 1) := by decide +kernel
theorem dX3_appendStation_23 : decode cX3_appendStation 23 = .ok (.ireturn, 1) := by decide +kernel
theorem dX3_identifierOf_0 : decode cX3_identifierOf 0 = .ok (.bipush 16, 2) := by decide +kernel
theorem dX3_identifierOf_2 : decode cX3_identifierOf 2 = .ok (.aload_n 0, 1) := by decide +kernel
theorem dX3_identifierOf_3 : decode cX3_identifierOf 3 = .ok (.getfield 9, 3) := by decide +kernel
theorem dX3_identifierOf_6 : decode cX3_identifierOf 6 = .ok (.iload_n 1, 1) := by decide +kernel
theorem dX3_identifierOf_7 : decode cX3_identifierOf 7 = .ok (.iaload, 1) := by decide +kernel
theorem dX3_identifierOf_8 : decode cX3_identifierOf 8 = .ok (.imul, 1) := by decide +kernel
theorem dX3_identifierOf_9 : decode cX3_identifierOf 9 = .ok (.iload_n 1, 1) := by decide +kernel
theorem dX3_identifierOf_10 : decode cX3_identifierOf 10 = .ok (.iadd, 1) := by decide +kernel
theorem dX3_identifierOf_11 : decode cX3_identifierOf 11 = .ok (.ireturn, 1) := by decide +kernel
theorem dX3_isBridgeUp_0 : decode cX3_isBridgeUp 0 = .ok (.aload_n 0, 1) := by decide +kernel
theorem dX3_isBridgeUp_1 : decode cX3_isBridgeUp 1 = .ok (.getfield 15, 3) := by decide +kernel
theorem dX3_isBridgeUp_4 : decode cX3_isBridgeUp 4 = .ok (.iload_n 1, 1) := by decide +kernel
theorem dX3_isBridgeUp_5 : decode cX3_isBridgeUp 5 = .ok (.iaload, 1) := by decide +kernel
theorem dX3_isBridgeUp_6 : decode cX3_isBridgeUp 6 = .ok (.iconst 1, 1) := by decide +kernel
theorem dX3_isBridgeUp_7 : decode cX3_isBridgeUp 7 = .ok (.if_icmp .ne 7, 3) := by decide +kernel
theorem dX3_isBridgeUp_10 : decode cX3_isBridgeUp 10 = .ok (.iconst 1, 1) := by decide +kernel
theorem dX3_isBridgeUp_11 : decode cX3_isBridgeUp 11 = .ok (.goto 4, 3) := by decide +kernel
theorem dX3_isBridgeUp_14 : decode cX3_isBridgeUp 14 = .ok (.iconst 0, 1) := by decide +kernel
theorem dX3_isBridgeUp_15 : decode cX3_isBridgeUp 15 = .ok (.ireturn, 1) := by decide +kernel
theorem dX3_isActive_0 : decode cX3_isActive 0 = .ok (.aload_n 0, 1) := by decide +kernel
theorem dX3_isActive_1 : decode cX3_isActive 1 = .ok (.getfield 27, 3) := by decide +kernel
theorem dX3_isActive_4 : decode cX3_isActive 4 = .ok (.iload_n 1, 1) := by decide +kernel
theorem dX3_isActive_5 : decode cX3_isActive 5 = .ok (.iaload, 1) := by decide +kernel
theorem dX3_isActive_6 : decode cX3_isActive 6 = .ok (.iconst 1, 1) := by decide +kernel
theorem dX3_isActive_7 : decode cX3_isActive 7 = .ok (.if_icmp .ne 20, 3) := by decide +kernel
theorem dX3_isActive_10 : decode cX3_isActive 10 = .ok (.aload_n 0, 1) := by decide +kernel
theorem dX3_isActive_11 : decode cX3_isActive 11 = .ok (.aload_n 0, 1) := by decide +kernel
theorem dX3_isActive_12 : decode cX3_isActive 12 = .ok (.getfield 18, 3) := by decide +kernel
theorem dX3_isActive_15 : decode cX3_isActive 15 = .ok (.iload_n 1, 1) := by decide +kernel
theorem dX3_isActive_16 : decode cX3_isActive 16 = .ok (.iaload, 1) := by decide +kernel
theorem dX3_isActive_17 : decode cX3_isActive 17 = .ok (.invokevirtual 87, 3) := by decide +kernel
theorem dX3_isActive_20 : decode cX3_isActive 20 = .ok (.ifCond .eq 7, 3) := by decide +kernel
theorem dX3_isActive_23 : decode cX3_isActive 23 = .ok (.iconst 1, 1) := by decide +kernel
theorem dX3_isActive_24 : decode cX3_isActive 24 = .ok (.goto 4, 3) := by decide +kernel
theorem dX3_isActive_27 : decode cX3_isActive 27 = .ok (.iconst 0, 1) := by decide +kernel
theorem dX3_isActive_28 : decode cX3_isActive 28 = .ok (.ireturn, 1) := by decide +kernel
theorem dX3_isForwarding_0 : decode cX3_isForwarding 0 = .ok (.aload_n 0, 1) := by decide +kernel
theorem dX3_isForwarding_1 : decode cX3_isForwarding 1 = .ok (.getfield 30, 3) := by decide +kernel
theorem dX3_isForwarding_4 : decode cX3_isForwarding 4 = .ok (.iload_n 1, 1) := by decide +kernel
theorem dX3_isForwarding_5 : decode cX3_isForwarding 5 = .ok (.iaload, 1) := by decide +kernel
theorem dX3_isForwarding_6 : decode cX3_isForwarding 6 = .ok (.iconst 4, 1) := by decide +kernel
theorem dX3_isForwarding_7 : decode cX3_isForwarding 7 = .ok (.if_icmp .ne 7, 3) := by decide +kernel
theorem dX3_isForwarding_10 : decode cX3_isForwarding 10 = .ok (.iconst 1, 1) := by decide +kernel
theorem dX3_isForwarding_11 : decode cX3_isForwarding 11 = .ok (.goto 4, 3) := by decide +kernel
theorem dX3_isForwarding_14 : decode cX3_isForwarding 14 = .ok (.iconst 0, 1) := by decide +kernel
theorem dX3_isForwarding_15 : decode cX3_isForwarding 15 = .ok (.ireturn, 1) := by decide +kernel
theorem dX3_storesMessage_0 : decode cX3_storesMessage 0 = .ok (.aload_n 0, 1) := by decide +kernel
theorem dX3_storesMessage_1 : decode cX3_storesMessage 1 = .ok (.getfield 40, 3) := by decide +kernel
theorem dX3_storesMessage_4 : decode cX3_storesMessage 4 = .ok (.iload_n 1, 1) := by decide +kernel
theorem dX3_storesMessage_5 : decode cX3_storesMessage 5 = .ok (.iaload, 1) := by decide +kernel
theorem dX3_storesMessage_6 : decode cX3_storesMessage 6 = .ok (.ifCond .le 7, 3) := by decide +kernel
theorem dX3_storesMessage_9 : decode cX3_storesMessage 9 = .ok (.iconst 1, 1) := by decide +kernel
theorem dX3_storesMessage_10 : decode cX3_storesMessage 10 = .ok (.goto 4, 3) := by decide +kernel
theorem dX3_storesMessage_13 : decode cX3_storesMessage 13 = .ok (.iconst 0, 1) := by decide +kernel
theorem dX3_storesMessage_14 : decode cX3_storesMessage 14 = .ok (.ireturn, 1) := by decide +kernel
theorem dX3_switchBridge_0 : decode cX3_switchBridge 0 = .ok (.aload_n 0, 1) := by decide +kernel
theorem dX3_switchBridge_1 : decode cX3_switchBridge 1 = .ok (.getfield 15, 3) := by decide +kernel
theorem dX3_switchBridge_4 : decode cX3_switchBridge 4 = .ok (.iload_n 1, 1) := by decide +kernel
theorem dX3_switchBridge_5 : decode cX3_switchBridge 5 = .ok (.iaload, 1) := by decide +kernel
theorem dX3_switchBridge_6 : decode cX3_switchBridge 6 = .ok (.istore_n 3, 1) := by decide +kernel
theorem dX3_switchBridge_7 : decode cX3_switchBridge 7 = .ok (.aload_n 0, 1) := by decide +kernel
theorem dX3_switchBridge_8 : decode cX3_switchBridge 8 = .ok (.getfield 15, 3) := by decide +kernel
theorem dX3_switchBridge_11 : decode cX3_switchBridge 11 = .ok (.iload_n 1, 1) := by decide +kernel
theorem dX3_switchBridge_12 : decode cX3_switchBridge 12 = .ok (.iload_n 2, 1) := by decide +kernel
theorem dX3_switchBridge_13 : decode cX3_switchBridge 13 = .ok (.iastore, 1) := by decide +kernel
theorem dX3_switchBridge_14 : decode cX3_switchBridge 14 = .ok (.iconst 0, 1) := by decide +kernel
theorem dX3_switchBridge_15 : decode cX3_switchBridge 15 = .ok (.istore 4, 2) := by decide +kernel
theorem dX3_switchBridge_17 : decode cX3_switchBridge 17 = .ok (.iload 4, 2) := by decide +kernel
theorem dX3_switchBridge_19 : decode cX3_switchBridge 19 = .ok (.aload_n 0, 1) := by decide +kernel
theorem dX3_switchBridge_20 : decode cX3_switchBridge 20 = .ok (.getfield 62, 3) := by decide +kernel
theorem dX3_switchBridge_23 : decode cX3_switchBridge 23 = .ok (.if_icmp .ge 42, 3) := by decide +kernel
theorem dX3_switchBridge_26 : decode cX3_switchBridge 26 = .ok (.iload_n 3, 1) := by decide +kernel
theorem dX3_switchBridge_27 : decode cX3_switchBridge 27 = .ok (.iload_n 2, 1) := by decide +kernel
theorem dX3_switchBridge_28 : decode cX3_switchBridge 28 = .ok (.if_icmp .eq 31, 3) := by decide +kernel
theorem dX3_switchBridge_31 : decode cX3_switchBridge 31 = .ok (.aload_n 0, 1) := by decide +kernel
theorem dX3_switchBridge_32 : decode cX3_switchBridge 32 = .ok (.getfield 18, 3) := by decide +kernel
theorem dX3_switchBridge_35 : decode cX3_switchBridge 35 = .ok (.iload 4, 2) := by decide +kernel
theorem dX3_switchBridge_37 : decode cX3_switchBridge 37 = .ok (.iaload, 1) := by decide +kernel
theorem dX3_switchBridge_38 : decode cX3_switchBridge 38 = .ok (.iload_n 1, 1) := by decide +kernel
theorem dX3_switchBridge_39 : decode cX3_switchBridge 39 = .ok (.if_icmp .ne 20, 3) := by decide +kernel
theorem dX3_switchBridge_42 : decode cX3_switchBridge 42 = .ok (.aload_n 0, 1) := by decide +kernel
theorem dX3_switchBridge_43 : decode cX3_switchBridge 43 = .ok (.getfield 27, 3) := by decide +kernel
theorem dX3_switchBridge_46 : decode cX3_switchBridge 46 = .ok (.iload 4, 2) := by decide +kernel
theorem dX3_switchBridge_48 : decode cX3_switchBridge 48 = .ok (.iaload, 1) := by decide +kernel
theorem dX3_switchBridge_49 : decode cX3_switchBridge 49 = .ok (.iconst 1, 1) := by decide +kernel
theorem dX3_switchBridge_50 : decode cX3_switchBridge 50 = .ok (.if_icmp .ne 9, 3) := by decide +kernel
theorem dX3_switchBridge_53 : decode cX3_switchBridge 53 = .ok (.aload_n 0, 1) := by decide +kernel
theorem dX3_switchBridge_54 : decode cX3_switchBridge 54 = .ok (.iload 4, 2) := by decide +kernel
theorem dX3_switchBridge_56 : decode cX3_switchBridge 56 = .ok (.invokevirtual 91, 3) := by decide +kernel
theorem dX3_switchBridge_59 : decode cX3_switchBridge 59 = .ok (.iinc 4 1, 3) := by decide +kernel
theorem dX3_switchBridge_62 : decode cX3_switchBridge 62 = .ok (.goto (-45), 3) := by decide +kernel
theorem dX3_switchBridge_65 : decode cX3_switchBridge 65 = .ok (.iload_n 3, 1) := by decide +kernel
theorem dX3_switchBridge_66 : decode cX3_switchBridge 66 = .ok (.ireturn, 1) := by decide +kernel
theorem dX3_switchPort_0 : decode cX3_switchPort 0 = .ok (.aload_n 0, 1) := by decide +kernel
theorem dX3_switchPort_1 : decode cX3_switchPort 1 = .ok (.getfield 27, 3) := by decide +kernel
theorem dX3_switchPort_4 : decode cX3_switchPort 4 = .ok (.iload_n 1, 1) := by decide +kernel
theorem dX3_switchPort_5 : decode cX3_switchPort 5 = .ok (.iaload, 1) := by decide +kernel
theorem dX3_switchPort_6 : decode cX3_switchPort 6 = .ok (.istore_n 3, 1) := by decide +kernel
theorem dX3_switchPort_7 : decode cX3_switchPort 7 = .ok (.aload_n 0, 1) := by decide +kernel
theorem dX3_switchPort_8 : decode cX3_switchPort 8 = .ok (.getfield 27, 3) := by decide +kernel
theorem dX3_switchPort_11 : decode cX3_switchPort 11 = .ok (.iload_n 1, 1) := by decide +kernel
theorem dX3_switchPort_12 : decode cX3_switchPort 12 = .ok (.iload_n 2, 1) := by decide +kernel
theorem dX3_switchPort_13 : decode cX3_switchPort 13 = .ok (.iastore, 1) := by decide +kernel
theorem dX3_switchPort_14 : decode cX3_switchPort 14 = .ok (.iload_n 3, 1) := by decide +kernel
theorem dX3_switchPort_15 : decode cX3_switchPort 15 = .ok (.iload_n 2, 1) := by decide +kernel
theorem dX3_switchPort_16 : decode cX3_switchPort 16 = .ok (.if_icmp .eq 21, 3) := by decide +kernel
theorem dX3_switchPort_19 : decode cX3_switchPort 19 = .ok (.aload_n 0, 1) := by decide +kernel
theorem dX3_switchPort_20 : decode cX3_switchPort 20 = .ok (.aload_n 0, 1) := by decide +kernel
theorem dX3_switchPort_21 : decode cX3_switchPort 21 = .ok (.getfield 18, 3) := by decide +kernel
theorem dX3_switchPort_24 : decode cX3_switchPort 24 = .ok (.iload_n 1, 1) := by decide +kernel
theorem dX3_switchPort_25 : decode cX3_switchPort 25 = .ok (.iaload, 1) := by decide +kernel
theorem dX3_switchPort_26 : decode cX3_switchPort 26 = .ok (.invokevirtual 87, 3) := by decide +kernel
theorem dX3_switchPort_29 : decode cX3_switchPort 29 = .ok (.ifCond .eq 8, 3) := by decide +kernel
theorem dX3_switchPort_32 : decode cX3_switchPort 32 = .ok (.aload_n 0, 1) := by decide +kernel
theorem dX3_switchPort_33 : decode cX3_switchPort 33 = .ok (.iload_n 1, 1) := by decide +kernel
theorem dX3_switchPort_34 : decode cX3_switchPort 34 = .ok (.invokevirtual 91, 3) := by decide +kernel
theorem dX3_switchPort_37 : decode cX3_switchPort 37 = .ok (.iload_n 3, 1) := by decide +kernel
theorem dX3_switchPort_38 : decode cX3_switchPort 38 = .ok (.ireturn, 1) := by decide +kernel
theorem dX3_resetPort_0 : decode cX3_resetPort 0 = .ok (.aload_n 0, 1) := by decide +kernel
theorem dX3_resetPort_1 : decode cX3_resetPort 1 = .ok (.getfield 40, 3) := by decide +kernel
theorem dX3_resetPort_4 : decode cX3_resetPort 4 = .ok (.iload_n 1, 1) := by decide +kernel
theorem dX3_resetPort_5 : decode cX3_resetPort 5 = .ok (.iconst 0, 1) := by decide +kernel
theorem dX3_resetPort_6 : decode cX3_resetPort 6 = .ok (.iastore, 1) := by decide +kernel
theorem dX3_resetPort_7 : decode cX3_resetPort 7 = .ok (.aload_n 0, 1) := by decide +kernel
theorem dX3_resetPort_8 : decode cX3_resetPort 8 = .ok (.getfield 33, 3) := by decide +kernel
theorem dX3_resetPort_11 : decode cX3_resetPort 11 = .ok (.iload_n 1, 1) := by decide +kernel
theorem dX3_resetPort_12 : decode cX3_resetPort 12 = .ok (.iconst 0, 1) := by decide +kernel
theorem dX3_resetPort_13 : decode cX3_resetPort 13 = .ok (.iastore, 1) := by decide +kernel
theorem dX3_resetPort_14 : decode cX3_resetPort 14 = .ok (.aload_n 0, 1) := by decide +kernel
theorem dX3_resetPort_15 : decode cX3_resetPort 15 = .ok (.iload_n 1, 1) := by decide +kernel
theorem dX3_resetPort_16 : decode cX3_resetPort 16 = .ok (.invokevirtual 95, 3) := by decide +kernel
theorem dX3_resetPort_19 : decode cX3_resetPort 19 = .ok (.ifCond .eq 13, 3) := by decide +kernel
theorem dX3_resetPort_22 : decode cX3_resetPort 22 = .ok (.aload_n 0, 1) := by decide +kernel
theorem dX3_resetPort_23 : decode cX3_resetPort 23 = .ok (.getfield 30, 3) := by decide +kernel
theorem dX3_resetPort_26 : decode cX3_resetPort 26 = .ok (.iload_n 1, 1) := by decide +kernel
theorem dX3_resetPort_27 : decode cX3_resetPort 27 = .ok (.iconst 1, 1) := by decide +kernel
theorem dX3_resetPort_28 : decode cX3_resetPort 28 = .ok (.iastore, 1) := by decide +kernel
theorem dX3_resetPort_29 : decode cX3_resetPort 29 = .ok (.goto 15, 3) := by decide +kernel
theorem dX3_resetPort_32 : decode cX3_resetPort 32 = .ok (.aload_n 0, 1) := by decide +kernel
theorem dX3_resetPort_33 : decode cX3_resetPort 33 = .ok (.getfield 30, 3) := by decide +kernel
theorem dX3_resetPort_36 : decode cX3_resetPort 36 = .ok (.iload_n 1, 1) := by decide +kernel
theorem dX3_resetPort_37 : decode cX3_resetPort 37 = .ok (.iconst 0, 1) := by decide +kernel
theorem dX3_resetPort_38 : decode cX3_resetPort 38 = .ok (.iastore, 1) := by decide +kernel
theorem dX3_resetPort_39 : decode cX3_resetPort 39 = .ok (.aload_n 0, 1) := by decide +kernel
theorem dX3_resetPort_40 : decode cX3_resetPort 40 = .ok (.iload_n 1, 1) := by decide +kernel
theorem dX3_resetPort_41 : decode cX3_resetPort 41 = .ok (.invokevirtual 98, 3) := by decide +kernel
theorem dX3_resetPort_44 : decode cX3_resetPort 44 = .ok (.return_, 1) := by decide +kernel
theorem dX3_forgetEntriesWith_0 : decode cX3_forgetEntriesWith 0 = .ok (.iconst 0, 1) := by decide +kernel
theorem dX3_forgetEntriesWith_1 : decode cX3_forgetEntriesWith 1 = .ok (.istore_n 2, 1) := by decide +kernel
theorem dX3_forgetEntriesWith_2 : decode cX3_forgetEntriesWith 2 = .ok (.iload_n 2, 1) := by decide +kernel
theorem dX3_forgetEntriesWith_3 : decode cX3_forgetEntriesWith 3 = .ok (.aload_n 0, 1) := by decide +kernel
theorem dX3_forgetEntriesWith_4 : decode cX3_forgetEntriesWith 4 = .ok (.getfield 46, 3) := by decide +kernel
theorem dX3_forgetEntriesWith_7 : decode cX3_forgetEntriesWith 7 = .ok (.arraylength, 1) := by decide +kernel
theorem dX3_forgetEntriesWith_8 : decode cX3_forgetEntriesWith 8 = .ok (.if_icmp .ge 26, 3) := by decide +kernel
theorem dX3_forgetEntriesWith_11 : decode cX3_forgetEntriesWith 11 = .ok (.aload_n 0, 1) := by decide +kernel
theorem dX3_forgetEntriesWith_12 : decode cX3_forgetEntriesWith 12 = .ok (.getfield 46, 3) := by decide +kernel
theorem dX3_forgetEntriesWith_15 : decode cX3_forgetEntriesWith 15 = .ok (.iload_n 2, 1) := by decide +kernel
theorem dX3_forgetEntriesWith_16 : decode cX3_forgetEntriesWith 16 = .ok (.iaload, 1) := by decide +kernel
theorem dX3_forgetEntriesWith_17 : decode cX3_forgetEntriesWith 17 = .ok (.iload_n 1, 1) := by decide +kernel
theorem dX3_forgetEntriesWith_18 : decode cX3_forgetEntriesWith 18 = .ok (.if_icmp .ne 10, 3) := by decide +kernel
theorem dX3_forgetEntriesWith_21 : decode cX3_forgetEntriesWith 21 = .ok (.aload_n 0, 1) := by decide +kernel
theorem dX3_forgetEntriesWith_22 : decode cX3_forgetEntriesWith 22 = .ok (.getfield 49, 3) := by decide +kernel
theorem dX3_forgetEntriesWith_25 : decode cX3_forgetEntriesWith 25 = .ok (.iload_n 2, 1) := by decide +kernel
theorem dX3_forgetEntriesWith_26 : decode cX3_forgetEntriesWith 26 = .ok (.iconst 0, 1) := by decide +kernel
theorem dX3_forgetEntriesWith_27 : decode cX3_forgetEntriesWith 27 = .ok (.iastore, 1) := by decide +kernel
theorem dX3_forgetEntriesWith_28 : decode cX3_forgetEntriesWith 28 = .ok (.iinc 2 1, 3) := by decide +kernel
theorem dX3_forgetEntriesWith_31 : decode cX3_forgetEntriesWith 31 = .ok (.goto (-29), 3) := by decide +kernel
theorem dX3_forgetEntriesWith_34 : decode cX3_forgetEntriesWith 34 = .ok (.return_, 1) := by decide +kernel
theorem dX3_learnedPort_0 : decode cX3_learnedPort 0 = .ok (.iload_n 1, 1) := by decide +kernel
theorem dX3_learnedPort_1 : decode cX3_learnedPort 1 = .ok (.iload_n 2, 1) := by decide +kernel
theorem dX3_learnedPort_2 : decode cX3_learnedPort 2 = .ok (.invokestatic 101, 3) := by decide +kernel
theorem dX3_learnedPort_5 : decode cX3_learnedPort 5 = .ok (.istore_n 3, 1) := by decide +kernel
theorem dX3_learnedPort_6 : decode cX3_learnedPort 6 = .ok (.aload_n 0, 1) := by decide +kernel
theorem dX3_learnedPort_7 : decode cX3_learnedPort 7 = .ok (.getfield 49, 3) := by decide +kernel
theorem dX3_learnedPort_10 : decode cX3_learnedPort 10 = .ok (.iload_n 3, 1) := by decide +kernel
theorem dX3_learnedPort_11 : decode cX3_learnedPort 11 = .ok (.iaload, 1) := by decide +kernel
theorem dX3_learnedPort_12 : decode cX3_learnedPort 12 = .ok (.ifCond .le 12, 3) := by decide +kernel
theorem dX3_learnedPort_15 : decode cX3_learnedPort 15 = .ok (.aload_n 0, 1) := by decide +kernel
theorem dX3_learnedPort_16 : decode cX3_learnedPort 16 = .ok (.getfield 46, 3) := by decide +kernel
theorem dX3_learnedPort_19 : decode cX3_learnedPort 19 = .ok (.iload_n 3, 1) := by decide +kernel
theorem dX3_learnedPort_20 : decode cX3_learnedPort 20 = .ok (.iaload, 1) := by decide +kernel
theorem dX3_learnedPort_21 : decode cX3_learnedPort 21 = .ok (.goto 4, 3) := by decide +kernel
theorem dX3_learnedPort_24 : decode cX3_learnedPort 24 = .ok (.iconst (-1), 1) := by decide +kernel
theorem dX3_learnedPort_25 : decode cX3_learnedPort 25 = .ok (.ireturn, 1) := by decide +kernel
theorem dX3_learn_0 : decode cX3_learn 0 = .ok (.aload_n 0, 1) := by decide +kernel
theorem dX3_learn_1 : decode cX3_learn 1 = .ok (.getfield 18, 3) := by decide +kernel
theorem dX3_learn_4 : decode cX3_learn 4 = .ok (.iload_n 2, 1) := by decide +kernel
theorem dX3_learn_5 : decode cX3_learn 5 = .ok (.iaload, 1) := by decide +kernel
theorem dX3_learn_6 : decode cX3_learn 6 = .ok (.iload_n 1, 1) := by decide +kernel
theorem dX3_learn_7 : decode cX3_learn 7 = .ok (.invokestatic 101, 3) := by decide +kernel
theorem dX3_learn_10 : decode cX3_learn 10 = .ok (.istore_n 3, 1) := by decide +kernel
theorem dX3_learn_11 : decode cX3_learn 11 = .ok (.aload_n 0, 1) := by decide +kernel
theorem dX3_learn_12 : decode cX3_learn 12 = .ok (.getfield 46, 3) := by decide +kernel
theorem dX3_learn_15 : decode cX3_learn 15 = .ok (.iload_n 3, 1) := by decide +kernel
theorem dX3_learn_16 : decode cX3_learn 16 = .ok (.iload_n 2, 1) := by decide +kernel
theorem dX3_learn_17 : decode cX3_learn 17 = .ok (.iastore, 1) := by decide +kernel
theorem dX3_learn_18 : decode cX3_learn 18 = .ok (.aload_n 0, 1) := by decide +kernel
theorem dX3_learn_19 : decode cX3_learn 19 = .ok (.getfield 49, 3) := by decide +kernel
theorem dX3_learn_22 : decode cX3_learn 22 = .ok (.iload_n 3, 1) := by decide +kernel
theorem dX3_learn_23 : decode cX3_learn 23 = .ok (.bipush 10, 2) := by decide +kernel
theorem dX3_learn_25 : decode cX3_learn 25 = .ok (.iastore, 1) := by decide +kernel
theorem dX3_learn_26 : decode cX3_learn 26 = .ok (.return_, 1) := by decide +kernel
theorem dX3_ageEntries_0 : decode cX3_ageEntries 0 = .ok (.iconst 0, 1) := by decide +kernel
theorem dX3_ageEntries_1 : decode cX3_ageEntries 1 = .ok (.istore_n 1, 1) := by decide +kernel
theorem dX3_ageEntries_2 : decode cX3_ageEntries 2 = .ok (.iload_n 1, 1) := by decide +kernel
theorem dX3_ageEntries_3 : decode cX3_ageEntries 3 = .ok (.aload_n 0, 1) := by decide +kernel
theorem dX3_ageEntries_4 : decode cX3_ageEntries 4 = .ok (.getfield 49, 3) := by decide +kernel
theorem dX3_ageEntries_7 : decode cX3_ageEntries 7 = .ok (.arraylength, 1) := by decide +kernel
theorem dX3_ageEntries_8 : decode cX3_ageEntries 8 = .ok (.if_icmp .ge 28, 3) := by decide +kernel
theorem dX3_ageEntries_11 : decode cX3_ageEntries 11 = .ok (.aload_n 0, 1) := by decide +kernel
theorem dX3_ageEntries_12 : decode cX3_ageEntries 12 = .ok (.getfield 49, 3) := by decide +kernel
theorem dX3_ageEntries_15 : decode cX3_ageEntries 15 = .ok (.iload_n 1, 1) := by decide +kernel
theorem dX3_ageEntries_16 : decode cX3_ageEntries 16 = .ok (.iaload, 1) := by decide +kernel
theorem dX3_ageEntries_17 : decode cX3_ageEntries 17 = .ok (.ifCond .le 13, 3) := by decide +kernel
theorem dX3_ageEntries_20 : decode cX3_ageEntries 20 = .ok (.aload_n 0, 1) := by decide +kernel
theorem dX3_ageEntries_21 : decode cX3_ageEntries 21 = .ok (.getfield 49, 3) := by decide +kernel
theorem dX3_ageEntries_24 : decode cX3_ageEntries 24 = .ok (.iload_n 1, 1) := by decide +kernel
theorem dX3_ageEntries_25 : decode cX3_ageEntries 25 = .ok (.dup2, 1) := by decide +kernel
theorem dX3_ageEntries_26 : decode cX3_ageEntries 26 = .ok (.iaload, 1) := by decide +kernel
theorem dX3_ageEntries_27 : decode cX3_ageEntries 27 = .ok (.iconst 1, 1) := by decide +kernel
theorem dX3_ageEntries_28 : decode cX3_ageEntries 28 = .ok (.isub, 1) := by decide +kernel
theorem dX3_ageEntries_29 : decode cX3_ageEntries 29 = .ok (.iastore, 1) := by decide +kernel
theorem dX3_ageEntries_30 : decode cX3_ageEntries 30 = .ok (.iinc 1 1, 3) := by decide +kernel
theorem dX3_ageEntries_33 : decode cX3_ageEntries 33 = .ok (.goto (-31), 3) := by decide +kernel
theorem dX3_ageEntries_36 : decode cX3_ageEntries 36 = .ok (.return_, 1) := by decide +kernel
theorem dX3_ageMessage_0 : decode cX3_ageMessage 0 = .ok (.aload_n 0, 1) := by decide +kernel
theorem dX3_ageMessage_1 : decode cX3_ageMessage 1 = .ok (.getfield 40, 3) := by decide +kernel
theorem dX3_ageMessage_4 : decode cX3_ageMessage 4 = .ok (.iload_n 1, 1) := by decide +kernel
theorem dX3_ageMessage_5 : decode cX3_ageMessage 5 = .ok (.iaload, 1) := by decide +kernel
theorem dX3_ageMessage_6 : decode cX3_ageMessage 6 = .ok (.ifCond .le 13, 3) := by decide +kernel
theorem dX3_ageMessage_9 : decode cX3_ageMessage 9 = .ok (.aload_n 0, 1) := by decide +kernel
theorem dX3_ageMessage_10 : decode cX3_ageMessage 10 = .ok (.getfield 40, 3) := by decide +kernel
theorem dX3_ageMessage_13 : decode cX3_ageMessage 13 = .ok (.iload_n 1, 1) := by decide +kernel
theorem dX3_ageMessage_14 : decode cX3_ageMessage 14 = .ok (.dup2, 1) := by decide +kernel
theorem dX3_ageMessage_15 : decode cX3_ageMessage 15 = .ok (.iaload, 1) := by decide +kernel
theorem dX3_ageMessage_16 : decode cX3_ageMessage 16 = .ok (.iconst 1, 1) := by decide +kernel
theorem dX3_ageMessage_17 : decode cX3_ageMessage 17 = .ok (.isub, 1) := by decide +kernel
theorem dX3_ageMessage_18 : decode cX3_ageMessage 18 = .ok (.iastore, 1) := by decide +kernel
theorem dX3_ageMessage_19 : decode cX3_ageMessage 19 = .ok (.return_, 1) := by decide +kernel
theorem dX3_entryIndex_0 : decode cX3_entryIndex 0 = .ok (.iload_n 0, 1) := by decide +kernel
theorem dX3_entryIndex_1 : decode cX3_entryIndex 1 = .ok (.bipush 8, 2) := by decide +kernel
theorem dX3_entryIndex_3 : decode cX3_entryIndex 3 = .ok (.imul, 1) := by decide +kernel
theorem dX3_entryIndex_4 : decode cX3_entryIndex 4 = .ok (.iload_n 1, 1) := by decide +kernel
theorem dX3_entryIndex_5 : decode cX3_entryIndex 5 = .ok (.iadd, 1) := by decide +kernel
theorem dX3_entryIndex_6 : decode cX3_entryIndex 6 = .ok (.ireturn, 1) := by decide +kernel
theorem dX4_init_0 : decode cX4_init 0 = .ok (.aload_n 0, 1) := by decide +kernel
theorem dX4_init_1 : decode cX4_init 1 = .ok (.invokespecial 3, 3) := by decide +kernel
theorem dX4_init_4 : decode cX4_init 4 = .ok (.aload_n 0, 1) := by decide +kernel
theorem dX4_init_5 : decode cX4_init 5 = .ok (.bipush 24, 2) := by decide +kernel
theorem dX4_init_7 : decode cX4_init 7 = .ok (.newarray .long, 2) := by decide +kernel
theorem dX4_init_9 : decode cX4_init 9 = .ok (.putfield 9, 3) := by decide +kernel
theorem dX4_init_12 : decode cX4_init 12 = .ok (.aload_n 0, 1) := by decide +kernel
theorem dX4_init_13 : decode cX4_init 13 = .ok (.bipush 24, 2) := by decide +kernel
theorem dX4_init_15 : decode cX4_init 15 = .ok (.newarray .int, 2) := by decide +kernel
theorem dX4_init_17 : decode cX4_init 17 = .ok (.putfield 15, 3) := by decide +kernel
theorem dX4_init_20 : decode cX4_init 20 = .ok (.aload_n 0, 1) := by decide +kernel
theorem dX4_init_21 : decode cX4_init 21 = .ok (.bipush 10, 2) := by decide +kernel
theorem dX4_init_23 : decode cX4_init 23 = .ok (.newarray .int, 2) := by decide +kernel
theorem dX4_init_25 : decode cX4_init 25 = .ok (.putfield 19, 3) := by decide +kernel
theorem dX4_init_28 : decode cX4_init 28 = .ok (.aload_n 0, 1) := by decide +kernel
theorem dX4_init_29 : decode cX4_init 29 = .ok (.bipush 10, 2) := by decide +kernel
theorem dX4_init_31 : decode cX4_init 31 = .ok (.newarray .int, 2) := by decide +kernel
theorem dX4_init_33 : decode cX4_init 33 = .ok (.putfield 22, 3) := by decide +kernel
theorem dX4_init_36 : decode cX4_init 36 = .ok (.aload_n 0, 1) := by decide +kernel
theorem dX4_init_37 : decode cX4_init 37 = .ok (.aload_n 1, 1) := by decide +kernel
theorem dX4_init_38 : decode cX4_init 38 = .ok (.putfield 25, 3) := by decide +kernel
theorem dX4_init_41 : decode cX4_init 41 = .ok (.aload_n 0, 1) := by decide +kernel
theorem dX4_init_42 : decode cX4_init 42 = .ok (.aload_n 2, 1) := by decide +kernel
theorem dX4_init_43 : decode cX4_init 43 = .ok (.putfield 29, 3) := by decide +kernel
theorem dX4_init_46 : decode cX4_init 46 = .ok (.return_, 1) := by decide +kernel
theorem dX4_makeTick_0 : decode cX4_makeTick 0 = .ok (.aload_n 0, 1) := by decide +kernel
theorem dX4_makeTick_1 : decode cX4_makeTick 1 = .ok (.invokevirtual 33, 3) := by decide +kernel
theorem dX4_makeTick_4 : decode cX4_makeTick 4 = .ok (.iconst 0, 1) := by decide +kernel
theorem dX4_makeTick_5 : decode cX4_makeTick 5 = .ok (.istore_n 1, 1) := by decide +kernel
theorem dX4_makeTick_6 : decode cX4_makeTick 6 = .ok (.iload_n 1, 1) := by decide +kernel
theorem dX4_makeTick_7 : decode cX4_makeTick 7 = .ok (.aload_n 0, 1) := by decide +kernel
theorem dX4_makeTick_8 : decode cX4_makeTick 8 = .ok (.getfield 25, 3) := by decide +kernel
theorem dX4_makeTick_11 : decode cX4_makeTick 11 = .ok (.getfield 36, 3) := by decide +kernel
theorem dX4_makeTick_14 : decode cX4_makeTick 14 = .ok (.if_icmp .ge 25, 3) := by decide +kernel
theorem dX4_makeTick_17 : decode cX4_makeTick 17 = .ok (.aload_n 0, 1) := by decide +kernel
theorem dX4_makeTick_18 : decode cX4_makeTick 18 = .ok (.iload_n 1, 1) := by decide +kernel
theorem dX4_makeTick_19 : decode cX4_makeTick 19 = .ok (.invokevirtual 42, 3) := by decide +kernel
theorem dX4_makeTick_22 : decode cX4_makeTick 22 = .ok (.ifCond .ne 11, 3) := by decide +kernel
theorem dX4_makeTick_25 : decode cX4_makeTick 25 = .ok (.aload_n 0, 1) := by decide +kernel
theorem dX4_makeTick_26 : decode cX4_makeTick 26 = .ok (.getfield 25, 3) := by decide +kernel
theorem dX4_makeTick_29 : decode cX4_makeTick 29 = .ok (.iload_n 1, 1) := by decide +kernel
theorem dX4_makeTick_30 : decode cX4_makeTick 30 = .ok (.invokevirtual 46, 3) := by decide +kernel
theorem dX4_makeTick_33 : decode cX4_makeTick 33 = .ok (.iinc 1 1, 3) := by decide +kernel
theorem dX4_makeTick_36 : decode cX4_makeTick 36 = .ok (.goto (-30), 3) := by decide +kernel
theorem dX4_makeTick_39 : decode cX4_makeTick 39 = .ok (.aload_n 0, 1) := by decide +kernel
theorem dX4_makeTick_40 : decode cX4_makeTick 40 = .ok (.getfield 29, 3) := by decide +kernel
theorem dX4_makeTick_43 : decode cX4_makeTick 43 = .ok (.invokevirtual 50, 3) := by decide +kernel
theorem dX4_makeTick_46 : decode cX4_makeTick 46 = .ok (.istore_n 1, 1) := by decide +kernel
theorem dX4_makeTick_47 : decode cX4_makeTick 47 = .ok (.aload_n 0, 1) := by decide +kernel
theorem dX4_makeTick_48 : decode cX4_makeTick 48 = .ok (.invokevirtual 56, 3) := by decide +kernel
theorem dX4_makeTick_51 : decode cX4_makeTick 51 = .ok (.istore_n 2, 1) := by decide +kernel
theorem dX4_makeTick_52 : decode cX4_makeTick 52 = .ok (.aload_n 0, 1) := by decide +kernel
theorem dX4_makeTick_53 : decode cX4_makeTick 53 = .ok (.getfield 25, 3) := by decide +kernel
theorem dX4_makeTick_56 : decode cX4_makeTick 56 = .ok (.invokevirtual 59, 3) := by decide +kernel
theorem dX4_makeTick_59 : decode cX4_makeTick 59 = .ok (.aload_n 0, 1) := by decide +kernel
theorem dX4_makeTick_60 : decode cX4_makeTick 60 = .ok (.getfield 25, 3) := by decide +kernel
theorem dX4_makeTick_63 : decode cX4_makeTick 63 = .ok (.dup, 1) := by decide +kernel
theorem dX4_makeTick_64 : decode cX4_makeTick 64 = .ok (.getfield 62, 3) := by decide +kernel
theorem dX4_makeTick_67 : decode cX4_makeTick 67 = .ok (.iconst 1, 1) := by decide +kernel
theorem dX4_makeTick_68 : decode cX4_makeTick 68 = .ok (.iadd, 1) := by decide +kernel
theorem dX4_makeTick_69 : decode cX4_makeTick 69 = .ok (.putfield 62, 3) := by decide +kernel
theorem dX4_makeTick_72 : decode cX4_makeTick 72 = .ok (.iload_n 1, 1) := by decide +kernel
theorem dX4_makeTick_73 : decode cX4_makeTick 73 = .ok (.ifCond .ne 7, 3) := by decide +kernel
theorem dX4_makeTick_76 : decode cX4_makeTick 76 = .ok (.iload_n 2, 1) := by decide +kernel
theorem dX4_makeTick_77 : decode cX4_makeTick 77 = .ok (.ifCond .eq 7, 3) := by decide +kernel
theorem dX4_makeTick_80 : decode cX4_makeTick 80 = .ok (.iconst 1, 1) := by decide +kernel
theorem dX4_makeTick_81 : decode cX4_makeTick 81 = .ok (.goto 4, 3) := by decide +kernel
theorem dX4_makeTick_84 : decode cX4_makeTick 84 = .ok (.iconst 0, 1) := by decide +kernel
theorem dX4_makeTick_85 : decode cX4_makeTick 85 = .ok (.ireturn, 1) := by decide +kernel
theorem dX4_sendMessages_0 : decode cX4_sendMessages 0 = .ok (.iconst 0, 1) := by decide +kernel
theorem dX4_sendMessages_1 : decode cX4_sendMessages 1 = .ok (.istore_n 1, 1) := by decide +kernel
theorem dX4_sendMessages_2 : decode cX4_sendMessages 2 = .ok (.iload_n 1, 1) := by decide +kernel
theorem dX4_sendMessages_3 : decode cX4_sendMessages 3 = .ok (.aload_n 0, 1) := by decide +kernel
theorem dX4_sendMessages_4 : decode cX4_sendMessages 4 = .ok (.getfield 25, 3) := by decide +kernel
theorem dX4_sendMessages_7 : decode cX4_sendMessages 7 = .ok (.getfield 65, 3) := by decide +kernel
theorem dX4_sendMessages_10 : decode cX4_sendMessages 10 = .ok (.if_icmp .ge 23, 3) := by decide +kernel
theorem dX4_sendMessages_13 : decode cX4_sendMessages 13 = .ok (.aload_n 0, 1) := by decide +kernel
theorem dX4_sendMessages_14 : decode cX4_sendMessages 14 = .ok (.getfield 19, 3) := by decide +kernel
theorem dX4_sendMessages_17 : decode cX4_sendMessages 17 = .ok (.iload_n 1, 1) := by decide +kernel
theorem dX4_sendMessages_18 : decode cX4_sendMessages 18 = .ok (.iconst (-1), 1) := by decide +kernel
theorem dX4_sendMessages_19 : decode cX4_sendMessages 19 = .ok (.iastore, 1) := by decide +kernel
theorem dX4_sendMessages_20 : decode cX4_sendMessages 20 = .ok (.aload_n 0, 1) := by decide +kernel
theorem dX4_sendMessages_21 : decode cX4_sendMessages 21 = .ok (.getfield 22, 3) := by decide +kernel
theorem dX4_sendMessages_24 : decode cX4_sendMessages 24 = .ok (.iload_n 1, 1) := by decide +kernel
theorem dX4_sendMessages_25 : decode cX4_sendMessages 25 = .ok (.iconst (-1), 1) := by decide +kernel
theorem dX4_sendMessages_26 : decode cX4_sendMessages 26 = .ok (.iastore, 1) := by decide +kernel
theorem dX4_sendMessages_27 : decode cX4_sendMessages 27 = .ok (.iinc 1 1, 3) := by decide +kernel
theorem dX4_sendMessages_30 : decode cX4_sendMessages 30 = .ok (.goto (-28), 3) := by decide +kernel
theorem dX4_sendMessages_33 : decode cX4_sendMessages 33 = .ok (.iconst 0, 1) := by decide +kernel
theorem dX4_sendMessages_34 : decode cX4_sendMessages 34 = .ok (.istore_n 1, 1) := by decide +kernel
theorem dX4_sendMessages_35 : decode cX4_sendMessages 35 = .ok (.iload_n 1, 1) := by decide +kernel
theorem dX4_sendMessages_36 : decode cX4_sendMessages 36 = .ok (.aload_n 0, 1) := by decide +kernel
theorem dX4_sendMessages_37 : decode cX4_sendMessages 37 = .ok (.getfield 25, 3) := by decide +kernel
theorem dX4_sendMessages_40 : decode cX4_sendMessages 40 = .ok (.getfield 36, 3) := by decide +kernel
theorem dX4_sendMessages_43 : decode cX4_sendMessages 43 = .ok (.if_icmp .ge 59, 3) := by decide +kernel
theorem dX4_sendMessages_46 : decode cX4_sendMessages 46 = .ok (.aload_n 0, 1) := by decide +kernel
theorem dX4_sendMessages_47 : decode cX4_sendMessages 47 = .ok (.iload_n 1, 1) := by decide +kernel
theorem dX4_sendMessages_48 : decode cX4_sendMessages 48 = .ok (.invokevirtual 68, 3) := by decide +kernel
theorem dX4_sendMessages_51 : decode cX4_sendMessages 51 = .ok (.istore_n 2, 1) := by decide +kernel
theorem dX4_sendMessages_52 : decode cX4_sendMessages 52 = .ok (.aload_n 0, 1) := by decide +kernel
theorem dX4_sendMessages_53 : decode cX4_sendMessages 53 = .ok (.getfield 29, 3) := by decide +kernel
theorem dX4_sendMessages_56 : decode cX4_sendMessages 56 = .ok (.getfield 72, 3) := by decide +kernel
theorem dX4_sendMessages_59 : decode cX4_sendMessages 59 = .ok (.iload_n 1, 1) := by decide +kernel
theorem dX4_sendMessages_60 : decode cX4_sendMessages 60 = .ok (.iaload, 1) := by decide +kernel
theorem dX4_sendMessages_61 : decode cX4_sendMessages 61 = .ok (.iconst 2, 1) := by decide +kernel
theorem dX4_sendMessages_62 : decode cX4_sendMessages 62 = .ok (.if_icmp .ne 34, 3) := by decide +kernel
theorem dX4_sendMessages_65 : decode cX4_sendMessages 65 = .ok (.iload_n 2, 1) := by decide +kernel
theorem dX4_sendMessages_66 : decode cX4_sendMessages 66 = .ok (.iconst 5, 1) := by decide +kernel
theorem dX4_sendMessages_67 : decode cX4_sendMessages 67 = .ok (.if_icmp .gt 29, 3) := by decide +kernel
theorem dX4_sendMessages_70 : decode cX4_sendMessages 70 = .ok (.aload_n 0, 1) := by decide +kernel
theorem dX4_sendMessages_71 : decode cX4_sendMessages 71 = .ok (.getfield 9, 3) := by decide +kernel
theorem dX4_sendMessages_74 : decode cX4_sendMessages 74 = .ok (.iload_n 1, 1) := by decide +kernel
theorem dX4_sendMessages_75 : decode cX4_sendMessages 75 = .ok (.aload_n 0, 1) := by decide +kernel
theorem dX4_sendMessages_76 : decode cX4_sendMessages 76 = .ok (.getfield 29, 3) := by decide +kernel
theorem dX4_sendMessages_79 : decode cX4_sendMessages 79 = .ok (.iload_n 1, 1) := by decide +kernel
theorem dX4_sendMessages_80 : decode cX4_sendMessages 80 = .ok (.invokevirtual 75, 3) := by decide +kernel
theorem dX4_sendMessages_83 : decode cX4_sendMessages 83 = .ok (.lastore, 1) := by decide +kernel
theorem dX4_sendMessages_84 : decode cX4_sendMessages 84 = .ok (.aload_n 0, 1) := by decide +kernel
theorem dX4_sendMessages_85 : decode cX4_sendMessages 85 = .ok (.getfield 15, 3) := by decide +kernel
theorem dX4_sendMessages_88 : decode cX4_sendMessages 88 = .ok (.iload_n 1, 1) := by decide +kernel
theorem dX4_sendMessages_89 : decode cX4_sendMessages 89 = .ok (.iload_n 2, 1) := by decide +kernel
theorem dX4_sendMessages_90 : decode cX4_sendMessages 90 = .ok (.iastore, 1) := by decide +kernel
theorem dX4_sendMessages_91 : decode cX4_sendMessages 91 = .ok (.aload_n 0, 1) := by decide +kernel
theorem dX4_sendMessages_92 : decode cX4_sendMessages 92 = .ok (.iload_n 1, 1) := by decide +kernel
theorem dX4_sendMessages_93 : decode cX4_sendMessages 93 = .ok (.invokevirtual 79, 3) := by decide +kernel
theorem dX4_sendMessages_96 : decode cX4_sendMessages 96 = .ok (.iinc 1 1, 3) := by decide +kernel
theorem dX4_sendMessages_99 : decode cX4_sendMessages 99 = .ok (.goto (-64), 3) := by decide +kernel
theorem dX4_sendMessages_102 : decode cX4_sendMessages 102 = .ok (.return_, 1) := by decide +kernel
theorem dX4_ageToSend_0 : decode cX4_ageToSend 0 = .ok (.aload_n 0, 1) := by decide +kernel
theorem dX4_ageToSend_1 : decode cX4_ageToSend 1 = .ok (.getfield 29, 3) := by decide +kernel
theorem dX4_ageToSend_4 : decode cX4_ageToSend 4 = .ok (.getfield 82, 3) := by decide +kernel
theorem dX4_ageToSend_7 : decode cX4_ageToSend 7 = .ok (.aload_n 0, 1) := by decide +kernel
theorem dX4_ageToSend_8 : decode cX4_ageToSend 8 = .ok (.getfield 25, 3) := by decide +kernel
theorem dX4_ageToSend_11 : decode cX4_ageToSend 11 = .ok (.getfield 85, 3) := by decide +kernel
theorem dX4_ageToSend_14 : decode cX4_ageToSend 14 = .ok (.iload_n 1, 1) := by decide +kernel
theorem dX4_ageToSend_15 : decode cX4_ageToSend 15 = .ok (.iaload, 1) := by decide +kernel
theorem dX4_ageToSend_16 : decode cX4_ageToSend 16 = .ok (.iaload, 1) := by decide +kernel
theorem dX4_ageToSend_17 : decode cX4_ageToSend 17 = .ok (.istore_n 2, 1) := by decide +kernel
theorem dX4_ageToSend_18 : decode cX4_ageToSend 18 = .ok (.iload_n 2, 1) := by decide +kernel
theorem dX4_ageToSend_19 : decode cX4_ageToSend 19 = .ok (.iconst (-1), 1) := by decide +kernel
theorem dX4_ageToSend_20 : decode cX4_ageToSend 20 = .ok (.if_icmp .ne 7, 3) := by decide +kernel
theorem dX4_ageToSend_23 : decode cX4_ageToSend 23 = .ok (.iconst 0, 1) := by decide +kernel
theorem dX4_ageToSend_24 : decode cX4_ageToSend 24 = .ok (.goto 15, 3) := by decide +kernel
theorem dX4_ageToSend_27 : decode cX4_ageToSend 27 = .ok (.bipush 7, 2) := by decide +kernel
theorem dX4_ageToSend_29 : decode cX4_ageToSend 29 = .ok (.aload_n 0, 1) := by decide +kernel
theorem dX4_ageToSend_30 : decode cX4_ageToSend 30 = .ok (.getfield 25, 3) := by decide +kernel
theorem dX4_ageToSend_33 : decode cX4_ageToSend 33 = .ok (.getfield 88, 3) := by decide +kernel
theorem dX4_ageToSend_36 : decode cX4_ageToSend 36 = .ok (.iload_n 2, 1) := by decide +kernel
theorem dX4_ageToSend_37 : decode cX4_ageToSend 37 = .ok (.iaload, 1) := by decide +kernel
theorem dX4_ageToSend_38 : decode cX4_ageToSend 38 = .ok (.isub, 1) := by decide +kernel
theorem dX4_ageToSend_39 : decode cX4_ageToSend 39 = .ok (.ireturn, 1) := by decide +kernel
theorem dX4_rankSender_0 : decode cX4_rankSender 0 = .ok (.aload_n 0, 1) := by decide +kernel
theorem dX4_rankSender_1 : decode cX4_rankSender 1 = .ok (.getfield 25, 3) := by decide +kernel
theorem dX4_rankSender_4 : decode cX4_rankSender 4 = .ok (.getfield 91, 3) := by decide +kernel
theorem dX4_rankSender_7 : decode cX4_rankSender 7 = .ok (.iload_n 1, 1) := by decide +kernel
theorem dX4_rankSender_8 : decode cX4_rankSender 8 = .ok (.iaload, 1) := by decide +kernel
theorem dX4_rankSender_9 : decode cX4_rankSender 9 = .ok (.istore_n 2, 1) := by decide +kernel
theorem dX4_rankSender_10 : decode cX4_rankSender 10 = .ok (.aload_n 0, 1) := by decide +kernel
theorem dX4_rankSender_11 : decode cX4_rankSender 11 = .ok (.iload_n 1, 1) := by decide +kernel
theorem dX4_rankSender_12 : decode cX4_rankSender 12 = .ok (.aload_n 0, 1) := by decide +kernel
theorem dX4_rankSender_13 : decode cX4_rankSender 13 = .ok (.getfield 19, 3) := by decide +kernel
theorem dX4_rankSender_16 : decode cX4_rankSender 16 = .ok (.iload_n 2, 1) := by decide +kernel
theorem dX4_rankSender_17 : decode cX4_rankSender 17 = .ok (.iaload, 1) := by decide +kernel
theorem dX4_rankSender_18 : decode cX4_rankSender 18 = .ok (.invokevirtual 94, 3) := by decide +kernel
theorem dX4_rankSender_21 : decode cX4_rankSender 21 = .ok (.ifCond .eq 25, 3) := by decide +kernel
theorem dX4_rankSender_24 : decode cX4_rankSender 24 = .ok (.aload_n 0, 1) := by decide +kernel
theorem dX4_rankSender_25 : decode cX4_rankSender 25 = .ok (.getfield 22, 3) := by decide +kernel
theorem dX4_rankSender_28 : decode cX4_rankSender 28 = .ok (.iload_n 2, 1) := by decide +kernel
theorem dX4_rankSender_29 : decode cX4_rankSender 29 = .ok (.aload_n 0, 1) := by decide +kernel
theorem dX4_rankSender_30 : decode cX4_rankSender 30 = .ok (.getfield 19, 3) := by decide +kernel
theorem dX4_rankSender_33 : decode cX4_rankSender 33 = .ok (.iload_n 2, 1) := by decide +kernel
theorem dX4_rankSender_34 : decode cX4_rankSender 34 = .ok (.iaload, 1) := by decide +kernel
theorem dX4_rankSender_35 : decode cX4_rankSender 35 = .ok (.iastore, 1) := by decide +kernel
theorem dX4_rankSender_36 : decode cX4_rankSender 36 = .ok (.aload_n 0, 1) := by decide +kernel
theorem dX4_rankSender_37 : decode cX4_rankSender 37 = .ok (.getfield 19, 3) := by decide +kernel
theorem dX4_rankSender_40 : decode cX4_rankSender 40 = .ok (.iload_n 2, 1) := by decide +kernel
theorem dX4_rankSender_41 : decode cX4_rankSender 41 = .ok (.iload_n 1, 1) := by decide +kernel
theorem dX4_rankSender_42 : decode cX4_rankSender 42 = .ok (.iastore, 1) := by decide +kernel
theorem dX4_rankSender_43 : decode cX4_rankSender 43 = .ok (.goto 24, 3) := by decide +kernel
theorem dX4_rankSender_46 : decode cX4_rankSender 46 = .ok (.aload_n 0, 1) := by decide +kernel
theorem dX4_rankSender_47 : decode cX4_rankSender 47 = .ok (.iload_n 1, 1) := by decide +kernel
theorem dX4_rankSender_48 : decode cX4_rankSender 48 = .ok (.aload_n 0, 1) := by decide +kernel
theorem dX4_rankSender_49 : decode cX4_rankSender 49 = .ok (.getfield 22, 3) := by decide +kernel
theorem dX4_rankSender_52 : decode cX4_rankSender 52 = .ok (.iload_n 2, 1) := by decide +kernel
theorem dX4_rankSender_53 : decode cX4_rankSender 53 = .ok (.iaload, 1) := by decide +kernel
theorem dX4_rankSender_54 : decode cX4_rankSender 54 = .ok (.invokevirtual 94, 3) := by decide +kernel
theorem dX4_rankSender_57 : decode cX4_rankSender 57 = .ok (.ifCond .eq 10, 3) := by decide +kernel
theorem dX4_rankSender_60 : decode cX4_rankSender 60 = .ok (.aload_n 0, 1) := by decide +kernel
theorem dX4_rankSender_61 : decode cX4_rankSender 61 = .ok (.getfield 22, 3) := by decide +kernel
theorem dX4_rankSender_64 : decode cX4_rankSender 64 = .ok (.iload_n 2, 1) := by decide +kernel
theorem dX4_rankSender_65 : decode cX4_rankSender 65 = .ok (.iload_n 1, 1) := by decide +kernel
theorem dX4_rankSender_66 : decode cX4_rankSender 66 = .ok (.iastore, 1) := by decide +kernel
theorem dX4_rankSender_67 : decode cX4_rankSender 67 = .ok (.return_, 1) := by decide +kernel
theorem dX4_isBetterSender_0 : decode cX4_isBetterSender 0 = .ok (.iload_n 2, 1) := by decide +kernel
theorem dX4_isBetterSender_1 : decode cX4_isBetterSender 1 = .ok (.iconst (-1), 1) := by decide +kernel
theorem dX4_isBetterSender_2 : decode cX4_isBetterSender 2 = .ok (.if_icmp .eq 19, 3) := by decide +kernel
theorem dX4_isBetterSender_5 : decode cX4_isBetterSender 5 = .ok (.aload_n 0, 1) := by decide +kernel
theorem dX4_isBetterSender_6 : decode cX4_isBetterSender 6 = .ok (.getfield 9, 3) := by decide +kernel
theorem dX4_isBetterSender_9 : decode cX4_isBetterSender 9 = .ok (.iload_n 1, 1) := by decide +kernel
theorem dX4_isBetterSender_10 : decode cX4_isBetterSender 10 = .ok (.laload, 1) := by decide +kernel
theorem dX4_isBetterSender_11 : decode cX4_isBetterSender 11 = .ok (.aload_n 0, 1) := by decide +kernel
theorem dX4_isBetterSender_12 : decode cX4_isBetterSender 12 = .ok (.getfield 9, 3) := by decide +kernel
theorem dX4_isBetterSender_15 : decode cX4_isBetterSender 15 = .ok (.iload_n 2, 1) := by decide +kernel
theorem dX4_isBetterSender_16 : decode cX4_isBetterSender 16 = .ok (.laload, 1) := by decide +kernel
theorem dX4_isBetterSender_17 : decode cX4_isBetterSender 17 = .ok (.lcmp, 1) := by decide +kernel
theorem dX4_isBetterSender_18 : decode cX4_isBetterSender 18 = .ok (.ifCond .ge 7, 3) := by decide +kernel
theorem dX4_isBetterSender_21 : decode cX4_isBetterSender 21 = .ok (.iconst 1, 1) := by decide +kernel
theorem dX4_isBetterSender_22 : decode cX4_isBetterSender 22 = .ok (.goto 4, 3) := by decide +kernel
theorem dX4_isBetterSender_25 : decode cX4_isBetterSender 25 = .ok (.iconst 0, 1) := by decide +kernel
theorem dX4_isBetterSender_26 : decode cX4_isBetterSender 26 = .ok (.ireturn, 1) := by decide +kernel
theorem dX4_takesMessage_0 : decode cX4_takesMessage 0 = .ok (.aload_n 0, 1) := by decide +kernel
theorem dX4_takesMessage_1 : decode cX4_takesMessage 1 = .ok (.getfield 25, 3) := by decide +kernel
theorem dX4_takesMessage_4 : decode cX4_takesMessage 4 = .ok (.iload_n 1, 1) := by decide +kernel
theorem dX4_takesMessage_5 : decode cX4_takesMessage 5 = .ok (.invokevirtual 98, 3) := by decide +kernel
theorem dX4_takesMessage_8 : decode cX4_takesMessage 8 = .ok (.ifCond .ne 5, 3) := by decide +kernel
theorem dX4_takesMessage_11 : decode cX4_takesMessage 11 = .ok (.iconst 0, 1) := by decide +kernel
theorem dX4_takesMessage_12 : decode cX4_takesMessage 12 = .ok (.ireturn, 1) := by decide +kernel
theorem dX4_takesMessage_13 : decode cX4_takesMessage 13 = .ok (.aload_n 0, 1) := by decide +kernel
theorem dX4_takesMessage_14 : decode cX4_takesMessage 14 = .ok (.getfield 25, 3) := by decide +kernel
theorem dX4_takesMessage_17 : decode cX4_takesMessage 17 = .ok (.getfield 91, 3) := by decide +kernel
theorem dX4_takesMessage_20 : decode cX4_takesMessage 20 = .ok (.iload_n 1, 1) := by decide +kernel
theorem dX4_takesMessage_21 : decode cX4_takesMessage 21 = .ok (.iaload, 1) := by decide +kernel
theorem dX4_takesMessage_22 : decode cX4_takesMessage 22 = .ok (.istore_n 2, 1) := by decide +kernel
theorem dX4_takesMessage_23 : decode cX4_takesMessage 23 = .ok (.aload_n 0, 1) := by decide +kernel
theorem dX4_takesMessage_24 : decode cX4_takesMessage 24 = .ok (.getfield 19, 3) := by decide +kernel
theorem dX4_takesMessage_27 : decode cX4_takesMessage 27 = .ok (.iload_n 2, 1) := by decide +kernel
theorem dX4_takesMessage_28 : decode cX4_takesMessage 28 = .ok (.iaload, 1) := by decide +kernel
theorem dX4_takesMessage_29 : decode cX4_takesMessage 29 = .ok (.iload_n 1, 1) := by decide +kernel
theorem dX4_takesMessage_30 : decode cX4_takesMessage 30 = .ok (.if_icmp .ne 12, 3) := by decide +kernel
theorem dX4_takesMessage_33 : decode cX4_takesMessage 33 = .ok (.aload_n 0, 1) := by decide +kernel
theorem dX4_takesMessage_34 : decode cX4_takesMessage 34 = .ok (.getfield 22, 3) := by decide +kernel
theorem dX4_takesMessage_37 : decode cX4_takesMessage 37 = .ok (.iload_n 2, 1) := by decide +kernel
theorem dX4_takesMessage_38 : decode cX4_takesMessage 38 = .ok (.iaload, 1) := by decide +kernel
theorem dX4_takesMessage_39 : decode cX4_takesMessage 39 = .ok (.goto 9, 3) := by decide +kernel
theorem dX4_takesMessage_42 : decode cX4_takesMessage 42 = .ok (.aload_n 0, 1) := by decide +kernel
theorem dX4_takesMessage_43 : decode cX4_takesMessage 43 = .ok (.getfield 19, 3) := by decide +kernel
theorem dX4_takesMessage_46 : decode cX4_takesMessage 46 = .ok (.iload_n 2, 1) := by decide +kernel
theorem dX4_takesMessage_47 : decode cX4_takesMessage 47 = .ok (.iaload, 1) := by decide +kernel
theorem dX4_takesMessage_48 : decode cX4_takesMessage 48 = .ok (.istore_n 3, 1) := by decide +kernel
theorem dX4_takesMessage_49 : decode cX4_takesMessage 49 = .ok (.iload_n 3, 1) := by decide +kernel
theorem dX4_takesMessage_50 : decode cX4_takesMessage 50 = .ok (.iconst (-1), 1) := by decide +kernel
theorem dX4_takesMessage_51 : decode cX4_takesMessage 51 = .ok (.if_icmp .eq 17, 3) := by decide +kernel
theorem dX4_takesMessage_54 : decode cX4_takesMessage 54 = .ok (.aload_n 0, 1) := by decide +kernel
theorem dX4_takesMessage_55 : decode cX4_takesMessage 55 = .ok (.iload_n 1, 1) := by decide +kernel
theorem dX4_takesMessage_56 : decode cX4_takesMessage 56 = .ok (.aload_n 0, 1) := by decide +kernel
theorem dX4_takesMessage_57 : decode cX4_takesMessage 57 = .ok (.getfield 9, 3) := by decide +kernel
theorem dX4_takesMessage_60 : decode cX4_takesMessage 60 = .ok (.iload_n 3, 1) := by decide +kernel
theorem dX4_takesMessage_61 : decode cX4_takesMessage 61 = .ok (.laload, 1) := by decide +kernel
theorem dX4_takesMessage_62 : decode cX4_takesMessage 62 = .ok (.invokevirtual 101, 3) := by decide +kernel
theorem dX4_takesMessage_65 : decode cX4_takesMessage 65 = .ok (.ifCond .ne 5, 3) := by decide +kernel
theorem dX4_takesMessage_68 : decode cX4_takesMessage 68 = .ok (.iconst 0, 1) := by decide +kernel
theorem dX4_takesMessage_69 : decode cX4_takesMessage 69 = .ok (.ireturn, 1) := by decide +kernel
theorem dX4_takesMessage_70 : decode cX4_takesMessage 70 = .ok (.aload_n 0, 1) := by decide +kernel
theorem dX4_takesMessage_71 : decode cX4_takesMessage 71 = .ok (.getfield 25, 3) := by decide +kernel
theorem dX4_takesMessage_74 : decode cX4_takesMessage 74 = .ok (.getfield 105, 3) := by decide +kernel
theorem dX4_takesMessage_77 : decode cX4_takesMessage 77 = .ok (.iload_n 1, 1) := by decide +kernel
theorem dX4_takesMessage_78 : decode cX4_takesMessage 78 = .ok (.aload_n 0, 1) := by decide +kernel
theorem dX4_takesMessage_79 : decode cX4_takesMessage 79 = .ok (.getfield 9, 3) := by decide +kernel
theorem dX4_takesMessage_82 : decode cX4_takesMessage 82 = .ok (.iload_n 3, 1) := by decide +kernel
theorem dX4_takesMessage_83 : decode cX4_takesMessage 83 = .ok (.laload, 1) := by decide +kernel
theorem dX4_takesMessage_84 : decode cX4_takesMessage 84 = .ok (.lastore, 1) := by decide +kernel
theorem dX4_takesMessage_85 : decode cX4_takesMessage 85 = .ok (.aload_n 0, 1) := by decide +kernel
theorem dX4_takesMessage_86 : decode cX4_takesMessage 86 = .ok (.getfield 25, 3) := by decide +kernel
theorem dX4_takesMessage_89 : decode cX4_takesMessage 89 = .ok (.getfield 88, 3) := by decide +kernel
theorem dX4_takesMessage_92 : decode cX4_takesMessage 92 = .ok (.iload_n 1, 1) := by decide +kernel
theorem dX4_takesMessage_93 : decode cX4_takesMessage 93 = .ok (.bipush 6, 2) := by decide +kernel
theorem dX4_takesMessage_95 : decode cX4_takesMessage 95 = .ok (.aload_n 0, 1) := by decide +kernel
theorem dX4_takesMessage_96 : decode cX4_takesMessage 96 = .ok (.getfield 15, 3) := by decide +kernel
theorem dX4_takesMessage_99 : decode cX4_takesMessage 99 = .ok (.iload_n 3, 1) := by decide +kernel
theorem dX4_takesMessage_100 : decode cX4_takesMessage 100 = .ok (.iaload, 1) := by decide +kernel
theorem dX4_takesMessage_101 : decode cX4_takesMessage 101 = .ok (.isub, 1) := by decide +kernel
theorem dX4_takesMessage_102 : decode cX4_takesMessage 102 = .ok (.iastore, 1) := by decide +kernel
theorem dX4_takesMessage_103 : decode cX4_takesMessage 103 = .ok (.iconst 1, 1) := by decide +kernel
theorem dX4_takesMessage_104 : decode cX4_takesMessage 104 = .ok (.ireturn, 1) := by decide +kernel
theorem dX4_accepts_0 : decode cX4_accepts 0 = .ok (.aload_n 0, 1) := by decide +kernel
theorem dX4_accepts_1 : decode cX4_accepts 1 = .ok (.getfield 25, 3) := by decide +kernel
theorem dX4_accepts_4 : decode cX4_accepts 4 = .ok (.iload_n 1, 1) := by decide +kernel
theorem dX4_accepts_5 : decode cX4_accepts 5 = .ok (.invokevirtual 108, 3) := by decide +kernel
theorem dX4_accepts_8 : decode cX4_accepts 8 = .ok (.ifCond .ne 5, 3) := by decide +kernel
theorem dX4_accepts_11 : decode cX4_accepts 11 = .ok (.iconst 1, 1) := by decide +kernel
theorem dX4_accepts_12 : decode cX4_accepts 12 = .ok (.ireturn, 1) := by decide +kernel
theorem dX4_accepts_13 : decode cX4_accepts 13 = .ok (.aload_n 0, 1) := by decide +kernel
theorem dX4_accepts_14 : decode cX4_accepts 14 = .ok (.getfield 25, 3) := by decide +kernel
theorem dX4_accepts_17 : decode cX4_accepts 17 = .ok (.getfield 105, 3) := by decide +kernel
theorem dX4_accepts_20 : decode cX4_accepts 20 = .ok (.iload_n 1, 1) := by decide +kernel
theorem dX4_accepts_21 : decode cX4_accepts 21 = .ok (.laload, 1) := by decide +kernel
theorem dX4_accepts_22 : decode cX4_accepts 22 = .ok (.lstore 4, 2) := by decide +kernel
theorem dX4_accepts_24 : decode cX4_accepts 24 = .ok (.lload_n 2, 1) := by decide +kernel
theorem dX4_accepts_25 : decode cX4_accepts 25 = .ok (.lload 4, 2) := by decide +kernel
theorem dX4_accepts_27 : decode cX4_accepts 27 = .ok (.lcmp, 1) := by decide +kernel
theorem dX4_accepts_28 : decode cX4_accepts 28 = .ok (.ifCond .le 12, 3) := by decide +kernel
theorem dX4_accepts_31 : decode cX4_accepts 31 = .ok (.lload_n 2, 1) := by decide +kernel
theorem dX4_accepts_32 : decode cX4_accepts 32 = .ok (.lload 4, 2) := by decide +kernel
theorem dX4_accepts_34 : decode cX4_accepts 34 = .ok (.invokestatic 111, 3) := by decide +kernel
theorem dX4_accepts_37 : decode cX4_accepts 37 = .ok (.ifCond .eq 7, 3) := by decide +kernel
theorem dX4_accepts_40 : decode cX4_accepts 40 = .ok (.iconst 1, 1) := by decide +kernel
theorem dX4_accepts_41 : decode cX4_accepts 41 = .ok (.goto 4, 3) := by decide +kernel
theorem dX4_accepts_44 : decode cX4_accepts 44 = .ok (.iconst 0, 1) := by decide +kernel
theorem dX4_accepts_45 : decode cX4_accepts 45 = .ok (.ireturn, 1) := by decide +kernel
theorem dX4_moveStates_0 : decode cX4_moveStates 0 = .ok (.iconst 0, 1) := by decide +kernel
theorem dX4_moveStates_1 : decode cX4_moveStates 1 = .ok (.istore_n 1, 1) := by decide +kernel
theorem dX4_moveStates_2 : decode cX4_moveStates 2 = .ok (.iconst 0, 1) := by decide +kernel
theorem dX4_moveStates_3 : decode cX4_moveStates 3 = .ok (.istore_n 2, 1) := by decide +kernel
theorem dX4_moveStates_4 : decode cX4_moveStates 4 = .ok (.iload_n 2, 1) := by decide +kernel
theorem dX4_moveStates_5 : decode cX4_moveStates 5 = .ok (.aload_n 0, 1) := by decide +kernel
theorem dX4_moveStates_6 : decode cX4_moveStates 6 = .ok (.getfield 25, 3) := by decide +kernel
theorem dX4_moveStates_9 : decode cX4_moveStates 9 = .ok (.getfield 36, 3) := by decide +kernel
theorem dX4_moveStates_12 : decode cX4_moveStates 12 = .ok (.if_icmp .ge 56, 3) := by decide +kernel
theorem dX4_moveStates_15 : decode cX4_moveStates 15 = .ok (.aload_n 0, 1) := by decide +kernel
theorem dX4_moveStates_16 : decode cX4_moveStates 16 = .ok (.getfield 25, 3) := by decide +kernel
theorem dX4_moveStates_19 : decode cX4_moveStates 19 = .ok (.getfield 117, 3) := by decide +kernel
theorem dX4_moveStates_22 : decode cX4_moveStates 22 = .ok (.iload_n 2, 1) := by decide +kernel
theorem dX4_moveStates_23 : decode cX4_moveStates 23 = .ok (.iaload, 1) := by decide +kernel
theorem dX4_moveStates_24 : decode cX4_moveStates 24 = .ok (.istore_n 3, 1) := by decide +kernel
theorem dX4_moveStates_25 : decode cX4_moveStates 25 = .ok (.aload_n 0, 1) := by decide +kernel
theorem dX4_moveStates_26 : decode cX4_moveStates 26 = .ok (.iload_n 2, 1) := by decide +kernel
theorem dX4_moveStates_27 : decode cX4_moveStates 27 = .ok (.aload_n 0, 1) := by decide +kernel
theorem dX4_moveStates_28 : decode cX4_moveStates 28 = .ok (.getfield 29, 3) := by decide +kernel
theorem dX4_moveStates_31 : decode cX4_moveStates 31 = .ok (.getfield 72, 3) := by decide +kernel
theorem dX4_moveStates_34 : decode cX4_moveStates 34 = .ok (.iload_n 2, 1) := by decide +kernel
theorem dX4_moveStates_35 : decode cX4_moveStates 35 = .ok (.iaload, 1) := by decide +kernel
theorem dX4_moveStates_36 : decode cX4_moveStates 36 = .ok (.invokevirtual 120, 3) := by decide +kernel
theorem dX4_moveStates_39 : decode cX4_moveStates 39 = .ok (.iload_n 1, 1) := by decide +kernel
theorem dX4_moveStates_40 : decode cX4_moveStates 40 = .ok (.ifCond .ne 16, 3) := by decide +kernel
theorem dX4_moveStates_43 : decode cX4_moveStates 43 = .ok (.aload_n 0, 1) := by decide +kernel
theorem dX4_moveStates_44 : decode cX4_moveStates 44 = .ok (.getfield 25, 3) := by decide +kernel
theorem dX4_moveStates_47 : decode cX4_moveStates 47 = .ok (.getfield 117, 3) := by decide +kernel
theorem dX4_moveStates_50 : decode cX4_moveStates 50 = .ok (.iload_n 2, 1) := by decide +kernel
theorem dX4_moveStates_51 : decode cX4_moveStates 51 = .ok (.iaload, 1) := by decide +kernel
theorem dX4_moveStates_52 : decode cX4_moveStates 52 = .ok (.iload_n 3, 1) := by decide +kernel
theorem dX4_moveStates_53 : decode cX4_moveStates 53 = .ok (.if_icmp .eq 7, 3) := by decide +kernel
theorem dX4_moveStates_56 : decode cX4_moveStates 56 = .ok (.iconst 1, 1) := by decide +kernel
theorem dX4_moveStates_57 : decode cX4_moveStates 57 = .ok (.goto 4, 3) := by decide +kernel
theorem dX4_moveStates_60 : decode cX4_moveStates 60 = .ok (.iconst 0, 1) := by decide +kernel
theorem dX4_moveStates_61 : decode cX4_moveStates 61 = .ok (.istore_n 1, 1) := by decide +kernel
theorem dX4_moveStates_62 : decode cX4_moveStates 62 = .ok (.iinc 2 1, 3) := by decide +kernel
theorem dX4_moveStates_65 : decode cX4_moveStates 65 = .ok (.goto (-61), 3) := by decide +kernel
theorem dX4_moveStates_68 : decode cX4_moveStates 68 = .ok (.iload_n 1, 1) := by decide +kernel
theorem dX4_moveStates_69 : decode cX4_moveStates 69 = .ok (.ireturn, 1) := by decide +kernel
theorem dX4_moveState_0 : decode cX4_moveState 0 = .ok (.iload_n 2, 1) := by decide +kernel
theorem dX4_moveState_1 : decode cX4_moveState 1 = .ok (.iconst 3, 1) := by decide +kernel
theorem dX4_moveState_2 : decode cX4_moveState 2 = .ok (.if_icmp .eq 8, 3) := by decide +kernel
theorem dX4_moveState_5 : decode cX4_moveState 5 = .ok (.iload_n 2, 1) := by decide +kernel
theorem dX4_moveState_6 : decode cX4_moveState 6 = .ok (.iconst 4, 1) := by decide +kernel
theorem dX4_moveState_7 : decode cX4_moveState 7 = .ok (.if_icmp .ne 13, 3) := by decide +kernel
theorem dX4_moveState_10 : decode cX4_moveState 10 = .ok (.aload_n 0, 1) := by decide +kernel
theorem dX4_moveState_11 : decode cX4_moveState 11 = .ok (.iload_n 1, 1) := by decide +kernel
theorem dX4_moveState_12 : decode cX4_moveState 12 = .ok (.iconst 1, 1) := by decide +kernel
theorem dX4_moveState_13 : decode cX4_moveState 13 = .ok (.iconst 0, 1) := by decide +kernel
theorem dX4_moveState_14 : decode cX4_moveState 14 = .ok (.invokevirtual 124, 3) := by decide +kernel
theorem dX4_moveState_17 : decode cX4_moveState 17 = .ok (.goto 18, 3) := by decide +kernel
theorem dX4_moveState_20 : decode cX4_moveState 20 = .ok (.iload_n 2, 1) := by decide +kernel
theorem dX4_moveState_21 : decode cX4_moveState 21 = .ok (.iconst 1, 1) := by decide +kernel
theorem dX4_moveState_22 : decode cX4_moveState 22 = .ok (.if_icmp .eq 8, 3) := by decide +kernel
theorem dX4_moveState_25 : decode cX4_moveState 25 = .ok (.iload_n 2, 1) := by decide +kernel
theorem dX4_moveState_26 : decode cX4_moveState 26 = .ok (.iconst 2, 1) := by decide +kernel
theorem dX4_moveState_27 : decode cX4_moveState 27 = .ok (.if_icmp .ne 8, 3) := by decide +kernel
theorem dX4_moveState_30 : decode cX4_moveState 30 = .ok (.aload_n 0, 1) := by decide +kernel
theorem dX4_moveState_31 : decode cX4_moveState 31 = .ok (.iload_n 1, 1) := by decide +kernel
theorem dX4_moveState_32 : decode cX4_moveState 32 = .ok (.invokevirtual 128, 3) := by decide +kernel
theorem dX4_moveState_35 : decode cX4_moveState 35 = .ok (.return_, 1) := by decide +kernel
theorem dX4_moveTowardsForwarding_0 : decode cX4_moveTowardsForwarding 0 = .ok (.aload_n 0, 1) := by decide +kernel
theorem dX4_moveTowardsForwarding_1 : decode cX4_moveTowardsForwarding 1 = .ok (.getfield 25, 3) := by decide +kernel
theorem dX4_moveTowardsForwarding_4 : decode cX4_moveTowardsForwarding 4 = .ok (.getfield 117, 3) := by decide +kernel
theorem dX4_moveTowardsForwarding_7 : decode cX4_moveTowardsForwarding 7 = .ok (.iload_n 1, 1) := by decide +kernel
theorem dX4_moveTowardsForwarding_8 : decode cX4_moveTowardsForwarding 8 = .ok (.iaload, 1) := by decide +kernel
theorem dX4_moveTowardsForwarding_9 : decode cX4_moveTowardsForwarding 9 = .ok (.istore_n 2, 1) := by decide +kernel
theorem dX4_moveTowardsForwarding_10 : decode cX4_moveTowardsForwarding 10 = .ok (.iload_n 2, 1) := by decide +kernel
theorem dX4_moveTowardsForwarding_11 : decode cX4_moveTowardsForwarding 11 = .ok (.iconst 1, 1) := by decide +kernel
theorem dX4_moveTowardsForwarding_12 : decode cX4_moveTowardsForwarding 12 = .ok (.if_icmp .ne 13, 3) := by decide +kernel
theorem dX4_moveTowardsForwarding_15 : decode cX4_moveTowardsForwarding 15 = .ok (.aload_n 0, 1) := by decide +kernel
theorem dX4_moveTowardsForwarding_16 : decode cX4_moveTowardsForwarding 16 = .ok (.iload_n 1, 1) := by decide +kernel
theorem dX4_moveTowardsForwarding_17 : decode cX4_moveTowardsForwarding 17 = .ok (.iconst 2, 1) := by decide +kernel
theorem dX4_moveTowardsForwarding_18 : decode cX4_moveTowardsForwarding 18 = .ok (.iconst 2, 1) := by decide +kernel
theorem dX4_moveTowardsForwarding_19 : decode cX4_moveTowardsForwarding 19 = .ok (.invokevirtual 124, 3) := by decide +kernel
theorem dX4_moveTowardsForwarding_22 : decode cX4_moveTowardsForwarding 22 = .ok (.goto 56, 3) := by decide +kernel
theorem dX4_moveTowardsForwarding_25 : decode cX4_moveTowardsForwarding 25 = .ok (.iload_n 2, 1) := by decide +kernel
theorem dX4_moveTowardsForwarding_26 : decode cX4_moveTowardsForwarding 26 = .ok (.iconst 2, 1) := by decide +kernel
theorem dX4_moveTowardsForwarding_27 : decode cX4_moveTowardsForwarding 27 = .ok (.if_icmp .eq 8, 3) := by decide +kernel
theorem dX4_moveTowardsForwarding_30 : decode cX4_moveTowardsForwarding 30 = .ok (.iload_n 2, 1) := by decide +kernel
theorem dX4_moveTowardsForwarding_31 : decode cX4_moveTowardsForwarding 31 = .ok (.iconst 3, 1) := by decide +kernel
theorem dX4_moveTowardsForwarding_32 : decode cX4_moveTowardsForwarding 32 = .ok (.if_icmp .ne 46, 3) := by decide +kernel
theorem dX4_moveTowardsForwarding_35 : decode cX4_moveTowardsForwarding 35 = .ok (.aload_n 0, 1) := by decide +kernel
theorem dX4_moveTowardsForwarding_36 : decode cX4_moveTowardsForwarding 36 = .ok (.getfield 25, 3) := by decide +kernel
theorem dX4_moveTowardsForwarding_39 : decode cX4_moveTowardsForwarding 39 = .ok (.getfield 131, 3) := by decide +kernel
theorem dX4_moveTowardsForwarding_42 : decode cX4_moveTowardsForwarding 42 = .ok (.iload_n 1, 1) := by decide +kernel
theorem dX4_moveTowardsForwarding_43 : decode cX4_moveTowardsForwarding 43 = .ok (.dup2, 1) := by decide +kernel
theorem dX4_moveTowardsForwarding_44 : decode cX4_moveTowardsForwarding 44 = .ok (.iaload, 1) := by decide +kernel
theorem dX4_moveTowardsForwarding_45 : decode cX4_moveTowardsForwarding 45 = .ok (.iconst 1, 1) := by decide +kernel
theorem dX4_moveTowardsForwarding_46 : decode cX4_moveTowardsForwarding 46 = .ok (.isub, 1) := by decide +kernel
theorem dX4_moveTowardsForwarding_47 : decode cX4_moveTowardsForwarding 47 = .ok (.iastore, 1) := by decide +kernel
theorem dX4_moveTowardsForwarding_48 : decode cX4_moveTowardsForwarding 48 = .ok (.aload_n 0, 1) := by decide +kernel
theorem dX4_moveTowardsForwarding_49 : decode cX4_moveTowardsForwarding 49 = .ok (.getfield 25, 3) := by decide +kernel
theorem dX4_moveTowardsForwarding_52 : decode cX4_moveTowardsForwarding 52 = .ok (.getfield 131, 3) := by decide +kernel
theorem dX4_moveTowardsForwarding_55 : decode cX4_moveTowardsForwarding 55 = .ok (.iload_n 1, 1) := by decide +kernel
theorem dX4_moveTowardsForwarding_56 : decode cX4_moveTowardsForwarding 56 = .ok (.iaload, 1) := by decide +kernel
theorem dX4_moveTowardsForwarding_57 : decode cX4_moveTowardsForwarding 57 = .ok (.ifCond .gt 21, 3) := by decide +kernel
theorem dX4_moveTowardsForwarding_60 : decode cX4_moveTowardsForwarding 60 = .ok (.aload_n 0, 1) := by decide +kernel
theorem dX4_moveTowardsForwarding_61 : decode cX4_moveTowardsForwarding 61 = .ok (.iload_n 1, 1) := by decide +kernel
theorem dX4_moveTowardsForwarding_62 : decode cX4_moveTowardsForwarding 62 = .ok (.iload_n 2, 1) := by decide +kernel
theorem dX4_moveTowardsForwarding_63 : decode cX4_moveTowardsForwarding 63 = .ok (.iconst 1, 1) := by decide +kernel
theorem dX4_moveTowardsForwarding_64 : decode cX4_moveTowardsForwarding 64 = .ok (.iadd, 1) := by decide +kernel
theorem dX4_moveTowardsForwarding_65 : decode cX4_moveTowardsForwarding 65 = .ok (.iload_n 2, 1) := by decide +kernel
theorem dX4_moveTowardsForwarding_66 : decode cX4_moveTowardsForwarding 66 = .ok (.iconst 2, 1) := by decide +kernel
theorem dX4_moveTowardsForwarding_67 : decode cX4_moveTowardsForwarding 67 = .ok (.if_icmp .ne 7, 3) := by decide +kernel
theorem dX4_moveTowardsForwarding_70 : decode cX4_moveTowardsForwarding 70 = .ok (.iconst 2, 1) := by decide +kernel
theorem dX4_moveTowardsForwarding_71 : decode cX4_moveTowardsForwarding 71 = .ok (.goto 4, 3) := by decide +kernel
theorem dX4_moveTowardsForwarding_74 : decode cX4_moveTowardsForwarding 74 = .ok (.iconst 0, 1) := by decide +kernel
theorem dX4_moveTowardsForwarding_75 : decode cX4_moveTowardsForwarding 75 = .ok (.invokevirtual 124, 3) := by decide +kernel
theorem dX4_moveTowardsForwarding_78 : decode cX4_moveTowardsForwarding 78 = .ok (.return_, 1) := by decide +kernel
theorem dX4_enterState_0 : decode cX4_enterState 0 = .ok (.aload_n 0, 1) := by decide +kernel
theorem dX4_enterState_1 : decode cX4_enterState 1 = .ok (.getfield 25, 3) := by decide +kernel
theorem dX4_enterState_4 : decode cX4_enterState 4 = .ok (.getfield 117, 3) := by decide +kernel
theorem dX4_enterState_7 : decode cX4_enterState 7 = .ok (.iload_n 1, 1) := by decide +kernel
theorem dX4_enterState_8 : decode cX4_enterState 8 = .ok (.iload_n 2, 1) := by decide +kernel
theorem dX4_enterState_9 : decode cX4_enterState 9 = .ok (.iastore, 1) := by decide +kernel
theorem dX4_enterState_10 : decode cX4_enterState 10 = .ok (.aload_n 0, 1) := by decide +kernel
theorem dX4_enterState_11 : decode cX4_enterState 11 = .ok (.getfield 25, 3) := by decide +kernel
theorem dX4_enterState_14 : decode cX4_enterState 14 = .ok (.getfield 131, 3) := by decide +kernel
theorem dX4_enterState_17 : decode cX4_enterState 17 = .ok (.iload_n 1, 1) := by decide +kernel
theorem dX4_enterState_18 : decode cX4_enterState 18 = .ok (.iload_n 3, 1) := by decide +kernel
theorem dX4_enterState_19 : decode cX4_enterState 19 = .ok (.iastore, 1) := by decide +kernel
theorem dX4_enterState_20 : decode cX4_enterState 20 = .ok (.return_, 1) := by decide +kernel
theorem dX5_init_0 : decode cX5_init 0 = .ok (.aload_n 0, 1) := by decide +kernel
theorem dX5_init_1 : decode cX5_init 1 = .ok (.invokespecial 3, 3) := by decide +kernel
theorem dX5_init_4 : decode cX5_init 4 = .ok (.aload_n 0, 1) := by decide +kernel
theorem dX5_init_5 : decode cX5_init 5 = .ok (.bipush 18, 2) := by decide +kernel
theorem dX5_init_7 : decode cX5_init 7 = .ok (.newarray .int, 2) := by decide +kernel
theorem dX5_init_9 : decode cX5_init 9 = .ok (.putfield 9, 3) := by decide +kernel
theorem dX5_init_12 : decode cX5_init 12 = .ok (.aload_n 0, 1) := by decide +kernel
theorem dX5_init_13 : decode cX5_init 13 = .ok (.aload_n 1, 1) := by decide +kernel
theorem dX5_init_14 : decode cX5_init 14 = .ok (.putfield 15, 3) := by decide +kernel
theorem dX5_init_17 : decode cX5_init 17 = .ok (.return_, 1) := by decide +kernel
theorem dX5_countParts_0 : decode cX5_countParts 0 = .ok (.iconst 0, 1) := by decide +kernel
theorem dX5_countParts_1 : decode cX5_countParts 1 = .ok (.istore_n 1, 1) := by decide +kernel
theorem dX5_countParts_2 : decode cX5_countParts 2 = .ok (.iload_n 1, 1) := by decide +kernel
theorem dX5_countParts_3 : decode cX5_countParts 3 = .ok (.aload_n 0, 1) := by decide +kernel
theorem dX5_countParts_4 : decode cX5_countParts 4 = .ok (.getfield 9, 3) := by decide +kernel
theorem dX5_countParts_7 : decode cX5_countParts 7 = .ok (.arraylength, 1) := by decide +kernel
theorem dX5_countParts_8 : decode cX5_countParts 8 = .ok (.if_icmp .ge 16, 3) := by decide +kernel
theorem dX5_countParts_11 : decode cX5_countParts 11 = .ok (.aload_n 0, 1) := by decide +kernel
theorem dX5_countParts_12 : decode cX5_countParts 12 = .ok (.getfield 9, 3) := by decide +kernel
theorem dX5_countParts_15 : decode cX5_countParts 15 = .ok (.iload_n 1, 1) := by decide +kernel
theorem dX5_countParts_16 : decode cX5_countParts 16 = .ok (.iload_n 1, 1) := by decide +kernel
theorem dX5_countParts_17 : decode cX5_countParts 17 = .ok (.iastore, 1) := by decide +kernel
theorem dX5_countParts_18 : decode cX5_countParts 18 = .ok (.iinc 1 1, 3) := by decide +kernel
theorem dX5_countParts_21 : decode cX5_countParts 21 = .ok (.goto (-19), 3) := by decide +kernel
theorem dX5_countParts_24 : decode cX5_countParts 24 = .ok (.aload_n 0, 1) := by decide +kernel
theorem dX5_countParts_25 : decode cX5_countParts 25 = .ok (.invokevirtual 19, 3) := by decide +kernel
theorem dX5_countParts_28 : decode cX5_countParts 28 = .ok (.istore_n 1, 1) := by decide +kernel
theorem dX5_countParts_29 : decode cX5_countParts 29 = .ok (.iconst 0, 1) := by decide +kernel
theorem dX5_countParts_30 : decode cX5_countParts 30 = .ok (.istore_n 2, 1) := by decide +kernel
theorem dX5_countParts_31 : decode cX5_countParts 31 = .ok (.iload_n 2, 1) := by decide +kernel
theorem dX5_countParts_32 : decode cX5_countParts 32 = .ok (.aload_n 0, 1) := by decide +kernel
theorem dX5_countParts_33 : decode cX5_countParts 33 = .ok (.getfield 15, 3) := by decide +kernel
theorem dX5_countParts_36 : decode cX5_countParts 36 = .ok (.getfield 23, 3) := by decide +kernel
theorem dX5_countParts_39 : decode cX5_countParts 39 = .ok (.if_icmp .ge 31, 3) := by decide +kernel
theorem dX5_countParts_42 : decode cX5_countParts 42 = .ok (.aload_n 0, 1) := by decide +kernel
theorem dX5_countParts_43 : decode cX5_countParts 43 = .ok (.getfield 15, 3) := by decide +kernel
theorem dX5_countParts_46 : decode cX5_countParts 46 = .ok (.iload_n 2, 1) := by decide +kernel
theorem dX5_countParts_47 : decode cX5_countParts 47 = .ok (.invokevirtual 29, 3) := by decide +kernel
theorem dX5_countParts_50 : decode cX5_countParts 50 = .ok (.ifCond .eq 14, 3) := by decide +kernel
theorem dX5_countParts_53 : decode cX5_countParts 53 = .ok (.aload_n 0, 1) := by decide +kernel
theorem dX5_countParts_54 : decode cX5_countParts 54 = .ok (.iload_n 2, 1) := by decide +kernel
theorem dX5_countParts_55 : decode cX5_countParts 55 = .ok (.invokevirtual 33, 3) := by decide +kernel
theorem dX5_countParts_58 : decode cX5_countParts 58 = .ok (.ifCond .eq 6, 3) := by decide +kernel
theorem dX5_countParts_61 : decode cX5_countParts 61 = .ok (.iinc 1 (-1), 3) := by decide +kernel
theorem dX5_countParts_64 : decode cX5_countParts 64 = .ok (.iinc 2 1, 3) := by decide +kernel
theorem dX5_countParts_67 : decode cX5_countParts 67 = .ok (.goto (-36), 3) := by decide +kernel
theorem dX5_countParts_70 : decode cX5_countParts 70 = .ok (.iload_n 1, 1) := by decide +kernel
theorem dX5_countParts_71 : decode cX5_countParts 71 = .ok (.ireturn, 1) := by decide +kernel
theorem dX5_countLoops_0 : decode cX5_countLoops 0 = .ok (.iconst 0, 1) := by decide +kernel
theorem dX5_countLoops_1 : decode cX5_countLoops 1 = .ok (.istore_n 1, 1) := by decide +kernel
theorem dX5_countLoops_2 : decode cX5_countLoops 2 = .ok (.iconst 0, 1) := by decide +kernel
theorem dX5_countLoops_3 : decode cX5_countLoops 3 = .ok (.istore_n 2, 1) := by decide +kernel
theorem dX5_countLoops_4 : decode cX5_countLoops 4 = .ok (.iload_n 2, 1) := by decide +kernel
theorem dX5_countLoops_5 : decode cX5_countLoops 5 = .ok (.aload_n 0, 1) := by decide +kernel
theorem dX5_countLoops_6 : decode cX5_countLoops 6 = .ok (.getfield 15, 3) := by decide +kernel
theorem dX5_countLoops_9 : decode cX5_countLoops 9 = .ok (.getfield 23, 3) := by decide +kernel
theorem dX5_countLoops_12 : decode cX5_countLoops 12 = .ok (.if_icmp .ge 23, 3) := by decide +kernel
theorem dX5_countLoops_15 : decode cX5_countLoops 15 = .ok (.aload_n 0, 1) := by decide +kernel
theorem dX5_countLoops_16 : decode cX5_countLoops 16 = .ok (.getfield 15, 3) := by decide +kernel
theorem dX5_countLoops_19 : decode cX5_countLoops 19 = .ok (.iload_n 2, 1) := by decide +kernel
theorem dX5_countLoops_20 : decode cX5_countLoops 20 = .ok (.invokevirtual 29, 3) := by decide +kernel
theorem dX5_countLoops_23 : decode cX5_countLoops 23 = .ok (.ifCond .eq 6, 3) := by decide +kernel
theorem dX5_countLoops_26 : decode cX5_countLoops 26 = .ok (.iinc 1 1, 3) := by decide +kernel
theorem dX5_countLoops_29 : decode cX5_countLoops 29 = .ok (.iinc 2 1, 3) := by decide +kernel
theorem dX5_countLoops_32 : decode cX5_countLoops 32 = .ok (.goto (-28), 3) := by decide +kernel
theorem dX5_countLoops_35 : decode cX5_countLoops 35 = .ok (.iload_n 1, 1) := by decide +kernel
theorem dX5_countLoops_36 : decode cX5_countLoops 36 = .ok (.aload_n 0, 1) := by decide +kernel
theorem dX5_countLoops_37 : decode cX5_countLoops 37 = .ok (.invokevirtual 19, 3) := by decide +kernel
theorem dX5_countLoops_40 : decode cX5_countLoops 40 = .ok (.isub, 1) := by decide +kernel
theorem dX5_countLoops_41 : decode cX5_countLoops 41 = .ok (.aload_n 0, 1) := by decide +kernel
theorem dX5_countLoops_42 : decode cX5_countLoops 42 = .ok (.invokevirtual 36, 3) := by decide +kernel
theorem dX5_countLoops_45 : decode cX5_countLoops 45 = .ok (.iadd, 1) := by decide +kernel
theorem dX5_countLoops_46 : decode cX5_countLoops 46 = .ok (.ireturn, 1) := by decide +kernel
theorem dX5_countVertices_0 : decode cX5_countVertices 0 = .ok (.aload_n 0, 1) := by decide +kernel
theorem dX5_countVertices_1 : decode cX5_countVertices 1 = .ok (.getfield 15, 3) := by decide +kernel
theorem dX5_countVertices_4 : decode cX5_countVertices 4 = .ok (.getfield 39, 3) := by decide +kernel
theorem dX5_countVertices_7 : decode cX5_countVertices 7 = .ok (.istore_n 1, 1) := by decide +kernel
theorem dX5_countVertices_8 : decode cX5_countVertices 8 = .ok (.iconst 0, 1) := by decide +kernel
theorem dX5_countVertices_9 : decode cX5_countVertices 9 = .ok (.istore_n 2, 1) := by decide +kernel
theorem dX5_countVertices_10 : decode cX5_countVertices 10 = .ok (.iload_n 2, 1) := by decide +kernel
theorem dX5_countVertices_11 : decode cX5_countVertices 11 = .ok (.aload_n 0, 1) := by decide +kernel
theorem dX5_countVertices_12 : decode cX5_countVertices 12 = .ok (.getfield 15, 3) := by decide +kernel
theorem dX5_countVertices_15 : decode cX5_countVertices 15 = .ok (.getfield 42, 3) := by decide +kernel
theorem dX5_countVertices_18 : decode cX5_countVertices 18 = .ok (.if_icmp .ge 23, 3) := by decide +kernel
theorem dX5_countVertices_21 : decode cX5_countVertices 21 = .ok (.aload_n 0, 1) := by decide +kernel
theorem dX5_countVertices_22 : decode cX5_countVertices 22 = .ok (.getfield 15, 3) := by decide +kernel
theorem dX5_countVertices_25 : decode cX5_countVertices 25 = .ok (.iload_n 2, 1) := by decide +kernel
theorem dX5_countVertices_26 : decode cX5_countVertices 26 = .ok (.invokevirtual 45, 3) := by decide +kernel
theorem dX5_countVertices_29 : decode cX5_countVertices 29 = .ok (.ifCond .eq 6, 3) := by decide +kernel
theorem dX5_countVertices_32 : decode cX5_countVertices 32 = .ok (.iinc 1 1, 3) := by decide +kernel
theorem dX5_countVertices_35 : decode cX5_countVertices 35 = .ok (.iinc 2 1, 3) := by decide +kernel
theorem dX5_countVertices_38 : decode cX5_countVertices 38 = .ok (.goto (-28), 3) := by decide +kernel
theorem dX5_countVertices_41 : decode cX5_countVertices 41 = .ok (.iload_n 1, 1) := by decide +kernel
theorem dX5_countVertices_42 : decode cX5_countVertices 42 = .ok (.ireturn, 1) := by decide +kernel
theorem dX5_join_0 : decode cX5_join 0 = .ok (.aload_n 0, 1) := by decide +kernel
theorem dX5_join_1 : decode cX5_join 1 = .ok (.getfield 9, 3) := by decide +kernel
theorem dX5_join_4 : decode cX5_join 4 = .ok (.aload_n 0, 1) := by decide +kernel
theorem dX5_join_5 : decode cX5_join 5 = .ok (.getfield 15, 3) := by decide +kernel
theorem dX5_join_8 : decode cX5_join 8 = .ok (.getfield 48, 3) := by decide +kernel
theorem dX5_join_11 : decode cX5_join 11 = .ok (.iload_n 1, 1) := by decide +kernel
theorem dX5_join_12 : decode cX5_join 12 = .ok (.iaload, 1) := by decide +kernel
theorem dX5_join_13 : decode cX5_join 13 = .ok (.iaload, 1) := by decide +kernel
theorem dX5_join_14 : decode cX5_join 14 = .ok (.istore_n 2, 1) := by decide +kernel
theorem dX5_join_15 : decode cX5_join 15 = .ok (.aload_n 0, 1) := by decide +kernel
theorem dX5_join_16 : decode cX5_join 16 = .ok (.getfield 9, 3) := by decide +kernel
theorem dX5_join_19 : decode cX5_join 19 = .ok (.bipush 10, 2) := by decide +kernel
theorem dX5_join_21 : decode cX5_join 21 = .ok (.aload_n 0, 1) := by decide +kernel
theorem dX5_join_22 : decode cX5_join 22 = .ok (.getfield 15, 3) := by decide +kernel
theorem dX5_join_25 : decode cX5_join 25 = .ok (.getfield 51, 3) := by decide +kernel
theorem dX5_join_28 : decode cX5_join 28 = .ok (.iload_n 1, 1) := by decide +kernel
theorem dX5_join_29 : decode cX5_join 29 = .ok (.iaload, 1) := by decide +kernel
theorem dX5_join_30 : decode cX5_join 30 = .ok (.iadd, 1) := by decide +kernel
theorem dX5_join_31 : decode cX5_join 31 = .ok (.iaload, 1) := by decide +kernel
theorem dX5_join_32 : decode cX5_join 32 = .ok (.istore_n 3, 1) := by decide +kernel
theorem dX5_join_33 : decode cX5_join 33 = .ok (.iload_n 2, 1) := by decide +kernel
theorem dX5_join_34 : decode cX5_join 34 = .ok (.iload_n 3, 1) := by decide +kernel
theorem dX5_join_35 : decode cX5_join 35 = .ok (.if_icmp .ne 5, 3) := by decide +kernel
theorem dX5_join_38 : decode cX5_join 38 = .ok (.iconst 0, 1) := by decide +kernel
theorem dX5_join_39 : decode cX5_join 39 = .ok (.ireturn, 1) := by decide +kernel
theorem dX5_join_40 : decode cX5_join 40 = .ok (.iconst 0, 1) := by decide +kernel
theorem dX5_join_41 : decode cX5_join 41 = .ok (.istore 4, 2) := by decide +kernel
theorem dX5_join_43 : decode cX5_join 43 = .ok (.iload 4, 2) := by decide +kernel
theorem dX5_join_45 : decode cX5_join 45 = .ok (.aload_n 0, 1) := by decide +kernel
theorem dX5_join_46 : decode cX5_join 46 = .ok (.getfield 9, 3) := by decide +kernel
theorem dX5_join_49 : decode cX5_join 49 = .ok (.arraylength, 1) := by decide +kernel
theorem dX5_join_50 : decode cX5_join 50 = .ok (.if_icmp .ge 28, 3) := by decide +kernel
theorem dX5_join_53 : decode cX5_join 53 = .ok (.aload_n 0, 1) := by decide +kernel
theorem dX5_join_54 : decode cX5_join 54 = .ok (.getfield 9, 3) := by decide +kernel
theorem dX5_join_57 : decode cX5_join 57 = .ok (.iload 4, 2) := by decide +kernel
theorem dX5_join_59 : decode cX5_join 59 = .ok (.iaload, 1) := by decide +kernel
theorem dX5_join_60 : decode cX5_join 60 = .ok (.iload_n 3, 1) := by decide +kernel
theorem dX5_join_61 : decode cX5_join 61 = .ok (.if_icmp .ne 11, 3) := by decide +kernel
theorem dX5_join_64 : decode cX5_join 64 = .ok (.aload_n 0, 1) := by decide +kernel
theorem dX5_join_65 : decode cX5_join 65 = .ok (.getfield 9, 3) := by decide +kernel
theorem dX5_join_68 : decode cX5_join 68 = .ok (.iload 4, 2) := by decide +kernel
theorem dX5_join_70 : decode cX5_join 70 = .ok (.iload_n 2, 1) := by decide +kernel
theorem dX5_join_71 : decode cX5_join 71 = .ok (.iastore, 1) := by decide +kernel
theorem dX5_join_72 : decode cX5_join 72 = .ok (.iinc 4 1, 3) := by decide +kernel
theorem dX5_join_75 : decode cX5_join 75 = .ok (.goto (-32), 3) := by decide +kernel
theorem dX5_join_78 : decode cX5_join 78 = .ok (.iconst 1, 1) := by decide +kernel
theorem dX5_join_79 : decode cX5_join 79 = .ok (.ireturn, 1) := by decide +kernel
theorem dX6_init_0 : decode cX6_init 0 = .ok (.aload_n 0, 1) := by decide +kernel
theorem dX6_init_1 : decode cX6_init 1 = .ok (.invokespecial 1, 3) := by decide +kernel
theorem dX6_init_4 : decode cX6_init 4 = .ok (.new 7, 3) := by decide +kernel
theorem dX6_init_7 : decode cX6_init 7 = .ok (.dup, 1) := by decide +kernel
theorem dX6_init_8 : decode cX6_init 8 = .ok (.invokespecial 9, 3) := by decide +kernel
theorem dX6_init_11 : decode cX6_init 11 = .ok (.astore_n 1, 1) := by decide +kernel
theorem dX6_init_12 : decode cX6_init 12 = .ok (.new 10, 3) := by decide +kernel
theorem dX6_init_15 : decode cX6_init 15 = .ok (.dup, 1) := by decide +kernel
theorem dX6_init_16 : decode cX6_init 16 = .ok (.aload_n 1, 1) := by decide +kernel
theorem dX6_init_17 : decode cX6_init 17 = .ok (.invokespecial 12, 3) := by decide +kernel
theorem dX6_init_20 : decode cX6_init 20 = .ok (.astore_n 2, 1) := by decide +kernel
theorem dX6_init_21 : decode cX6_init 21 = .ok (.aload_n 0, 1) := by decide +kernel
theorem dX6_init_22 : decode cX6_init 22 = .ok (.aload_n 1, 1) := by decide +kernel
theorem dX6_init_23 : decode cX6_init 23 = .ok (.putfield 15, 3) := by decide +kernel
theorem dX6_init_26 : decode cX6_init 26 = .ok (.aload_n 0, 1) := by decide +kernel
theorem dX6_init_27 : decode cX6_init 27 = .ok (.aload_n 2, 1) := by decide +kernel
theorem dX6_init_28 : decode cX6_init 28 = .ok (.putfield 21, 3) := by decide +kernel
theorem dX6_init_31 : decode cX6_init 31 = .ok (.aload_n 0, 1) := by decide +kernel
theorem dX6_init_32 : decode cX6_init 32 = .ok (.new 25, 3) := by decide +kernel
theorem dX6_init_35 : decode cX6_init 35 = .ok (.dup, 1) := by decide +kernel
theorem dX6_init_36 : decode cX6_init 36 = .ok (.aload_n 1, 1) := by decide +kernel
theorem dX6_init_37 : decode cX6_init 37 = .ok (.aload_n 2, 1) := by decide +kernel
theorem dX6_init_38 : decode cX6_init 38 = .ok (.invokespecial 27, 3) := by decide +kernel
theorem dX6_init_41 : decode cX6_init 41 = .ok (.putfield 30, 3) := by decide +kernel
theorem dX6_init_44 : decode cX6_init 44 = .ok (.aload_n 0, 1) := by decide +kernel
theorem dX6_init_45 : decode cX6_init 45 = .ok (.new 34, 3) := by decide +kernel
theorem dX6_init_48 : decode cX6_init 48 = .ok (.dup, 1) := by decide +kernel
theorem dX6_init_49 : decode cX6_init 49 = .ok (.aload_n 1, 1) := by decide +kernel
theorem dX6_init_50 : decode cX6_init 50 = .ok (.invokespecial 36, 3) := by decide +kernel
theorem dX6_init_53 : decode cX6_init 53 = .ok (.putfield 37, 3) := by decide +kernel
theorem dX6_init_56 : decode cX6_init 56 = .ok (.aload_n 0, 1) := by decide +kernel
theorem dX6_init_57 : decode cX6_init 57 = .ok (.new 41, 3) := by decide +kernel
theorem dX6_init_60 : decode cX6_init 60 = .ok (.dup, 1) := by decide +kernel
theorem dX6_init_61 : decode cX6_init 61 = .ok (.aload_n 1, 1) := by decide +kernel
theorem dX6_init_62 : decode cX6_init 62 = .ok (.invokespecial 43, 3) := by decide +kernel
theorem dX6_init_65 : decode cX6_init 65 = .ok (.putfield 44, 3) := by decide +kernel
theorem dX6_init_68 : decode cX6_init 68 = .ok (.aload_n 0, 1) := by decide +kernel
theorem dX6_init_69 : decode cX6_init 69 = .ok (.iconst 2, 1) := by decide +kernel
theorem dX6_init_70 : decode cX6_init 70 = .ok (.anewarray 7, 3) := by decide +kernel
theorem dX6_init_73 : decode cX6_init 73 = .ok (.putfield 48, 3) := by decide +kernel
theorem dX6_init_76 : decode cX6_init 76 = .ok (.return_, 1) := by decide +kernel
theorem dX6_addBridge_0 : decode cX6_addBridge 0 = .ok (.iload_n 1, 1) := by decide +kernel
theorem dX6_addBridge_1 : decode cX6_addBridge 1 = .ok (.invokestatic 52, 3) := by decide +kernel
theorem dX6_addBridge_4 : decode cX6_addBridge 4 = .ok (.ifCond .ne 6, 3) := by decide +kernel
theorem dX6_addBridge_7 : decode cX6_addBridge 7 = .ok (.bipush (-5), 2) := by decide +kernel
theorem dX6_addBridge_9 : decode cX6_addBridge 9 = .ok (.ireturn, 1) := by decide +kernel
theorem dX6_addBridge_10 : decode cX6_addBridge 10 = .ok (.aload_n 0, 1) := by decide +kernel
theorem dX6_addBridge_11 : decode cX6_addBridge 11 = .ok (.getfield 15, 3) := by decide +kernel
theorem dX6_addBridge_14 : decode cX6_addBridge 14 = .ok (.getfield 56, 3) := by decide +kernel
theorem dX6_addBridge_17 : decode cX6_addBridge 17 = .ok (.bipush 8, 2) := by decide +kernel
theorem dX6_addBridge_19 : decode cX6_addBridge 19 = .ok (.if_icmp .lt 6, 3) := by decide +kernel
theorem dX6_addBridge_22 : decode cX6_addBridge 22 = .ok (.bipush (-6), 2) := by decide +kernel
theorem dX6_addBridge_24 : decode cX6_addBridge 24 = .ok (.ireturn, 1) := by decide +kernel
theorem dX6_addBridge_25 : decode cX6_addBridge 25 = .ok (.aload_n 0, 1) := by decide +kernel
theorem dX6_addBridge_26 : decode cX6_addBridge 26 = .ok (.getfield 15, 3) := by decide +kernel
theorem dX6_addBridge_29 : decode cX6_addBridge 29 = .ok (.iload_n 1, 1) := by decide +kernel
theorem dX6_addBridge_30 : decode cX6_addBridge 30 = .ok (.invokevirtual 60, 3) := by decide +kernel
theorem dX6_addBridge_33 : decode cX6_addBridge 33 = .ok (.ireturn, 1) := by decide +kernel
theorem dX6_addSegment_0 : decode cX6_addSegment 0 = .ok (.aload_n 0, 1) := by decide +kernel
theorem dX6_addSegment_1 : decode cX6_addSegment 1 = .ok (.getfield 15, 3) := by decide +kernel
theorem dX6_addSegment_4 : decode cX6_addSegment 4 = .ok (.getfield 64, 3) := by decide +kernel
theorem dX6_addSegment_7 : decode cX6_addSegment 7 = .ok (.bipush 10, 2) := by decide +kernel
theorem dX6_addSegment_9 : decode cX6_addSegment 9 = .ok (.if_icmp .lt 6, 3) := by decide +kernel
theorem dX6_addSegment_12 : decode cX6_addSegment 12 = .ok (.bipush (-6), 2) := by decide +kernel
theorem dX6_addSegment_14 : decode cX6_addSegment 14 = .ok (.ireturn, 1) := by decide +kernel
theorem dX6_addSegment_15 : decode cX6_addSegment 15 = .ok (.aload_n 0, 1) := by decide +kernel
theorem dX6_addSegment_16 : decode cX6_addSegment 16 = .ok (.getfield 15, 3) := by decide +kernel
theorem dX6_addSegment_19 : decode cX6_addSegment 19 = .ok (.invokevirtual 67, 3) := by decide +kernel
theorem dX6_addSegment_22 : decode cX6_addSegment 22 = .ok (.ireturn, 1) := by decide +kernel
theorem dX6_addPort_0 : decode cX6_addPort 0 = .ok (.aload_n 0, 1) := by decide +kernel
theorem dX6_addPort_1 : decode cX6_addPort 1 = .ok (.getfield 15, 3) := by decide +kernel
theorem dX6_addPort_4 : decode cX6_addPort 4 = .ok (.iload_n 1, 1) := by decide +kernel
theorem dX6_addPort_5 : decode cX6_addPort 5 = .ok (.invokevirtual 71, 3) := by decide +kernel
theorem dX6_addPort_8 : decode cX6_addPort 8 = .ok (.ifCond .ne 5, 3) := by decide +kernel
theorem dX6_addPort_11 : decode cX6_addPort 11 = .ok (.iconst (-1), 1) := by decide +kernel
theorem dX6_addPort_12 : decode cX6_addPort 12 = .ok (.ireturn, 1) := by decide +kernel
theorem dX6_addPort_13 : decode cX6_addPort 13 = .ok (.aload_n 0, 1) := by decide +kernel
theorem dX6_addPort_14 : decode cX6_addPort 14 = .ok (.getfield 15, 3) := by decide +kernel
theorem dX6_addPort_17 : decode cX6_addPort 17 = .ok (.iload_n 2, 1) := by decide +kernel
theorem dX6_addPort_18 : decode cX6_addPort 18 = .ok (.invokevirtual 74, 3) := by decide +kernel
theorem dX6_addPort_21 : decode cX6_addPort 21 = .ok (.ifCond .ne 6, 3) := by decide +kernel
theorem dX6_addPort_24 : decode cX6_addPort 24 = .ok (.bipush (-2), 2) := by decide +kernel
theorem dX6_addPort_26 : decode cX6_addPort 26 = .ok (.ireturn, 1) := by decide +kernel
theorem dX6_addPort_27 : decode cX6_addPort 27 = .ok (.iload_n 3, 1) := by decide +kernel
theorem dX6_addPort_28 : decode cX6_addPort 28 = .ok (.invokestatic 77, 3) := by decide +kernel
theorem dX6_addPort_31 : decode cX6_addPort 31 = .ok (.ifCond .ne 6, 3) := by decide +kernel
theorem dX6_addPort_34 : decode cX6_addPort 34 = .ok (.bipush (-5), 2) := by decide +kernel
theorem dX6_addPort_36 : decode cX6_addPort 36 = .ok (.ireturn, 1) := by decide +kernel
theorem dX6_addPort_37 : decode cX6_addPort 37 = .ok (.aload_n 0, 1) := by decide +kernel
theorem dX6_addPort_38 : decode cX6_addPort 38 = .ok (.getfield 15, 3) := by decide +kernel
theorem dX6_addPort_41 : decode cX6_addPort 41 = .ok (.getfield 80, 3) := by decide +kernel
theorem dX6_addPort_44 : decode cX6_addPort 44 = .ok (.bipush 24, 2) := by decide +kernel
theorem dX6_addPort_46 : decode cX6_addPort 46 = .ok (.if_icmp .lt 6, 3) := by decide +kernel
theorem dX6_addPort_49 : decode cX6_addPort 49 = .ok (.bipush (-6), 2) := by decide +kernel
theorem dX6_addPort_51 : decode cX6_addPort 51 = .ok (.ireturn, 1) := by decide +kernel
theorem dX6_addPort_52 : decode cX6_addPort 52 = .ok (.aload_n 0, 1) := by decide +kernel
theorem dX6_addPort_53 : decode cX6_addPort 53 = .ok (.getfield 15, 3) := by decide +kernel
theorem dX6_addPort_56 : decode cX6_addPort 56 = .ok (.iload_n 1, 1) := by decide +kernel
theorem dX6_addPort_57 : decode cX6_addPort 57 = .ok (.iload_n 2, 1) := by decide +kernel
theorem dX6_addPort_58 : decode cX6_addPort 58 = .ok (.iload_n 3, 1) := by decide +kernel
theorem dX6_addPort_59 : decode cX6_addPort 59 = .ok (.invokevirtual 83, 3) := by decide +kernel
theorem dX6_addPort_62 : decode cX6_addPort 62 = .ok (.ireturn, 1) := by decide +kernel
theorem dX6_addStation_0 : decode cX6_addStation 0 = .ok (.aload_n 0, 1) := by decide +kernel
theorem dX6_addStation_1 : decode cX6_addStation 1 = .ok (.getfield 15, 3) := by decide +kernel
theorem dX6_addStation_4 : decode cX6_addStation 4 = .ok (.iload_n 1, 1) := by decide +kernel
theorem dX6_addStation_5 : decode cX6_addStation 5 = .ok (.invokevirtual 74, 3) := by decide +kernel
theorem dX6_addStation_8 : decode cX6_addStation 8 = .ok (.ifCond .ne 6, 3) := by decide +kernel
theorem dX6_addStation_11 : decode cX6_addStation 11 = .ok (.bipush (-2), 2) := by decide +kernel
theorem dX6_addStation_13 : decode cX6_addStation 13 = .ok (.ireturn, 1) := by decide +kernel
theorem dX6_addStation_14 : decode cX6_addStation 14 = .ok (.aload_n 0, 1) := by decide +kernel
theorem dX6_addStation_15 : decode cX6_addStation 15 = .ok (.getfield 15, 3) := by decide +kernel
theorem dX6_addStation_18 : decode cX6_addStation 18 = .ok (.getfield 87, 3) := by decide +kernel
theorem dX6_addStation_21 : decode cX6_addStation 21 = .ok (.bipush 8, 2) := by decide +kernel
theorem dX6_addStation_23 : decode cX6_addStation 23 = .ok (.if_icmp .lt 6, 3) := by decide +kernel
theorem dX6_addStation_26 : decode cX6_addStation 26 = .ok (.bipush (-6), 2) := by decide +kernel
theorem dX6_addStation_28 : decode cX6_addStation 28 = .ok (.ireturn, 1) := by decide +kernel
theorem dX6_addStation_29 : decode cX6_addStation 29 = .ok (.aload_n 0, 1) := by decide +kernel
theorem dX6_addStation_30 : decode cX6_addStation 30 = .ok (.getfield 15, 3) := by decide +kernel
theorem dX6_addStation_33 : decode cX6_addStation 33 = .ok (.iload_n 1, 1) := by decide +kernel
theorem dX6_addStation_34 : decode cX6_addStation 34 = .ok (.invokevirtual 90, 3) := by decide +kernel
theorem dX6_addStation_37 : decode cX6_addStation 37 = .ok (.ireturn, 1) := by decide +kernel
theorem dX6_setPriority_0 : decode cX6_setPriority 0 = .ok (.aload_n 0, 1) := by decide +kernel
theorem dX6_setPriority_1 : decode cX6_setPriority 1 = .ok (.getfield 15, 3) := by decide +kernel
theorem dX6_setPriority_4 : decode cX6_setPriority 4 = .ok (.iload_n 1, 1) := by decide +kernel
theorem dX6_setPriority_5 : decode cX6_setPriority 5 = .ok (.invokevirtual 71, 3) := by decide +kernel
theorem dX6_setPriority_8 : decode cX6_setPriority 8 = .ok (.ifCond .ne 5, 3) := by decide +kernel
theorem dX6_setPriority_11 : decode cX6_setPriority 11 = .ok (.iconst (-1), 1) := by decide +kernel
theorem dX6_setPriority_12 : decode cX6_setPriority 12 = .ok (.ireturn, 1) := by decide +kernel
theorem dX6_setPriority_13 : decode cX6_setPriority 13 = .ok (.iload_n 2, 1) := by decide +kernel
theorem dX6_setPriority_14 : decode cX6_setPriority 14 = .ok (.invokestatic 52, 3) := by decide +kernel
theorem dX6_setPriority_17 : decode cX6_setPriority 17 = .ok (.ifCond .ne 6, 3) := by decide +kernel
theorem dX6_setPriority_20 : decode cX6_setPriority 20 = .ok (.bipush (-5), 2) := by decide +kernel
theorem dX6_setPriority_22 : decode cX6_setPriority 22 = .ok (.ireturn, 1) := by decide +kernel
theorem dX6_setPriority_23 : decode cX6_setPriority 23 = .ok (.aload_n 0, 1) := by decide +kernel
theorem dX6_setPriority_24 : decode cX6_setPriority 24 = .ok (.getfield 15, 3) := by decide +kernel
theorem dX6_setPriority_27 : decode cX6_setPriority 27 = .ok (.getfield 93, 3) := by decide +kernel
theorem dX6_setPriority_30 : decode cX6_setPriority 30 = .ok (.iload_n 1, 1) := by decide +kernel
theorem dX6_setPriority_31 : decode cX6_setPriority 31 = .ok (.iaload, 1) := by decide +kernel
theorem dX6_setPriority_32 : decode cX6_setPriority 32 = .ok (.istore_n 3, 1) := by decide +kernel
theorem dX6_setPriority_33 : decode cX6_setPriority 33 = .ok (.aload_n 0, 1) := by decide +kernel
theorem dX6_setPriority_34 : decode cX6_setPriority 34 = .ok (.getfield 15, 3) := by decide +kernel
theorem dX6_setPriority_37 : decode cX6_setPriority 37 = .ok (.getfield 93, 3) := by decide +kernel
theorem dX6_setPriority_40 : decode cX6_setPriority 40 = .ok (.iload_n 1, 1) := by decide +kernel
theorem dX6_setPriority_41 : decode cX6_setPriority 41 = .ok (.iload_n 2, 1) := by decide +kernel
theorem dX6_setPriority_42 : decode cX6_setPriority 42 = .ok (.iastore, 1) := by decide +kernel
theorem dX6_setPriority_43 : decode cX6_setPriority 43 = .ok (.iload_n 3, 1) := by decide +kernel
theorem dX6_setPriority_44 : decode cX6_setPriority 44 = .ok (.ireturn, 1) := by decide +kernel
theorem dX6_setCost_0 : decode cX6_setCost 0 = .ok (.aload_n 0, 1) := by decide +kernel
theorem dX6_setCost_1 : decode cX6_setCost 1 = .ok (.getfield 15, 3) := by decide +kernel
theorem dX6_setCost_4 : decode cX6_setCost 4 = .ok (.iload_n 1, 1) := by decide +kernel
theorem dX6_setCost_5 : decode cX6_setCost 5 = .ok (.invokevirtual 97, 3) := by decide +kernel
theorem dX6_setCost_8 : decode cX6_setCost 8 = .ok (.ifCond .ne 6, 3) := by decide +kernel
theorem dX6_setCost_11 : decode cX6_setCost 11 = .ok (.bipush (-3), 2) := by decide +kernel
theorem dX6_setCost_13 : decode cX6_setCost 13 = .ok (.ireturn, 1) := by decide +kernel
theorem dX6_setCost_14 : decode cX6_setCost 14 = .ok (.iload_n 2, 1) := by decide +kernel
theorem dX6_setCost_15 : decode cX6_setCost 15 = .ok (.invokestatic 77, 3) := by decide +kernel
theorem dX6_setCost_18 : decode cX6_setCost 18 = .ok (.ifCond .ne 6, 3) := by decide +kernel
theorem dX6_setCost_21 : decode cX6_setCost 21 = .ok (.bipush (-5), 2) := by decide +kernel
theorem dX6_setCost_23 : decode cX6_setCost 23 = .ok (.ireturn, 1) := by decide +kernel
theorem dX6_setCost_24 : decode cX6_setCost 24 = .ok (.aload_n 0, 1) := by decide +kernel
theorem dX6_setCost_25 : decode cX6_setCost 25 = .ok (.getfield 15, 3) := by decide +kernel
theorem dX6_setCost_28 : decode cX6_setCost 28 = .ok (.getfield 100, 3) := by decide +kernel
theorem dX6_setCost_31 : decode cX6_setCost 31 = .ok (.iload_n 1, 1) := by decide +kernel
theorem dX6_setCost_32 : decode cX6_setCost 32 = .ok (.iaload, 1) := by decide +kernel
theorem dX6_setCost_33 : decode cX6_setCost 33 = .ok (.istore_n 3, 1) := by decide +kernel
theorem dX6_setCost_34 : decode cX6_setCost 34 = .ok (.aload_n 0, 1) := by decide +kernel
theorem dX6_setCost_35 : decode cX6_setCost 35 = .ok (.getfield 15, 3) := by decide +kernel
theorem dX6_setCost_38 : decode cX6_setCost 38 = .ok (.getfield 100, 3) := by decide +kernel
theorem dX6_setCost_41 : decode cX6_setCost 41 = .ok (.iload_n 1, 1) := by decide +kernel
theorem dX6_setCost_42 : decode cX6_setCost 42 = .ok (.iload_n 2, 1) := by decide +kernel
theorem dX6_setCost_43 : decode cX6_setCost 43 = .ok (.iastore, 1) := by decide +kernel
theorem dX6_setCost_44 : decode cX6_setCost 44 = .ok (.iload_n 3, 1) := by decide +kernel
theorem dX6_setCost_45 : decode cX6_setCost 45 = .ok (.ireturn, 1) := by decide +kernel
theorem dX6_setBridge_0 : decode cX6_setBridge 0 = .ok (.aload_n 0, 1) := by decide +kernel
theorem dX6_setBridge_1 : decode cX6_setBridge 1 = .ok (.getfield 15, 3) := by decide +kernel
theorem dX6_setBridge_4 : decode cX6_setBridge 4 = .ok (.iload_n 1, 1) := by decide +kernel
theorem dX6_setBridge_5 : decode cX6_setBridge 5 = .ok (.invokevirtual 71, 3) := by decide +kernel
theorem dX6_setBridge_8 : decode cX6_setBridge 8 = .ok (.ifCond .ne 5, 3) := by decide +kernel
theorem dX6_setBridge_11 : decode cX6_setBridge 11 = .ok (.iconst (-1), 1) := by decide +kernel
theorem dX6_setBridge_12 : decode cX6_setBridge 12 = .ok (.ireturn, 1) := by decide +kernel
theorem dX6_setBridge_13 : decode cX6_setBridge 13 = .ok (.aload_n 0, 1) := by decide +kernel
theorem dX6_setBridge_14 : decode cX6_setBridge 14 = .ok (.getfield 15, 3) := by decide +kernel
theorem dX6_setBridge_17 : decode cX6_setBridge 17 = .ok (.iload_n 1, 1) := by decide +kernel
theorem dX6_setBridge_18 : decode cX6_setBridge 18 = .ok (.iload_n 2, 1) := by decide +kernel
theorem dX6_setBridge_19 : decode cX6_setBridge 19 = .ok (.ifCond .eq 7, 3) := by decide +kernel
theorem dX6_setBridge_22 : decode cX6_setBridge 22 = .ok (.iconst 1, 1) := by decide +kernel
theorem dX6_setBridge_23 : decode cX6_setBridge 23 = .ok (.goto 4, 3) := by decide +kernel
theorem dX6_setBridge_26 : decode cX6_setBridge 26 = .ok (.iconst 0, 1) := by decide +kernel
theorem dX6_setBridge_27 : decode cX6_setBridge 27 = .ok (.invokevirtual 103, 3) := by decide +kernel
theorem dX6_setBridge_30 : decode cX6_setBridge 30 = .ok (.ireturn, 1) := by decide +kernel
theorem dX6_setPort_0 : decode cX6_setPort 0 = .ok (.aload_n 0, 1) := by decide +kernel
theorem dX6_setPort_1 : decode cX6_setPort 1 = .ok (.getfield 15, 3) := by decide +kernel
theorem dX6_setPort_4 : decode cX6_setPort 4 = .ok (.iload_n 1, 1) := by decide +kernel
theorem dX6_setPort_5 : decode cX6_setPort 5 = .ok (.invokevirtual 97, 3) := by decide +kernel
theorem dX6_setPort_8 : decode cX6_setPort 8 = .ok (.ifCond .ne 6, 3) := by decide +kernel
theorem dX6_setPort_11 : decode cX6_setPort 11 = .ok (.bipush (-3), 2) := by decide +kernel
theorem dX6_setPort_13 : decode cX6_setPort 13 = .ok (.ireturn, 1) := by decide +kernel
theorem dX6_setPort_14 : decode cX6_setPort 14 = .ok (.aload_n 0, 1) := by decide +kernel
theorem dX6_setPort_15 : decode cX6_setPort 15 = .ok (.getfield 15, 3) := by decide +kernel
theorem dX6_setPort_18 : decode cX6_setPort 18 = .ok (.iload_n 1, 1) := by decide +kernel
theorem dX6_setPort_19 : decode cX6_setPort 19 = .ok (.iload_n 2, 1) := by decide +kernel
theorem dX6_setPort_20 : decode cX6_setPort 20 = .ok (.ifCond .eq 7, 3) := by decide +kernel
theorem dX6_setPort_23 : decode cX6_setPort 23 = .ok (.iconst 1, 1) := by decide +kernel
theorem dX6_setPort_24 : decode cX6_setPort 24 = .ok (.goto 4, 3) := by decide +kernel
theorem dX6_setPort_27 : decode cX6_setPort 27 = .ok (.iconst 0, 1) := by decide +kernel
theorem dX6_setPort_28 : decode cX6_setPort 28 = .ok (.invokevirtual 107, 3) := by decide +kernel
theorem dX6_setPort_31 : decode cX6_setPort 31 = .ok (.ireturn, 1) := by decide +kernel
theorem dX6_moveStation_0 : decode cX6_moveStation 0 = .ok (.aload_n 0, 1) := by decide +kernel
theorem dX6_moveStation_1 : decode cX6_moveStation 1 = .ok (.getfield 15, 3) := by decide +kernel
theorem dX6_moveStation_4 : decode cX6_moveStation 4 = .ok (.iload_n 1, 1) := by decide +kernel
theorem dX6_moveStation_5 : decode cX6_moveStation 5 = .ok (.invokevirtual 110, 3) := by decide +kernel
theorem dX6_moveStation_8 : decode cX6_moveStation 8 = .ok (.ifCond .ne 6, 3) := by decide +kernel
theorem dX6_moveStation_11 : decode cX6_moveStation 11 = .ok (.bipush (-4), 2) := by decide +kernel
theorem dX6_moveStation_13 : decode cX6_moveStation 13 = .ok (.ireturn, 1) := by decide +kernel
theorem dX6_moveStation_14 : decode cX6_moveStation 14 = .ok (.aload_n 0, 1) := by decide +kernel
theorem dX6_moveStation_15 : decode cX6_moveStation 15 = .ok (.getfield 15, 3) := by decide +kernel
theorem dX6_moveStation_18 : decode cX6_moveStation 18 = .ok (.iload_n 2, 1) := by decide +kernel
theorem dX6_moveStation_19 : decode cX6_moveStation 19 = .ok (.invokevirtual 74, 3) := by decide +kernel
theorem dX6_moveStation_22 : decode cX6_moveStation 22 = .ok (.ifCond .ne 6, 3) := by decide +kernel
theorem dX6_moveStation_25 : decode cX6_moveStation 25 = .ok (.bipush (-2), 2) := by decide +kernel
theorem dX6_moveStation_27 : decode cX6_moveStation 27 = .ok (.ireturn, 1) := by decide +kernel
theorem dX6_moveStation_28 : decode cX6_moveStation 28 = .ok (.aload_n 0, 1) := by decide +kernel
theorem dX6_moveStation_29 : decode cX6_moveStation 29 = .ok (.getfield 15, 3) := by decide +kernel
theorem dX6_moveStation_32 : decode cX6_moveStation 32 = .ok (.getfield 113, 3) := by decide +kernel
theorem dX6_moveStation_35 : decode cX6_moveStation 35 = .ok (.iload_n 1, 1) := by decide +kernel
theorem dX6_moveStation_36 : decode cX6_moveStation 36 = .ok (.iaload, 1) := by decide +kernel
theorem dX6_moveStation_37 : decode cX6_moveStation 37 = .ok (.istore_n 3, 1) := by decide +kernel
theorem dX6_moveStation_38 : decode cX6_moveStation 38 = .ok (.aload_n 0, 1) := by decide +kernel
theorem dX6_moveStation_39 : decode cX6_moveStation 39 = .ok (.getfield 15, 3) := by decide +kernel
theorem dX6_moveStation_42 : decode cX6_moveStation 42 = .ok (.getfield 113, 3) := by decide +kernel
theorem dX6_moveStation_45 : decode cX6_moveStation 45 = .ok (.iload_n 1, 1) := by decide +kernel
theorem dX6_moveStation_46 : decode cX6_moveStation 46 = .ok (.iload_n 2, 1) := by decide +kernel
theorem dX6_moveStation_47 : decode cX6_moveStation 47 = .ok (.iastore, 1) := by decide +kernel
theorem dX6_moveStation_48 : decode cX6_moveStation 48 = .ok (.iload_n 3, 1) := by decide +kernel
theorem dX6_moveStation_49 : decode cX6_moveStation 49 = .ok (.ireturn, 1) := by decide +kernel
theorem dX6_tick_0 : decode cX6_tick 0 = .ok (.iload_n 1, 1) := by decide +kernel
theorem dX6_tick_1 : decode cX6_tick 1 = .ok (.iconst 1, 1) := by decide +kernel
theorem dX6_tick_2 : decode cX6_tick 2 = .ok (.if_icmp .lt 9, 3) := by decide +kernel
theorem dX6_tick_5 : decode cX6_tick 5 = .ok (.iload_n 1, 1) := by decide +kernel
theorem dX6_tick_6 : decode cX6_tick 6 = .ok (.bipush 50, 2) := by decide +kernel
theorem dX6_tick_8 : decode cX6_tick 8 = .ok (.if_icmp .le 6, 3) := by decide +kernel
theorem dX6_tick_11 : decode cX6_tick 11 = .ok (.bipush (-5), 2) := by decide +kernel
theorem dX6_tick_13 : decode cX6_tick 13 = .ok (.ireturn, 1) := by decide +kernel
theorem dX6_tick_14 : decode cX6_tick 14 = .ok (.aload_n 0, 1) := by decide +kernel
theorem dX6_tick_15 : decode cX6_tick 15 = .ok (.getfield 21, 3) := by decide +kernel
theorem dX6_tick_18 : decode cX6_tick 18 = .ok (.invokevirtual 116, 3) := by decide +kernel
theorem dX6_tick_21 : decode cX6_tick 21 = .ok (.pop, 1) := by decide +kernel
theorem dX6_tick_22 : decode cX6_tick 22 = .ok (.iconst 0, 1) := by decide +kernel
theorem dX6_tick_23 : decode cX6_tick 23 = .ok (.istore_n 2, 1) := by decide +kernel
theorem dX6_tick_24 : decode cX6_tick 24 = .ok (.iload_n 2, 1) := by decide +kernel
theorem dX6_tick_25 : decode cX6_tick 25 = .ok (.iload_n 1, 1) := by decide +kernel
theorem dX6_tick_26 : decode cX6_tick 26 = .ok (.if_icmp .ge 17, 3) := by decide +kernel
theorem dX6_tick_29 : decode cX6_tick 29 = .ok (.aload_n 0, 1) := by decide +kernel
theorem dX6_tick_30 : decode cX6_tick 30 = .ok (.getfield 30, 3) := by decide +kernel
theorem dX6_tick_33 : decode cX6_tick 33 = .ok (.invokevirtual 120, 3) := by decide +kernel
theorem dX6_tick_36 : decode cX6_tick 36 = .ok (.pop, 1) := by decide +kernel
theorem dX6_tick_37 : decode cX6_tick 37 = .ok (.iinc 2 1, 3) := by decide +kernel
theorem dX6_tick_40 : decode cX6_tick 40 = .ok (.goto (-16), 3) := by decide +kernel
theorem dX6_tick_43 : decode cX6_tick 43 = .ok (.aload_n 0, 1) := by decide +kernel
theorem dX6_tick_44 : decode cX6_tick 44 = .ok (.getfield 15, 3) := by decide +kernel
theorem dX6_tick_47 : decode cX6_tick 47 = .ok (.getfield 123, 3) := by decide +kernel
theorem dX6_tick_50 : decode cX6_tick 50 = .ok (.ireturn, 1) := by decide +kernel
theorem dX6_settle_0 : decode cX6_settle 0 = .ok (.iload_n 1, 1) := by decide +kernel
theorem dX6_settle_1 : decode cX6_settle 1 = .ok (.bipush 8, 2) := by decide +kernel
theorem dX6_settle_3 : decode cX6_settle 3 = .ok (.if_icmp .lt 10, 3) := by decide +kernel
theorem dX6_settle_6 : decode cX6_settle 6 = .ok (.iload_n 1, 1) := by decide +kernel
theorem dX6_settle_7 : decode cX6_settle 7 = .ok (.sipush 200, 3) := by decide +kernel
theorem dX6_settle_10 : decode cX6_settle 10 = .ok (.if_icmp .le 6, 3) := by decide +kernel
theorem dX6_settle_13 : decode cX6_settle 13 = .ok (.bipush (-5), 2) := by decide +kernel
theorem dX6_settle_15 : decode cX6_settle 15 = .ok (.ireturn, 1) := by decide +kernel
theorem dX6_settle_16 : decode cX6_settle 16 = .ok (.aload_n 0, 1) := by decide +kernel
theorem dX6_settle_17 : decode cX6_settle 17 = .ok (.getfield 21, 3) := by decide +kernel
theorem dX6_settle_20 : decode cX6_settle 20 = .ok (.invokevirtual 116, 3) := by decide +kernel
theorem dX6_settle_23 : decode cX6_settle 23 = .ok (.pop, 1) := by decide +kernel
theorem dX6_settle_24 : decode cX6_settle 24 = .ok (.iconst 0, 1) := by decide +kernel
theorem dX6_settle_25 : decode cX6_settle 25 = .ok (.istore_n 2, 1) := by decide +kernel
theorem dX6_settle_26 : decode cX6_settle 26 = .ok (.iconst 1, 1) := by decide +kernel
theorem dX6_settle_27 : decode cX6_settle 27 = .ok (.istore_n 3, 1) := by decide +kernel
theorem dX6_settle_28 : decode cX6_settle 28 = .ok (.iload_n 3, 1) := by decide +kernel
theorem dX6_settle_29 : decode cX6_settle 29 = .ok (.iload_n 1, 1) := by decide +kernel
theorem dX6_settle_30 : decode cX6_settle 30 = .ok (.if_icmp .gt 39, 3) := by decide +kernel
theorem dX6_settle_33 : decode cX6_settle 33 = .ok (.aload_n 0, 1) := by decide +kernel
theorem dX6_settle_34 : decode cX6_settle 34 = .ok (.getfield 30, 3) := by decide +kernel
theorem dX6_settle_37 : decode cX6_settle 37 = .ok (.invokevirtual 120, 3) := by decide +kernel
theorem dX6_settle_40 : decode cX6_settle 40 = .ok (.istore 4, 2) := by decide +kernel
theorem dX6_settle_42 : decode cX6_settle 42 = .ok (.iload 4, 2) := by decide +kernel
theorem dX6_settle_44 : decode cX6_settle 44 = .ok (.ifCond .eq 7, 3) := by decide +kernel
theorem dX6_settle_47 : decode cX6_settle 47 = .ok (.iconst 0, 1) := by decide +kernel
theorem dX6_settle_48 : decode cX6_settle 48 = .ok (.goto 6, 3) := by decide +kernel
theorem dX6_settle_51 : decode cX6_settle 51 = .ok (.iload_n 2, 1) := by decide +kernel
theorem dX6_settle_52 : decode cX6_settle 52 = .ok (.iconst 1, 1) := by decide +kernel
theorem dX6_settle_53 : decode cX6_settle 53 = .ok (.iadd, 1) := by decide +kernel
theorem dX6_settle_54 : decode cX6_settle 54 = .ok (.istore_n 2, 1) := by decide +kernel
theorem dX6_settle_55 : decode cX6_settle 55 = .ok (.iload_n 2, 1) := by decide +kernel
theorem dX6_settle_56 : decode cX6_settle 56 = .ok (.bipush 8, 2) := by decide +kernel
theorem dX6_settle_58 : decode cX6_settle 58 = .ok (.if_icmp .lt 5, 3) := by decide +kernel
theorem dX6_settle_61 : decode cX6_settle 61 = .ok (.iload_n 3, 1) := by decide +kernel
theorem dX6_settle_62 : decode cX6_settle 62 = .ok (.ireturn, 1) := by decide +kernel
theorem dX6_settle_63 : decode cX6_settle 63 = .ok (.iinc 3 1, 3) := by decide +kernel
theorem dX6_settle_66 : decode cX6_settle 66 = .ok (.goto (-38), 3) := by decide +kernel
theorem dX6_settle_69 : decode cX6_settle 69 = .ok (.bipush (-7), 2) := by decide +kernel
theorem dX6_settle_71 : decode cX6_settle 71 = .ok (.ireturn, 1) := by decide +kernel
theorem dX6_identifier_0 : decode cX6_identifier 0 = .ok (.aload_n 0, 1) := by decide +kernel
theorem dX6_identifier_1 : decode cX6_identifier 1 = .ok (.getfield 15, 3) := by decide +kernel
theorem dX6_identifier_4 : decode cX6_identifier 4 = .ok (.iload_n 1, 1) := by decide +kernel
theorem dX6_identifier_5 : decode cX6_identifier 5 = .ok (.invokevirtual 71, 3) := by decide +kernel
theorem dX6_identifier_8 : decode cX6_identifier 8 = .ok (.ifCond .ne 5, 3) := by decide +kernel
theorem dX6_identifier_11 : decode cX6_identifier 11 = .ok (.iconst (-1), 1) := by decide +kernel
theorem dX6_identifier_12 : decode cX6_identifier 12 = .ok (.ireturn, 1) := by decide +kernel
theorem dX6_identifier_13 : decode cX6_identifier 13 = .ok (.aload_n 0, 1) := by decide +kernel
theorem dX6_identifier_14 : decode cX6_identifier 14 = .ok (.getfield 15, 3) := by decide +kernel
theorem dX6_identifier_17 : decode cX6_identifier 17 = .ok (.iload_n 1, 1) := by decide +kernel
theorem dX6_identifier_18 : decode cX6_identifier 18 = .ok (.invokevirtual 126, 3) := by decide +kernel
theorem dX6_identifier_21 : decode cX6_identifier 21 = .ok (.ireturn, 1) := by decide +kernel
theorem dX6_root_0 : decode cX6_root 0 = .ok (.aload_n 0, 1) := by decide +kernel
theorem dX6_root_1 : decode cX6_root 1 = .ok (.getfield 15, 3) := by decide +kernel
theorem dX6_root_4 : decode cX6_root 4 = .ok (.iload_n 1, 1) := by decide +kernel
theorem dX6_root_5 : decode cX6_root 5 = .ok (.invokevirtual 71, 3) := by decide +kernel
theorem dX6_root_8 : decode cX6_root 8 = .ok (.ifCond .ne 5, 3) := by decide +kernel
theorem dX6_root_11 : decode cX6_root 11 = .ok (.iconst (-1), 1) := by decide +kernel
theorem dX6_root_12 : decode cX6_root 12 = .ok (.ireturn, 1) := by decide +kernel
theorem dX6_root_13 : decode cX6_root 13 = .ok (.aload_n 0, 1) := by decide +kernel
theorem dX6_root_14 : decode cX6_root 14 = .ok (.getfield 15, 3) := by decide +kernel
theorem dX6_root_17 : decode cX6_root 17 = .ok (.iload_n 1, 1) := by decide +kernel
theorem dX6_root_18 : decode cX6_root 18 = .ok (.invokevirtual 129, 3) := by decide +kernel
theorem dX6_root_21 : decode cX6_root 21 = .ok (.ifCond .ne 6, 3) := by decide +kernel
theorem dX6_root_24 : decode cX6_root 24 = .ok (.bipush (-9), 2) := by decide +kernel
theorem dX6_root_26 : decode cX6_root 26 = .ok (.ireturn, 1) := by decide +kernel
theorem dX6_root_27 : decode cX6_root 27 = .ok (.aload_n 0, 1) := by decide +kernel
theorem dX6_root_28 : decode cX6_root 28 = .ok (.getfield 21, 3) := by decide +kernel
theorem dX6_root_31 : decode cX6_root 31 = .ok (.invokevirtual 116, 3) := by decide +kernel
theorem dX6_root_34 : decode cX6_root 34 = .ok (.pop, 1) := by decide +kernel
theorem dX6_root_35 : decode cX6_root 35 = .ok (.aload_n 0, 1) := by decide +kernel
theorem dX6_root_36 : decode cX6_root 36 = .ok (.getfield 21, 3) := by decide +kernel
theorem dX6_root_39 : decode cX6_root 39 = .ok (.getfield 132, 3) := by decide +kernel
theorem dX6_root_42 : decode cX6_root 42 = .ok (.iload_n 1, 1) := by decide +kernel
theorem dX6_root_43 : decode cX6_root 43 = .ok (.iaload, 1) := by decide +kernel
theorem dX6_root_44 : decode cX6_root 44 = .ok (.ireturn, 1) := by decide +kernel
theorem dX6_rootCost_0 : decode cX6_rootCost 0 = .ok (.aload_n 0, 1) := by decide +kernel
theorem dX6_rootCost_1 : decode cX6_rootCost 1 = .ok (.getfield 15, 3) := by decide +kernel
theorem dX6_rootCost_4 : decode cX6_rootCost 4 = .ok (.iload_n 1, 1) := by decide +kernel
theorem dX6_rootCost_5 : decode cX6_rootCost 5 = .ok (.invokevirtual 71, 3) := by decide +kernel
theorem dX6_rootCost_8 : decode cX6_rootCost 8 = .ok (.ifCond .ne 5, 3) := by decide +kernel
theorem dX6_rootCost_11 : decode cX6_rootCost 11 = .ok (.iconst (-1), 1) := by decide +kernel
theorem dX6_rootCost_12 : decode cX6_rootCost 12 = .ok (.ireturn, 1) := by decide +kernel
theorem dX6_rootCost_13 : decode cX6_rootCost 13 = .ok (.aload_n 0, 1) := by decide +kernel
theorem dX6_rootCost_14 : decode cX6_rootCost 14 = .ok (.getfield 15, 3) := by decide +kernel
theorem dX6_rootCost_17 : decode cX6_rootCost 17 = .ok (.iload_n 1, 1) := by decide +kernel
theorem dX6_rootCost_18 : decode cX6_rootCost 18 = .ok (.invokevirtual 129, 3) := by decide +kernel
theorem dX6_rootCost_21 : decode cX6_rootCost 21 = .ok (.ifCond .ne 6, 3) := by decide +kernel
theorem dX6_rootCost_24 : decode cX6_rootCost 24 = .ok (.bipush (-9), 2) := by decide +kernel
theorem dX6_rootCost_26 : decode cX6_rootCost 26 = .ok (.ireturn, 1) := by decide +kernel
theorem dX6_rootCost_27 : decode cX6_rootCost 27 = .ok (.aload_n 0, 1) := by decide +kernel
theorem dX6_rootCost_28 : decode cX6_rootCost 28 = .ok (.getfield 21, 3) := by decide +kernel
theorem dX6_rootCost_31 : decode cX6_rootCost 31 = .ok (.invokevirtual 116, 3) := by decide +kernel
theorem dX6_rootCost_34 : decode cX6_rootCost 34 = .ok (.pop, 1) := by decide +kernel
theorem dX6_rootCost_35 : decode cX6_rootCost 35 = .ok (.aload_n 0, 1) := by decide +kernel
theorem dX6_rootCost_36 : decode cX6_rootCost 36 = .ok (.getfield 21, 3) := by decide +kernel
theorem dX6_rootCost_39 : decode cX6_rootCost 39 = .ok (.getfield 135, 3) := by decide +kernel
theorem dX6_rootCost_42 : decode cX6_rootCost 42 = .ok (.iload_n 1, 1) := by decide +kernel
theorem dX6_rootCost_43 : decode cX6_rootCost 43 = .ok (.iaload, 1) := by decide +kernel
theorem dX6_rootCost_44 : decode cX6_rootCost 44 = .ok (.ireturn, 1) := by decide +kernel
theorem dX6_rootPort_0 : decode cX6_rootPort 0 = .ok (.aload_n 0, 1) := by decide +kernel
theorem dX6_rootPort_1 : decode cX6_rootPort 1 = .ok (.getfield 15, 3) := by decide +kernel
theorem dX6_rootPort_4 : decode cX6_rootPort 4 = .ok (.iload_n 1, 1) := by decide +kernel
theorem dX6_rootPort_5 : decode cX6_rootPort 5 = .ok (.invokevirtual 71, 3) := by decide +kernel
theorem dX6_rootPort_8 : decode cX6_rootPort 8 = .ok (.ifCond .ne 5, 3) := by decide +kernel
theorem dX6_rootPort_11 : decode cX6_rootPort 11 = .ok (.iconst (-1), 1) := by decide +kernel
theorem dX6_rootPort_12 : decode cX6_rootPort 12 = .ok (.ireturn, 1) := by decide +kernel
theorem dX6_rootPort_13 : decode cX6_rootPort 13 = .ok (.aload_n 0, 1) := by decide +kernel
theorem dX6_rootPort_14 : decode cX6_rootPort 14 = .ok (.getfield 21, 3) := by decide +kernel
theorem dX6_rootPort_17 : decode cX6_rootPort 17 = .ok (.invokevirtual 116, 3) := by decide +kernel
theorem dX6_rootPort_20 : decode cX6_rootPort 20 = .ok (.pop, 1) := by decide +kernel
theorem dX6_rootPort_21 : decode cX6_rootPort 21 = .ok (.aload_n 0, 1) := by decide +kernel
theorem dX6_rootPort_22 : decode cX6_rootPort 22 = .ok (.getfield 21, 3) := by decide +kernel
theorem dX6_rootPort_25 : decode cX6_rootPort 25 = .ok (.getfield 138, 3) := by decide +kernel
theorem dX6_rootPort_28 : decode cX6_rootPort 28 = .ok (.iload_n 1, 1) := by decide +kernel
theorem dX6_rootPort_29 : decode cX6_rootPort 29 = .ok (.iaload, 1) := by decide +kernel
theorem dX6_rootPort_30 : decode cX6_rootPort 30 = .ok (.istore_n 2, 1) := by decide +kernel
theorem dX6_rootPort_31 : decode cX6_rootPort 31 = .ok (.iload_n 2, 1) := by decide +kernel
theorem dX6_rootPort_32 : decode cX6_rootPort 32 = .ok (.iconst (-1), 1) := by decide +kernel
theorem dX6_rootPort_33 : decode cX6_rootPort 33 = .ok (.if_icmp .ne 8, 3) := by decide +kernel
theorem dX6_rootPort_36 : decode cX6_rootPort 36 = .ok (.bipush (-9), 2) := by decide +kernel
theorem dX6_rootPort_38 : decode cX6_rootPort 38 = .ok (.goto 4, 3) := by decide +kernel
theorem dX6_rootPort_41 : decode cX6_rootPort 41 = .ok (.iload_n 2, 1) := by decide +kernel
theorem dX6_rootPort_42 : decode cX6_rootPort 42 = .ok (.ireturn, 1) := by decide +kernel
theorem dX6_role_0 : decode cX6_role 0 = .ok (.aload_n 0, 1) := by decide +kernel
theorem dX6_role_1 : decode cX6_role 1 = .ok (.getfield 15, 3) := by decide +kernel
theorem dX6_role_4 : decode cX6_role 4 = .ok (.iload_n 1, 1) := by decide +kernel
theorem dX6_role_5 : decode cX6_role 5 = .ok (.invokevirtual 97, 3) := by decide +kernel
theorem dX6_role_8 : decode cX6_role 8 = .ok (.ifCond .ne 6, 3) := by decide +kernel
theorem dX6_role_11 : decode cX6_role 11 = .ok (.bipush (-3), 2) := by decide +kernel
theorem dX6_role_13 : decode cX6_role 13 = .ok (.ireturn, 1) := by decide +kernel
theorem dX6_role_14 : decode cX6_role 14 = .ok (.aload_n 0, 1) := by decide +kernel
theorem dX6_role_15 : decode cX6_role 15 = .ok (.getfield 21, 3) := by decide +kernel
theorem dX6_role_18 : decode cX6_role 18 = .ok (.invokevirtual 116, 3) := by decide +kernel
theorem dX6_role_21 : decode cX6_role 21 = .ok (.pop, 1) := by decide +kernel
theorem dX6_role_22 : decode cX6_role 22 = .ok (.aload_n 0, 1) := by decide +kernel
theorem dX6_role_23 : decode cX6_role 23 = .ok (.getfield 21, 3) := by decide +kernel
theorem dX6_role_26 : decode cX6_role 26 = .ok (.getfield 141, 3) := by decide +kernel
theorem dX6_role_29 : decode cX6_role 29 = .ok (.iload_n 1, 1) := by decide +kernel
theorem dX6_role_30 : decode cX6_role 30 = .ok (.iaload, 1) := by decide +kernel
theorem dX6_role_31 : decode cX6_role 31 = .ok (.ireturn, 1) := by decide +kernel
theorem dX6_state_0 : decode cX6_state 0 = .ok (.aload_n 0, 1) := by decide +kernel
theorem dX6_state_1 : decode cX6_state 1 = .ok (.getfield 15, 3) := by decide +kernel
theorem dX6_state_4 : decode cX6_state 4 = .ok (.iload_n 1, 1) := by decide +kernel
theorem dX6_state_5 : decode cX6_state 5 = .ok (.invokevirtual 97, 3) := by decide +kernel
theorem dX6_state_8 : decode cX6_state 8 = .ok (.ifCond .ne 6, 3) := by decide +kernel
theorem dX6_state_11 : decode cX6_state 11 = .ok (.bipush (-3), 2) := by decide +kernel
theorem dX6_state_13 : decode cX6_state 13 = .ok (.ireturn, 1) := by decide +kernel
theorem dX6_state_14 : decode cX6_state 14 = .ok (.aload_n 0, 1) := by decide +kernel
theorem dX6_state_15 : decode cX6_state 15 = .ok (.getfield 15, 3) := by decide +kernel
theorem dX6_state_18 : decode cX6_state 18 = .ok (.getfield 144, 3) := by decide +kernel
theorem dX6_state_21 : decode cX6_state 21 = .ok (.iload_n 1, 1) := by decide +kernel
theorem dX6_state_22 : decode cX6_state 22 = .ok (.iaload, 1) := by decide +kernel
theorem dX6_state_23 : decode cX6_state 23 = .ok (.ireturn, 1) := by decide +kernel
theorem dX6_stored_0 : decode cX6_stored 0 = .ok (.aload_n 0, 1) := by decide +kernel
theorem dX6_stored_1 : decode cX6_stored 1 = .ok (.getfield 15, 3) := by decide +kernel
theorem dX6_stored_4 : decode cX6_stored 4 = .ok (.iload_n 1, 1) := by decide +kernel
theorem dX6_stored_5 : decode cX6_stored 5 = .ok (.invokevirtual 97, 3) := by decide +kernel
theorem dX6_stored_8 : decode cX6_stored 8 = .ok (.ifCond .ne 6, 3) := by decide +kernel
theorem dX6_stored_11 : decode cX6_stored 11 = .ok (.bipush (-3), 2) := by decide +kernel
theorem dX6_stored_13 : decode cX6_stored 13 = .ok (.ireturn, 1) := by decide +kernel
theorem dX6_stored_14 : decode cX6_stored 14 = .ok (.iload_n 2, 1) := by decide +kernel
theorem dX6_stored_15 : decode cX6_stored 15 = .ok (.ifCond .lt 8, 3) := by decide +kernel
theorem dX6_stored_18 : decode cX6_stored 18 = .ok (.iload_n 2, 1) := by decide +kernel
theorem dX6_stored_19 : decode cX6_stored 19 = .ok (.iconst 4, 1) := by decide +kernel
theorem dX6_stored_20 : decode cX6_stored 20 = .ok (.if_icmp .le 6, 3) := by decide +kernel
theorem dX6_stored_23 : decode cX6_stored 23 = .ok (.bipush (-5), 2) := by decide +kernel
theorem dX6_stored_25 : decode cX6_stored 25 = .ok (.ireturn, 1) := by decide +kernel
theorem dX6_stored_26 : decode cX6_stored 26 = .ok (.aload_n 0, 1) := by decide +kernel
theorem dX6_stored_27 : decode cX6_stored 27 = .ok (.getfield 15, 3) := by decide +kernel
theorem dX6_stored_30 : decode cX6_stored 30 = .ok (.iload_n 1, 1) := by decide +kernel
theorem dX6_stored_31 : decode cX6_stored 31 = .ok (.invokevirtual 147, 3) := by decide +kernel
theorem dX6_stored_34 : decode cX6_stored 34 = .ok (.ifCond .ne 6, 3) := by decide +kernel
theorem dX6_stored_37 : decode cX6_stored 37 = .ok (.bipush (-9), 2) := by decide +kernel
theorem dX6_stored_39 : decode cX6_stored 39 = .ok (.ireturn, 1) := by decide +kernel
theorem dX6_stored_40 : decode cX6_stored 40 = .ok (.aload_n 0, 1) := by decide +kernel
theorem dX6_stored_41 : decode cX6_stored 41 = .ok (.getfield 15, 3) := by decide +kernel
theorem dX6_stored_44 : decode cX6_stored 44 = .ok (.getfield 150, 3) := by decide +kernel
theorem dX6_stored_47 : decode cX6_stored 47 = .ok (.iload_n 1, 1) := by decide +kernel
theorem dX6_stored_48 : decode cX6_stored 48 = .ok (.laload, 1) := by decide +kernel
theorem dX6_stored_49 : decode cX6_stored 49 = .ok (.lstore_n 3, 1) := by decide +kernel
theorem dX6_stored_50 : decode cX6_stored 50 = .ok (.iload_n 2, 1) := by decide +kernel
theorem dX6_stored_51 : decode cX6_stored 51 = .ok (.tableswitch 49 0 3 #[29, 34, 39, 44], 29) := by decide +kernel
theorem dX6_stored_80 : decode cX6_stored 80 = .ok (.lload_n 3, 1) := by decide +kernel
theorem dX6_stored_81 : decode cX6_stored 81 = .ok (.invokestatic 154, 3) := by decide +kernel
theorem dX6_stored_84 : decode cX6_stored 84 = .ok (.ireturn, 1) := by decide +kernel
theorem dX6_stored_85 : decode cX6_stored 85 = .ok (.lload_n 3, 1) := by decide +kernel
theorem dX6_stored_86 : decode cX6_stored 86 = .ok (.invokestatic 160, 3) := by decide +kernel
theorem dX6_stored_89 : decode cX6_stored 89 = .ok (.ireturn, 1) := by decide +kernel
theorem dX6_stored_90 : decode cX6_stored 90 = .ok (.lload_n 3, 1) := by decide +kernel
theorem dX6_stored_91 : decode cX6_stored 91 = .ok (.invokestatic 163, 3) := by decide +kernel
theorem dX6_stored_94 : decode cX6_stored 94 = .ok (.ireturn, 1) := by decide +kernel
theorem dX6_stored_95 : decode cX6_stored 95 = .ok (.lload_n 3, 1) := by decide +kernel
theorem dX6_stored_96 : decode cX6_stored 96 = .ok (.invokestatic 166, 3) := by decide +kernel
theorem dX6_stored_99 : decode cX6_stored 99 = .ok (.ireturn, 1) := by decide +kernel
theorem dX6_stored_100 : decode cX6_stored 100 = .ok (.aload_n 0, 1) := by decide +kernel
theorem dX6_stored_101 : decode cX6_stored 101 = .ok (.getfield 15, 3) := by decide +kernel
theorem dX6_stored_104 : decode cX6_stored 104 = .ok (.getfield 169, 3) := by decide +kernel
theorem dX6_stored_107 : decode cX6_stored 107 = .ok (.iload_n 1, 1) := by decide +kernel
theorem dX6_stored_108 : decode cX6_stored 108 = .ok (.iaload, 1) := by decide +kernel
theorem dX6_stored_109 : decode cX6_stored 109 = .ok (.ireturn, 1) := by decide +kernel
theorem dX6_portsIn_0 : decode cX6_portsIn 0 = .ok (.iload_n 1, 1) := by decide +kernel
theorem dX6_portsIn_1 : decode cX6_portsIn 1 = .ok (.ifCond .lt 8, 3) := by decide +kernel
theorem dX6_portsIn_4 : decode cX6_portsIn 4 = .ok (.iload_n 1, 1) := by decide +kernel
theorem dX6_portsIn_5 : decode cX6_portsIn 5 = .ok (.iconst 4, 1) := by decide +kernel
theorem dX6_portsIn_6 : decode cX6_portsIn 6 = .ok (.if_icmp .le 6, 3) := by decide +kernel
theorem dX6_portsIn_9 : decode cX6_portsIn 9 = .ok (.bipush (-5), 2) := by decide +kernel
theorem dX6_portsIn_11 : decode cX6_portsIn 11 = .ok (.ireturn, 1) := by decide +kernel
theorem dX6_portsIn_12 : decode cX6_portsIn 12 = .ok (.iconst 0, 1) := by decide +kernel
theorem dX6_portsIn_13 : decode cX6_portsIn 13 = .ok (.istore_n 2, 1) := by decide +kernel
theorem dX6_portsIn_14 : decode cX6_portsIn 14 = .ok (.iconst 0, 1) := by decide +kernel
theorem dX6_portsIn_15 : decode cX6_portsIn 15 = .ok (.istore_n 3, 1) := by decide +kernel
theorem dX6_portsIn_16 : decode cX6_portsIn 16 = .ok (.iload_n 3, 1) := by decide +kernel
theorem dX6_portsIn_17 : decode cX6_portsIn 17 = .ok (.aload_n 0, 1) := by decide +kernel
theorem dX6_portsIn_18 : decode cX6_portsIn 18 = .ok (.getfield 15, 3) := by decide +kernel
theorem dX6_portsIn_21 : decode cX6_portsIn 21 = .ok (.getfield 80, 3) := by decide +kernel
theorem dX6_portsIn_24 : decode cX6_portsIn 24 = .ok (.if_icmp .ge 28, 3) := by decide +kernel
theorem dX6_portsIn_27 : decode cX6_portsIn 27 = .ok (.aload_n 0, 1) := by decide +kernel
theorem dX6_portsIn_28 : decode cX6_portsIn 28 = .ok (.getfield 15, 3) := by decide +kernel
theorem dX6_portsIn_31 : decode cX6_portsIn 31 = .ok (.getfield 144, 3) := by decide +kernel
theorem dX6_portsIn_34 : decode cX6_portsIn 34 = .ok (.iload_n 3, 1) := by decide +kernel
theorem dX6_portsIn_35 : decode cX6_portsIn 35 = .ok (.iaload, 1) := by decide +kernel
theorem dX6_portsIn_36 : decode cX6_portsIn 36 = .ok (.iload_n 1, 1) := by decide +kernel
theorem dX6_portsIn_37 : decode cX6_portsIn 37 = .ok (.if_icmp .ne 9, 3) := by decide +kernel
theorem dX6_portsIn_40 : decode cX6_portsIn 40 = .ok (.iload_n 2, 1) := by decide +kernel
theorem dX6_portsIn_41 : decode cX6_portsIn 41 = .ok (.iconst 1, 1) := by decide +kernel
theorem dX6_portsIn_42 : decode cX6_portsIn 42 = .ok (.iload_n 3, 1) := by decide +kernel
theorem dX6_portsIn_43 : decode cX6_portsIn 43 = .ok (.ishl, 1) := by decide +kernel
theorem dX6_portsIn_44 : decode cX6_portsIn 44 = .ok (.ior, 1) := by decide +kernel
theorem dX6_portsIn_45 : decode cX6_portsIn 45 = .ok (.istore_n 2, 1) := by decide +kernel
theorem dX6_portsIn_46 : decode cX6_portsIn 46 = .ok (.iinc 3 1, 3) := by decide +kernel
theorem dX6_portsIn_49 : decode cX6_portsIn 49 = .ok (.goto (-33), 3) := by decide +kernel
theorem dX6_portsIn_52 : decode cX6_portsIn 52 = .ok (.iload_n 2, 1) := by decide +kernel
theorem dX6_portsIn_53 : decode cX6_portsIn 53 = .ok (.ireturn, 1) := by decide +kernel
theorem dX6_parts_0 : decode cX6_parts 0 = .ok (.aload_n 0, 1) := by decide +kernel
theorem dX6_parts_1 : decode cX6_parts 1 = .ok (.getfield 44, 3) := by decide +kernel
theorem dX6_parts_4 : decode cX6_parts 4 = .ok (.invokevirtual 172, 3) := by decide +kernel
theorem dX6_parts_7 : decode cX6_parts 7 = .ok (.ireturn, 1) := by decide +kernel
theorem dX6_loops_0 : decode cX6_loops 0 = .ok (.aload_n 0, 1) := by decide +kernel
theorem dX6_loops_1 : decode cX6_loops 1 = .ok (.getfield 44, 3) := by decide +kernel
theorem dX6_loops_4 : decode cX6_loops 4 = .ok (.invokevirtual 175, 3) := by decide +kernel
theorem dX6_loops_7 : decode cX6_loops 7 = .ok (.ireturn, 1) := by decide +kernel
theorem dX6_send_0 : decode cX6_send 0 = .ok (.aload_n 0, 1) := by decide +kernel
theorem dX6_send_1 : decode cX6_send 1 = .ok (.getfield 15, 3) := by decide +kernel
theorem dX6_send_4 : decode cX6_send 4 = .ok (.iload_n 1, 1) := by decide +kernel
theorem dX6_send_5 : decode cX6_send 5 = .ok (.invokevirtual 110, 3) := by decide +kernel
theorem dX6_send_8 : decode cX6_send 8 = .ok (.ifCond .ne 6, 3) := by decide +kernel
theorem dX6_send_11 : decode cX6_send 11 = .ok (.bipush (-4), 2) := by decide +kernel
theorem dX6_send_13 : decode cX6_send 13 = .ok (.ireturn, 1) := by decide +kernel
theorem dX6_send_14 : decode cX6_send 14 = .ok (.iload_n 2, 1) := by decide +kernel
theorem dX6_send_15 : decode cX6_send 15 = .ok (.iconst (-1), 1) := by decide +kernel
theorem dX6_send_16 : decode cX6_send 16 = .ok (.if_icmp .eq 17, 3) := by decide +kernel
theorem dX6_send_19 : decode cX6_send 19 = .ok (.aload_n 0, 1) := by decide +kernel
theorem dX6_send_20 : decode cX6_send 20 = .ok (.getfield 15, 3) := by decide +kernel
theorem dX6_send_23 : decode cX6_send 23 = .ok (.iload_n 2, 1) := by decide +kernel
theorem dX6_send_24 : decode cX6_send 24 = .ok (.invokevirtual 110, 3) := by decide +kernel
theorem dX6_send_27 : decode cX6_send 27 = .ok (.ifCond .ne 6, 3) := by decide +kernel
theorem dX6_send_30 : decode cX6_send 30 = .ok (.bipush (-4), 2) := by decide +kernel
theorem dX6_send_32 : decode cX6_send 32 = .ok (.ireturn, 1) := by decide +kernel
theorem dX6_send_33 : decode cX6_send 33 = .ok (.aload_n 0, 1) := by decide +kernel
theorem dX6_send_34 : decode cX6_send 34 = .ok (.getfield 37, 3) := by decide +kernel
theorem dX6_send_37 : decode cX6_send 37 = .ok (.iload_n 1, 1) := by decide +kernel
theorem dX6_send_38 : decode cX6_send 38 = .ok (.iload_n 2, 1) := by decide +kernel
theorem dX6_send_39 : decode cX6_send 39 = .ok (.invokevirtual 178, 3) := by decide +kernel
theorem dX6_send_42 : decode cX6_send 42 = .ok (.ireturn, 1) := by decide +kernel
theorem dX6_transmissions_0 : decode cX6_transmissions 0 = .ok (.aload_n 0, 1) := by decide +kernel
theorem dX6_transmissions_1 : decode cX6_transmissions 1 = .ok (.getfield 15, 3) := by decide +kernel
theorem dX6_transmissions_4 : decode cX6_transmissions 4 = .ok (.iload_n 1, 1) := by decide +kernel
theorem dX6_transmissions_5 : decode cX6_transmissions 5 = .ok (.invokevirtual 74, 3) := by decide +kernel
theorem dX6_transmissions_8 : decode cX6_transmissions 8 = .ok (.ifCond .ne 6, 3) := by decide +kernel
theorem dX6_transmissions_11 : decode cX6_transmissions 11 = .ok (.bipush (-2), 2) := by decide +kernel
theorem dX6_transmissions_13 : decode cX6_transmissions 13 = .ok (.ireturn, 1) := by decide +kernel
theorem dX6_transmissions_14 : decode cX6_transmissions 14 = .ok (.aload_n 0, 1) := by decide +kernel
theorem dX6_transmissions_15 : decode cX6_transmissions 15 = .ok (.getfield 15, 3) := by decide +kernel
theorem dX6_transmissions_18 : decode cX6_transmissions 18 = .ok (.getfield 181, 3) := by decide +kernel
theorem dX6_transmissions_21 : decode cX6_transmissions 21 = .ok (.iload_n 1, 1) := by decide +kernel
theorem dX6_transmissions_22 : decode cX6_transmissions 22 = .ok (.iaload, 1) := by decide +kernel
theorem dX6_transmissions_23 : decode cX6_transmissions 23 = .ok (.ireturn, 1) := by decide +kernel
theorem dX6_entry_0 : decode cX6_entry 0 = .ok (.aload_n 0, 1) := by decide +kernel
theorem dX6_entry_1 : decode cX6_entry 1 = .ok (.getfield 15, 3) := by decide +kernel
theorem dX6_entry_4 : decode cX6_entry 4 = .ok (.iload_n 1, 1) := by decide +kernel
theorem dX6_entry_5 : decode cX6_entry 5 = .ok (.invokevirtual 71, 3) := by decide +kernel
theorem dX6_entry_8 : decode cX6_entry 8 = .ok (.ifCond .ne 5, 3) := by decide +kernel
theorem dX6_entry_11 : decode cX6_entry 11 = .ok (.iconst (-1), 1) := by decide +kernel
theorem dX6_entry_12 : decode cX6_entry 12 = .ok (.ireturn, 1) := by decide +kernel
theorem dX6_entry_13 : decode cX6_entry 13 = .ok (.aload_n 0, 1) := by decide +kernel
theorem dX6_entry_14 : decode cX6_entry 14 = .ok (.getfield 15, 3) := by decide +kernel
theorem dX6_entry_17 : decode cX6_entry 17 = .ok (.iload_n 2, 1) := by decide +kernel
theorem dX6_entry_18 : decode cX6_entry 18 = .ok (.invokevirtual 110, 3) := by decide +kernel
theorem dX6_entry_21 : decode cX6_entry 21 = .ok (.ifCond .ne 6, 3) := by decide +kernel
theorem dX6_entry_24 : decode cX6_entry 24 = .ok (.bipush (-4), 2) := by decide +kernel
theorem dX6_entry_26 : decode cX6_entry 26 = .ok (.ireturn, 1) := by decide +kernel
theorem dX6_entry_27 : decode cX6_entry 27 = .ok (.aload_n 0, 1) := by decide +kernel
theorem dX6_entry_28 : decode cX6_entry 28 = .ok (.getfield 15, 3) := by decide +kernel
theorem dX6_entry_31 : decode cX6_entry 31 = .ok (.iload_n 1, 1) := by decide +kernel
theorem dX6_entry_32 : decode cX6_entry 32 = .ok (.iload_n 2, 1) := by decide +kernel
theorem dX6_entry_33 : decode cX6_entry 33 = .ok (.invokevirtual 184, 3) := by decide +kernel
theorem dX6_entry_36 : decode cX6_entry 36 = .ok (.istore_n 3, 1) := by decide +kernel
theorem dX6_entry_37 : decode cX6_entry 37 = .ok (.iload_n 3, 1) := by decide +kernel
theorem dX6_entry_38 : decode cX6_entry 38 = .ok (.iconst (-1), 1) := by decide +kernel
theorem dX6_entry_39 : decode cX6_entry 39 = .ok (.if_icmp .ne 8, 3) := by decide +kernel
theorem dX6_entry_42 : decode cX6_entry 42 = .ok (.bipush (-9), 2) := by decide +kernel
theorem dX6_entry_44 : decode cX6_entry 44 = .ok (.goto 4, 3) := by decide +kernel
theorem dX6_entry_47 : decode cX6_entry 47 = .ok (.iload_n 3, 1) := by decide +kernel
theorem dX6_entry_48 : decode cX6_entry 48 = .ok (.ireturn, 1) := by decide +kernel
theorem dX6_count_0 : decode cX6_count 0 = .ok (.iload_n 1, 1) := by decide +kernel
theorem dX6_count_1 : decode cX6_count 1 = .ok (.tableswitch 75 0 4 #[35, 43, 51, 59, 67], 35) := by decide +kernel
theorem dX6_count_36 : decode cX6_count 36 = .ok (.aload_n 0, 1) := by decide +kernel
theorem dX6_count_37 : decode cX6_count 37 = .ok (.getfield 15, 3) := by decide +kernel
theorem dX6_count_40 : decode cX6_count 40 = .ok (.getfield 56, 3) := by decide +kernel
theorem dX6_count_43 : decode cX6_count 43 = .ok (.ireturn, 1) := by decide +kernel
theorem dX6_count_44 : decode cX6_count 44 = .ok (.aload_n 0, 1) := by decide +kernel
theorem dX6_count_45 : decode cX6_count 45 = .ok (.getfield 15, 3) := by decide +kernel
theorem dX6_count_48 : decode cX6_count 48 = .ok (.getfield 64, 3) := by decide +kernel
theorem dX6_count_51 : decode cX6_count 51 = .ok (.ireturn, 1) := by decide +kernel
theorem dX6_count_52 : decode cX6_count 52 = .ok (.aload_n 0, 1) := by decide +kernel
theorem dX6_count_53 : decode cX6_count 53 = .ok (.getfield 15, 3) := by decide +kernel
theorem dX6_count_56 : decode cX6_count 56 = .ok (.getfield 80, 3) := by decide +kernel
theorem dX6_count_59 : decode cX6_count 59 = .ok (.ireturn, 1) := by decide +kernel
theorem dX6_count_60 : decode cX6_count 60 = .ok (.aload_n 0, 1) := by decide +kernel
theorem dX6_count_61 : decode cX6_count 61 = .ok (.getfield 15, 3) := by decide +kernel
theorem dX6_count_64 : decode cX6_count 64 = .ok (.getfield 87, 3) := by decide +kernel
theorem dX6_count_67 : decode cX6_count 67 = .ok (.ireturn, 1) := by decide +kernel
theorem dX6_count_68 : decode cX6_count 68 = .ok (.aload_n 0, 1) := by decide +kernel
theorem dX6_count_69 : decode cX6_count 69 = .ok (.getfield 15, 3) := by decide +kernel
theorem dX6_count_72 : decode cX6_count 72 = .ok (.getfield 123, 3) := by decide +kernel
theorem dX6_count_75 : decode cX6_count 75 = .ok (.ireturn, 1) := by decide +kernel
theorem dX6_count_76 : decode cX6_count 76 = .ok (.bipush (-5), 2) := by decide +kernel
theorem dX6_count_78 : decode cX6_count 78 = .ok (.ireturn, 1) := by decide +kernel
theorem dX6_save_0 : decode cX6_save 0 = .ok (.iload_n 1, 1) := by decide +kernel
theorem dX6_save_1 : decode cX6_save 1 = .ok (.invokestatic 187, 3) := by decide +kernel
theorem dX6_save_4 : decode cX6_save 4 = .ok (.ifCond .ne 6, 3) := by decide +kernel
theorem dX6_save_7 : decode cX6_save 7 = .ok (.bipush (-5), 2) := by decide +kernel
theorem dX6_save_9 : decode cX6_save 9 = .ok (.ireturn, 1) := by decide +kernel
theorem dX6_save_10 : decode cX6_save 10 = .ok (.aload_n 0, 1) := by decide +kernel
theorem dX6_save_11 : decode cX6_save 11 = .ok (.getfield 48, 3) := by decide +kernel
theorem dX6_save_14 : decode cX6_save 14 = .ok (.iload_n 1, 1) := by decide +kernel
theorem dX6_save_15 : decode cX6_save 15 = .ok (.aaload, 1) := by decide +kernel
theorem dX6_save_16 : decode cX6_save 16 = .ok (.ifnonnull 16, 3) := by decide +kernel
theorem dX6_save_19 : decode cX6_save 19 = .ok (.aload_n 0, 1) := by decide +kernel
theorem dX6_save_20 : decode cX6_save 20 = .ok (.getfield 48, 3) := by decide +kernel
theorem dX6_save_23 : decode cX6_save 23 = .ok (.iload_n 1, 1) := by decide +kernel
theorem dX6_save_24 : decode cX6_save 24 = .ok (.new 7, 3) := by decide +kernel
theorem dX6_save_27 : decode cX6_save 27 = .ok (.dup, 1) := by decide +kernel
theorem dX6_save_28 : decode cX6_save 28 = .ok (.invokespecial 9, 3) := by decide +kernel
theorem dX6_save_31 : decode cX6_save 31 = .ok (.aastore, 1) := by decide +kernel
theorem dX6_save_32 : decode cX6_save 32 = .ok (.aload_n 0, 1) := by decide +kernel
theorem dX6_save_33 : decode cX6_save 33 = .ok (.getfield 48, 3) := by decide +kernel
theorem dX6_save_36 : decode cX6_save 36 = .ok (.iload_n 1, 1) := by decide +kernel
theorem dX6_save_37 : decode cX6_save 37 = .ok (.aaload, 1) := by decide +kernel
theorem dX6_save_38 : decode cX6_save 38 = .ok (.aload_n 0, 1) := by decide +kernel
theorem dX6_save_39 : decode cX6_save 39 = .ok (.getfield 15, 3) := by decide +kernel
theorem dX6_save_42 : decode cX6_save 42 = .ok (.invokevirtual 190, 3) := by decide +kernel
theorem dX6_save_45 : decode cX6_save 45 = .ok (.aload_n 0, 1) := by decide +kernel
theorem dX6_save_46 : decode cX6_save 46 = .ok (.getfield 15, 3) := by decide +kernel
theorem dX6_save_49 : decode cX6_save 49 = .ok (.getfield 56, 3) := by decide +kernel
theorem dX6_save_52 : decode cX6_save 52 = .ok (.ireturn, 1) := by decide +kernel
theorem dX6_restore_0 : decode cX6_restore 0 = .ok (.iload_n 1, 1) := by decide +kernel
theorem dX6_restore_1 : decode cX6_restore 1 = .ok (.invokestatic 187, 3) := by decide +kernel
theorem dX6_restore_4 : decode cX6_restore 4 = .ok (.ifCond .ne 6, 3) := by decide +kernel
theorem dX6_restore_7 : decode cX6_restore 7 = .ok (.bipush (-5), 2) := by decide +kernel
theorem dX6_restore_9 : decode cX6_restore 9 = .ok (.ireturn, 1) := by decide +kernel
theorem dX6_restore_10 : decode cX6_restore 10 = .ok (.aload_n 0, 1) := by decide +kernel
theorem dX6_restore_11 : decode cX6_restore 11 = .ok (.getfield 48, 3) := by decide +kernel
theorem dX6_restore_14 : decode cX6_restore 14 = .ok (.iload_n 1, 1) := by decide +kernel
theorem dX6_restore_15 : decode cX6_restore 15 = .ok (.aaload, 1) := by decide +kernel
theorem dX6_restore_16 : decode cX6_restore 16 = .ok (.ifnonnull 6, 3) := by decide +kernel
theorem dX6_restore_19 : decode cX6_restore 19 = .ok (.bipush (-8), 2) := by decide +kernel
theorem dX6_restore_21 : decode cX6_restore 21 = .ok (.ireturn, 1) := by decide +kernel
theorem dX6_restore_22 : decode cX6_restore 22 = .ok (.aload_n 0, 1) := by decide +kernel
theorem dX6_restore_23 : decode cX6_restore 23 = .ok (.getfield 15, 3) := by decide +kernel
theorem dX6_restore_26 : decode cX6_restore 26 = .ok (.aload_n 0, 1) := by decide +kernel
theorem dX6_restore_27 : decode cX6_restore 27 = .ok (.getfield 48, 3) := by decide +kernel
theorem dX6_restore_30 : decode cX6_restore 30 = .ok (.iload_n 1, 1) := by decide +kernel
theorem dX6_restore_31 : decode cX6_restore 31 = .ok (.aaload, 1) := by decide +kernel
theorem dX6_restore_32 : decode cX6_restore 32 = .ok (.invokevirtual 190, 3) := by decide +kernel
theorem dX6_restore_35 : decode cX6_restore 35 = .ok (.aload_n 0, 1) := by decide +kernel
theorem dX6_restore_36 : decode cX6_restore 36 = .ok (.getfield 15, 3) := by decide +kernel
theorem dX6_restore_39 : decode cX6_restore 39 = .ok (.getfield 56, 3) := by decide +kernel
theorem dX6_restore_42 : decode cX6_restore 42 = .ok (.ireturn, 1) := by decide +kernel
theorem dX6_isPriority_0 : decode cX6_isPriority 0 = .ok (.iload_n 0, 1) := by decide +kernel
theorem dX6_isPriority_1 : decode cX6_isPriority 1 = .ok (.ifCond .lt 13, 3) := by decide +kernel
theorem dX6_isPriority_4 : decode cX6_isPriority 4 = .ok (.iload_n 0, 1) := by decide +kernel
theorem dX6_isPriority_5 : decode cX6_isPriority 5 = .ok (.bipush 15, 2) := by decide +kernel
theorem dX6_isPriority_7 : decode cX6_isPriority 7 = .ok (.if_icmp .gt 7, 3) := by decide +kernel
theorem dX6_isPriority_10 : decode cX6_isPriority 10 = .ok (.iconst 1, 1) := by decide +kernel
theorem dX6_isPriority_11 : decode cX6_isPriority 11 = .ok (.goto 4, 3) := by decide +kernel
theorem dX6_isPriority_14 : decode cX6_isPriority 14 = .ok (.iconst 0, 1) := by decide +kernel
theorem dX6_isPriority_15 : decode cX6_isPriority 15 = .ok (.ireturn, 1) := by decide +kernel
theorem dX6_isCost_0 : decode cX6_isCost 0 = .ok (.iload_n 0, 1) := by decide +kernel
theorem dX6_isCost_1 : decode cX6_isCost 1 = .ok (.iconst 1, 1) := by decide +kernel
theorem dX6_isCost_2 : decode cX6_isCost 2 = .ok (.if_icmp .lt 13, 3) := by decide +kernel
theorem dX6_isCost_5 : decode cX6_isCost 5 = .ok (.iload_n 0, 1) := by decide +kernel
theorem dX6_isCost_6 : decode cX6_isCost 6 = .ok (.bipush 100, 2) := by decide +kernel
theorem dX6_isCost_8 : decode cX6_isCost 8 = .ok (.if_icmp .gt 7, 3) := by decide +kernel
theorem dX6_isCost_11 : decode cX6_isCost 11 = .ok (.iconst 1, 1) := by decide +kernel
theorem dX6_isCost_12 : decode cX6_isCost 12 = .ok (.goto 4, 3) := by decide +kernel
theorem dX6_isCost_15 : decode cX6_isCost 15 = .ok (.iconst 0, 1) := by decide +kernel
theorem dX6_isCost_16 : decode cX6_isCost 16 = .ok (.ireturn, 1) := by decide +kernel
theorem dX6_isSlot_0 : decode cX6_isSlot 0 = .ok (.iload_n 0, 1) := by decide +kernel
theorem dX6_isSlot_1 : decode cX6_isSlot 1 = .ok (.ifCond .lt 12, 3) := by decide +kernel
theorem dX6_isSlot_4 : decode cX6_isSlot 4 = .ok (.iload_n 0, 1) := by decide +kernel
theorem dX6_isSlot_5 : decode cX6_isSlot 5 = .ok (.iconst 2, 1) := by decide +kernel
theorem dX6_isSlot_6 : decode cX6_isSlot 6 = .ok (.if_icmp .ge 7, 3) := by decide +kernel
theorem dX6_isSlot_9 : decode cX6_isSlot 9 = .ok (.iconst 1, 1) := by decide +kernel
theorem dX6_isSlot_10 : decode cX6_isSlot 10 = .ok (.goto 4, 3) := by decide +kernel
theorem dX6_isSlot_13 : decode cX6_isSlot 13 = .ok (.iconst 0, 1) := by decide +kernel
theorem dX6_isSlot_14 : decode cX6_isSlot 14 = .ok (.ireturn, 1) := by decide +kernel
theorem dX7_init_0 : decode cX7_init 0 = .ok (.aload_n 0, 1) := by decide +kernel
theorem dX7_init_1 : decode cX7_init 1 = .ok (.invokespecial 1, 3) := by decide +kernel
theorem dX7_init_4 : decode cX7_init 4 = .ok (.aload_n 0, 1) := by decide +kernel
theorem dX7_init_5 : decode cX7_init 5 = .ok (.sipush 431, 3) := by decide +kernel
theorem dX7_init_8 : decode cX7_init 8 = .ok (.newarray .int, 2) := by decide +kernel
theorem dX7_init_10 : decode cX7_init 10 = .ok (.putfield 7, 3) := by decide +kernel
theorem dX7_init_13 : decode cX7_init 13 = .ok (.aload_n 0, 1) := by decide +kernel
theorem dX7_init_14 : decode cX7_init 14 = .ok (.sipush 862, 3) := by decide +kernel
theorem dX7_init_17 : decode cX7_init 17 = .ok (.newarray .int, 2) := by decide +kernel
theorem dX7_init_19 : decode cX7_init 19 = .ok (.putfield 13, 3) := by decide +kernel
theorem dX7_init_22 : decode cX7_init 22 = .ok (.aload_n 0, 1) := by decide +kernel
theorem dX7_init_23 : decode cX7_init 23 = .ok (.iconst 2, 1) := by decide +kernel
theorem dX7_init_24 : decode cX7_init 24 = .ok (.newarray .boolean, 2) := by decide +kernel
theorem dX7_init_26 : decode cX7_init 26 = .ok (.putfield 16, 3) := by decide +kernel
theorem dX7_init_29 : decode cX7_init 29 = .ok (.aload_n 0, 1) := by decide +kernel
theorem dX7_init_30 : decode cX7_init 30 = .ok (.bipush 24, 2) := by decide +kernel
theorem dX7_init_32 : decode cX7_init 32 = .ok (.newarray .boolean, 2) := by decide +kernel
theorem dX7_init_34 : decode cX7_init 34 = .ok (.putfield 20, 3) := by decide +kernel
theorem dX7_init_37 : decode cX7_init 37 = .ok (.aload_n 0, 1) := by decide +kernel
theorem dX7_init_38 : decode cX7_init 38 = .ok (.bipush 8, 2) := by decide +kernel
theorem dX7_init_40 : decode cX7_init 40 = .ok (.newarray .int, 2) := by decide +kernel
theorem dX7_init_42 : decode cX7_init 42 = .ok (.putfield 23, 3) := by decide +kernel
theorem dX7_init_45 : decode cX7_init 45 = .ok (.aload_n 0, 1) := by decide +kernel
theorem dX7_init_46 : decode cX7_init 46 = .ok (.bipush 8, 2) := by decide +kernel
theorem dX7_init_48 : decode cX7_init 48 = .ok (.newarray .int, 2) := by decide +kernel
theorem dX7_init_50 : decode cX7_init 50 = .ok (.putfield 26, 3) := by decide +kernel
theorem dX7_init_53 : decode cX7_init 53 = .ok (.aload_n 0, 1) := by decide +kernel
theorem dX7_init_54 : decode cX7_init 54 = .ok (.bipush 8, 2) := by decide +kernel
theorem dX7_init_56 : decode cX7_init 56 = .ok (.newarray .int, 2) := by decide +kernel
theorem dX7_init_58 : decode cX7_init 58 = .ok (.putfield 29, 3) := by decide +kernel
theorem dX7_init_61 : decode cX7_init 61 = .ok (.aload_n 0, 1) := by decide +kernel
theorem dX7_init_62 : decode cX7_init 62 = .ok (.bipush 24, 2) := by decide +kernel
theorem dX7_init_64 : decode cX7_init 64 = .ok (.newarray .int, 2) := by decide +kernel
theorem dX7_init_66 : decode cX7_init 66 = .ok (.putfield 32, 3) := by decide +kernel
theorem dX7_init_69 : decode cX7_init 69 = .ok (.aload_n 0, 1) := by decide +kernel
theorem dX7_init_70 : decode cX7_init 70 = .ok (.bipush 24, 2) := by decide +kernel
theorem dX7_init_72 : decode cX7_init 72 = .ok (.newarray .int, 2) := by decide +kernel
theorem dX7_init_74 : decode cX7_init 74 = .ok (.putfield 35, 3) := by decide +kernel
theorem dX7_init_77 : decode cX7_init 77 = .ok (.aload_n 0, 1) := by decide +kernel
theorem dX7_init_78 : decode cX7_init 78 = .ok (.bipush 24, 2) := by decide +kernel
theorem dX7_init_80 : decode cX7_init 80 = .ok (.newarray .int, 2) := by decide +kernel
theorem dX7_init_82 : decode cX7_init 82 = .ok (.putfield 38, 3) := by decide +kernel
theorem dX7_init_85 : decode cX7_init 85 = .ok (.aload_n 0, 1) := by decide +kernel
theorem dX7_init_86 : decode cX7_init 86 = .ok (.bipush 24, 2) := by decide +kernel
theorem dX7_init_88 : decode cX7_init 88 = .ok (.newarray .int, 2) := by decide +kernel
theorem dX7_init_90 : decode cX7_init 90 = .ok (.putfield 41, 3) := by decide +kernel
theorem dX7_init_93 : decode cX7_init 93 = .ok (.aload_n 0, 1) := by decide +kernel
theorem dX7_init_94 : decode cX7_init 94 = .ok (.bipush 24, 2) := by decide +kernel
theorem dX7_init_96 : decode cX7_init 96 = .ok (.newarray .int, 2) := by decide +kernel
theorem dX7_init_98 : decode cX7_init 98 = .ok (.putfield 44, 3) := by decide +kernel
theorem dX7_init_101 : decode cX7_init 101 = .ok (.aload_n 0, 1) := by decide +kernel
theorem dX7_init_102 : decode cX7_init 102 = .ok (.bipush 18, 2) := by decide +kernel
theorem dX7_init_104 : decode cX7_init 104 = .ok (.newarray .int, 2) := by decide +kernel
theorem dX7_init_106 : decode cX7_init 106 = .ok (.putfield 47, 3) := by decide +kernel
theorem dX7_init_109 : decode cX7_init 109 = .ok (.aload_n 0, 1) := by decide +kernel
theorem dX7_init_110 : decode cX7_init 110 = .ok (.bipush 64, 2) := by decide +kernel
theorem dX7_init_112 : decode cX7_init 112 = .ok (.newarray .int, 2) := by decide +kernel
theorem dX7_init_114 : decode cX7_init 114 = .ok (.putfield 50, 3) := by decide +kernel
theorem dX7_init_117 : decode cX7_init 117 = .ok (.aload_n 0, 1) := by decide +kernel
theorem dX7_init_118 : decode cX7_init 118 = .ok (.bipush 64, 2) := by decide +kernel
theorem dX7_init_120 : decode cX7_init 120 = .ok (.newarray .int, 2) := by decide +kernel
theorem dX7_init_122 : decode cX7_init 122 = .ok (.putfield 53, 3) := by decide +kernel
theorem dX7_init_125 : decode cX7_init 125 = .ok (.return_, 1) := by decide +kernel
theorem dX7_in_0 : decode cX7_in 0 = .ok (.iload_n 0, 1) := by decide +kernel
theorem dX7_in_1 : decode cX7_in 1 = .ok (.iload_n 1, 1) := by decide +kernel
theorem dX7_in_2 : decode cX7_in 2 = .ok (.if_icmp .lt 12, 3) := by decide +kernel
theorem dX7_in_5 : decode cX7_in 5 = .ok (.iload_n 0, 1) := by decide +kernel
theorem dX7_in_6 : decode cX7_in 6 = .ok (.iload_n 2, 1) := by decide +kernel
theorem dX7_in_7 : decode cX7_in 7 = .ok (.if_icmp .gt 7, 3) := by decide +kernel
theorem dX7_in_10 : decode cX7_in 10 = .ok (.iconst 1, 1) := by decide +kernel
theorem dX7_in_11 : decode cX7_in 11 = .ok (.goto 4, 3) := by decide +kernel
theorem dX7_in_14 : decode cX7_in 14 = .ok (.iconst 0, 1) := by decide +kernel
theorem dX7_in_15 : decode cX7_in 15 = .ok (.ireturn, 1) := by decide +kernel
theorem dX7_isBridge_0 : decode cX7_isBridge 0 = .ok (.iload_n 1, 1) := by decide +kernel
theorem dX7_isBridge_1 : decode cX7_isBridge 1 = .ok (.iconst 0, 1) := by decide +kernel
theorem dX7_isBridge_2 : decode cX7_isBridge 2 = .ok (.aload_n 0, 1) := by decide +kernel
theorem dX7_isBridge_3 : decode cX7_isBridge 3 = .ok (.getfield 7, 3) := by decide +kernel
theorem dX7_isBridge_6 : decode cX7_isBridge 6 = .ok (.iconst 0, 1) := by decide +kernel
theorem dX7_isBridge_7 : decode cX7_isBridge 7 = .ok (.iaload, 1) := by decide +kernel
theorem dX7_isBridge_8 : decode cX7_isBridge 8 = .ok (.iconst 1, 1) := by decide +kernel
theorem dX7_isBridge_9 : decode cX7_isBridge 9 = .ok (.isub, 1) := by decide +kernel
theorem dX7_isBridge_10 : decode cX7_isBridge 10 = .ok (.invokestatic 56, 3) := by decide +kernel
theorem dX7_isBridge_13 : decode cX7_isBridge 13 = .ok (.ireturn, 1) := by decide +kernel
theorem dX7_isSegment_0 : decode cX7_isSegment 0 = .ok (.iload_n 1, 1) := by decide +kernel
theorem dX7_isSegment_1 : decode cX7_isSegment 1 = .ok (.iconst 0, 1) := by decide +kernel
theorem dX7_isSegment_2 : decode cX7_isSegment 2 = .ok (.aload_n 0, 1) := by decide +kernel
theorem dX7_isSegment_3 : decode cX7_isSegment 3 = .ok (.getfield 7, 3) := by decide +kernel
theorem dX7_isSegment_6 : decode cX7_isSegment 6 = .ok (.iconst 1, 1) := by decide +kernel
theorem dX7_isSegment_7 : decode cX7_isSegment 7 = .ok (.iaload, 1) := by decide +kernel
theorem dX7_isSegment_8 : decode cX7_isSegment 8 = .ok (.iconst 1, 1) := by decide +kernel
theorem dX7_isSegment_9 : decode cX7_isSegment 9 = .ok (.isub, 1) := by decide +kernel
theorem dX7_isSegment_10 : decode cX7_isSegment 10 = .ok (.invokestatic 56, 3) := by decide +kernel
theorem dX7_isSegment_13 : decode cX7_isSegment 13 = .ok (.ireturn, 1) := by decide +kernel
theorem dX7_isPort_0 : decode cX7_isPort 0 = .ok (.iload_n 1, 1) := by decide +kernel
theorem dX7_isPort_1 : decode cX7_isPort 1 = .ok (.iconst 0, 1) := by decide +kernel
theorem dX7_isPort_2 : decode cX7_isPort 2 = .ok (.aload_n 0, 1) := by decide +kernel
theorem dX7_isPort_3 : decode cX7_isPort 3 = .ok (.getfield 7, 3) := by decide +kernel
theorem dX7_isPort_6 : decode cX7_isPort 6 = .ok (.iconst 2, 1) := by decide +kernel
theorem dX7_isPort_7 : decode cX7_isPort 7 = .ok (.iaload, 1) := by decide +kernel
theorem dX7_isPort_8 : decode cX7_isPort 8 = .ok (.iconst 1, 1) := by decide +kernel
theorem dX7_isPort_9 : decode cX7_isPort 9 = .ok (.isub, 1) := by decide +kernel
theorem dX7_isPort_10 : decode cX7_isPort 10 = .ok (.invokestatic 56, 3) := by decide +kernel
theorem dX7_isPort_13 : decode cX7_isPort 13 = .ok (.ireturn, 1) := by decide +kernel
theorem dX7_isStation_0 : decode cX7_isStation 0 = .ok (.iload_n 1, 1) := by decide +kernel
theorem dX7_isStation_1 : decode cX7_isStation 1 = .ok (.iconst 0, 1) := by decide +kernel
theorem dX7_isStation_2 : decode cX7_isStation 2 = .ok (.aload_n 0, 1) := by decide +kernel
theorem dX7_isStation_3 : decode cX7_isStation 3 = .ok (.getfield 7, 3) := by decide +kernel
theorem dX7_isStation_6 : decode cX7_isStation 6 = .ok (.iconst 3, 1) := by decide +kernel
theorem dX7_isStation_7 : decode cX7_isStation 7 = .ok (.iaload, 1) := by decide +kernel
theorem dX7_isStation_8 : decode cX7_isStation 8 = .ok (.iconst 1, 1) := by decide +kernel
theorem dX7_isStation_9 : decode cX7_isStation 9 = .ok (.isub, 1) := by decide +kernel
theorem dX7_isStation_10 : decode cX7_isStation 10 = .ok (.invokestatic 56, 3) := by decide +kernel
theorem dX7_isStation_13 : decode cX7_isStation 13 = .ok (.ireturn, 1) := by decide +kernel
theorem dX7_ports_0 : decode cX7_ports 0 = .ok (.aload_n 0, 1) := by decide +kernel
theorem dX7_ports_1 : decode cX7_ports 1 = .ok (.getfield 7, 3) := by decide +kernel
theorem dX7_ports_4 : decode cX7_ports 4 = .ok (.iconst 2, 1) := by decide +kernel
theorem dX7_ports_5 : decode cX7_ports 5 = .ok (.iaload, 1) := by decide +kernel
theorem dX7_ports_6 : decode cX7_ports 6 = .ok (.ireturn, 1) := by decide +kernel
theorem dX7_bridgeOf_0 : decode cX7_bridgeOf 0 = .ok (.aload_n 0, 1) := by decide +kernel
theorem dX7_bridgeOf_1 : decode cX7_bridgeOf 1 = .ok (.getfield 7, 3) := by decide +kernel
theorem dX7_bridgeOf_4 : decode cX7_bridgeOf 4 = .ok (.bipush 21, 2) := by decide +kernel
theorem dX7_bridgeOf_6 : decode cX7_bridgeOf 6 = .ok (.iload_n 1, 1) := by decide +kernel
theorem dX7_bridgeOf_7 : decode cX7_bridgeOf 7 = .ok (.iadd, 1) := by decide +kernel
theorem dX7_bridgeOf_8 : decode cX7_bridgeOf 8 = .ok (.iaload, 1) := by decide +kernel
theorem dX7_bridgeOf_9 : decode cX7_bridgeOf 9 = .ok (.ireturn, 1) := by decide +kernel
theorem dX7_isActive_0 : decode cX7_isActive 0 = .ok (.aload_n 0, 1) := by decide +kernel
theorem dX7_isActive_1 : decode cX7_isActive 1 = .ok (.getfield 7, 3) := by decide +kernel
theorem dX7_isActive_4 : decode cX7_isActive 4 = .ok (.bipush 93, 2) := by decide +kernel
theorem dX7_isActive_6 : decode cX7_isActive 6 = .ok (.iload_n 1, 1) := by decide +kernel
theorem dX7_isActive_7 : decode cX7_isActive 7 = .ok (.iadd, 1) := by decide +kernel
theorem dX7_isActive_8 : decode cX7_isActive 8 = .ok (.iaload, 1) := by decide +kernel
theorem dX7_isActive_9 : decode cX7_isActive 9 = .ok (.iconst 1, 1) := by decide +kernel
theorem dX7_isActive_10 : decode cX7_isActive 10 = .ok (.if_icmp .ne 24, 3) := by decide +kernel
theorem dX7_isActive_13 : decode cX7_isActive 13 = .ok (.aload_n 0, 1) := by decide +kernel
theorem dX7_isActive_14 : decode cX7_isActive 14 = .ok (.getfield 7, 3) := by decide +kernel
theorem dX7_isActive_17 : decode cX7_isActive 17 = .ok (.bipush 13, 2) := by decide +kernel
theorem dX7_isActive_19 : decode cX7_isActive 19 = .ok (.aload_n 0, 1) := by decide +kernel
theorem dX7_isActive_20 : decode cX7_isActive 20 = .ok (.iload_n 1, 1) := by decide +kernel
theorem dX7_isActive_21 : decode cX7_isActive 21 = .ok (.invokevirtual 60, 3) := by decide +kernel
theorem dX7_isActive_24 : decode cX7_isActive 24 = .ok (.iadd, 1) := by decide +kernel
theorem dX7_isActive_25 : decode cX7_isActive 25 = .ok (.iaload, 1) := by decide +kernel
theorem dX7_isActive_26 : decode cX7_isActive 26 = .ok (.iconst 1, 1) := by decide +kernel
theorem dX7_isActive_27 : decode cX7_isActive 27 = .ok (.if_icmp .ne 7, 3) := by decide +kernel
theorem dX7_isActive_30 : decode cX7_isActive 30 = .ok (.iconst 1, 1) := by decide +kernel
theorem dX7_isActive_31 : decode cX7_isActive 31 = .ok (.goto 4, 3) := by decide +kernel
theorem dX7_isActive_34 : decode cX7_isActive 34 = .ok (.iconst 0, 1) := by decide +kernel
theorem dX7_isActive_35 : decode cX7_isActive 35 = .ok (.ireturn, 1) := by decide +kernel
theorem dX7_idOf_0 : decode cX7_idOf 0 = .ok (.bipush 16, 2) := by decide +kernel
theorem dX7_idOf_2 : decode cX7_idOf 2 = .ok (.aload_n 0, 1) := by decide +kernel
theorem dX7_idOf_3 : decode cX7_idOf 3 = .ok (.getfield 7, 3) := by decide +kernel
theorem dX7_idOf_6 : decode cX7_idOf 6 = .ok (.iconst 5, 1) := by decide +kernel
theorem dX7_idOf_7 : decode cX7_idOf 7 = .ok (.iload_n 1, 1) := by decide +kernel
theorem dX7_idOf_8 : decode cX7_idOf 8 = .ok (.iadd, 1) := by decide +kernel
theorem dX7_idOf_9 : decode cX7_idOf 9 = .ok (.iaload, 1) := by decide +kernel
theorem dX7_idOf_10 : decode cX7_idOf 10 = .ok (.imul, 1) := by decide +kernel
theorem dX7_idOf_11 : decode cX7_idOf 11 = .ok (.iload_n 1, 1) := by decide +kernel
theorem dX7_idOf_12 : decode cX7_idOf 12 = .ok (.iadd, 1) := by decide +kernel
theorem dX7_idOf_13 : decode cX7_idOf 13 = .ok (.ireturn, 1) := by decide +kernel
theorem dX7_message_0 : decode cX7_message 0 = .ok (.aload_n 0, 1) := by decide +kernel
theorem dX7_message_1 : decode cX7_message 1 = .ok (.getfield 7, 3) := by decide +kernel
theorem dX7_message_4 : decode cX7_message 4 = .ok (.sipush 165, 3) := by decide +kernel
theorem dX7_message_7 : decode cX7_message 7 = .ok (.iconst 5, 1) := by decide +kernel
theorem dX7_message_8 : decode cX7_message 8 = .ok (.iload_n 1, 1) := by decide +kernel
theorem dX7_message_9 : decode cX7_message 9 = .ok (.imul, 1) := by decide +kernel
theorem dX7_message_10 : decode cX7_message 10 = .ok (.iadd, 1) := by decide +kernel
theorem dX7_message_11 : decode cX7_message 11 = .ok (.iload_n 2, 1) := by decide +kernel
theorem dX7_message_12 : decode cX7_message 12 = .ok (.iadd, 1) := by decide +kernel
theorem dX7_message_13 : decode cX7_message 13 = .ok (.iaload, 1) := by decide +kernel
theorem dX7_message_14 : decode cX7_message 14 = .ok (.ireturn, 1) := by decide +kernel
theorem dX7_stores_0 : decode cX7_stores 0 = .ok (.aload_n 0, 1) := by decide +kernel
theorem dX7_stores_1 : decode cX7_stores 1 = .ok (.iload_n 1, 1) := by decide +kernel
theorem dX7_stores_2 : decode cX7_stores 2 = .ok (.iconst 4, 1) := by decide +kernel
theorem dX7_stores_3 : decode cX7_stores 3 = .ok (.invokevirtual 64, 3) := by decide +kernel
theorem dX7_stores_6 : decode cX7_stores 6 = .ok (.ifCond .le 7, 3) := by decide +kernel
theorem dX7_stores_9 : decode cX7_stores 9 = .ok (.iconst 1, 1) := by decide +kernel
theorem dX7_stores_10 : decode cX7_stores 10 = .ok (.goto 4, 3) := by decide +kernel
theorem dX7_stores_13 : decode cX7_stores 13 = .ok (.iconst 0, 1) := by decide +kernel
theorem dX7_stores_14 : decode cX7_stores 14 = .ok (.ireturn, 1) := by decide +kernel
theorem dX7_addBridge_0 : decode cX7_addBridge 0 = .ok (.iload_n 1, 1) := by decide +kernel
theorem dX7_addBridge_1 : decode cX7_addBridge 1 = .ok (.iconst 0, 1) := by decide +kernel
theorem dX7_addBridge_2 : decode cX7_addBridge 2 = .ok (.bipush 15, 2) := by decide +kernel
theorem dX7_addBridge_4 : decode cX7_addBridge 4 = .ok (.invokestatic 56, 3) := by decide +kernel
theorem dX7_addBridge_7 : decode cX7_addBridge 7 = .ok (.ifCond .ne 6, 3) := by decide +kernel
theorem dX7_addBridge_10 : decode cX7_addBridge 10 = .ok (.bipush (-5), 2) := by decide +kernel
theorem dX7_addBridge_12 : decode cX7_addBridge 12 = .ok (.ireturn, 1) := by decide +kernel
theorem dX7_addBridge_13 : decode cX7_addBridge 13 = .ok (.aload_n 0, 1) := by decide +kernel
theorem dX7_addBridge_14 : decode cX7_addBridge 14 = .ok (.getfield 7, 3) := by decide +kernel
theorem dX7_addBridge_17 : decode cX7_addBridge 17 = .ok (.iconst 0, 1) := by decide +kernel
theorem dX7_addBridge_18 : decode cX7_addBridge 18 = .ok (.iaload, 1) := by decide +kernel
theorem dX7_addBridge_19 : decode cX7_addBridge 19 = .ok (.bipush 8, 2) := by decide +kernel
theorem dX7_addBridge_21 : decode cX7_addBridge 21 = .ok (.if_icmp .ne 6, 3) := by decide +kernel
theorem dX7_addBridge_24 : decode cX7_addBridge 24 = .ok (.bipush (-6), 2) := by decide +kernel
theorem dX7_addBridge_26 : decode cX7_addBridge 26 = .ok (.ireturn, 1) := by decide +kernel
theorem dX7_addBridge_27 : decode cX7_addBridge 27 = .ok (.aload_n 0, 1) := by decide +kernel
theorem dX7_addBridge_28 : decode cX7_addBridge 28 = .ok (.getfield 7, 3) := by decide +kernel
theorem dX7_addBridge_31 : decode cX7_addBridge 31 = .ok (.iconst 0, 1) := by decide +kernel
theorem dX7_addBridge_32 : decode cX7_addBridge 32 = .ok (.iaload, 1) := by decide +kernel
theorem dX7_addBridge_33 : decode cX7_addBridge 33 = .ok (.istore_n 2, 1) := by decide +kernel
theorem dX7_addBridge_34 : decode cX7_addBridge 34 = .ok (.aload_n 0, 1) := by decide +kernel
theorem dX7_addBridge_35 : decode cX7_addBridge 35 = .ok (.getfield 7, 3) := by decide +kernel
theorem dX7_addBridge_38 : decode cX7_addBridge 38 = .ok (.iconst 5, 1) := by decide +kernel
theorem dX7_addBridge_39 : decode cX7_addBridge 39 = .ok (.iload_n 2, 1) := by decide +kernel
theorem dX7_addBridge_40 : decode cX7_addBridge 40 = .ok (.iadd, 1) := by decide +kernel
theorem dX7_addBridge_41 : decode cX7_addBridge 41 = .ok (.iload_n 1, 1) := by decide +kernel
theorem dX7_addBridge_42 : decode cX7_addBridge 42 = .ok (.iastore, 1) := by decide +kernel
theorem dX7_addBridge_43 : decode cX7_addBridge 43 = .ok (.aload_n 0, 1) := by decide +kernel
theorem dX7_addBridge_44 : decode cX7_addBridge 44 = .ok (.getfield 7, 3) := by decide +kernel
theorem dX7_addBridge_47 : decode cX7_addBridge 47 = .ok (.bipush 13, 2) := by decide +kernel
theorem dX7_addBridge_49 : decode cX7_addBridge 49 = .ok (.iload_n 2, 1) := by decide +kernel
theorem dX7_addBridge_50 : decode cX7_addBridge 50 = .ok (.iadd, 1) := by decide +kernel
theorem dX7_addBridge_51 : decode cX7_addBridge 51 = .ok (.iconst 1, 1) := by decide +kernel
theorem dX7_addBridge_52 : decode cX7_addBridge 52 = .ok (.iastore, 1) := by decide +kernel
theorem dX7_addBridge_53 : decode cX7_addBridge 53 = .ok (.aload_n 0, 1) := by decide +kernel
theorem dX7_addBridge_54 : decode cX7_addBridge 54 = .ok (.getfield 7, 3) := by decide +kernel
theorem dX7_addBridge_57 : decode cX7_addBridge 57 = .ok (.iconst 0, 1) := by decide +kernel
theorem dX7_addBridge_58 : decode cX7_addBridge 58 = .ok (.dup2, 1) := by decide +kernel
theorem dX7_addBridge_59 : decode cX7_addBridge 59 = .ok (.iaload, 1) := by decide +kernel
theorem dX7_addBridge_60 : decode cX7_addBridge 60 = .ok (.iconst 1, 1) := by decide +kernel
theorem dX7_addBridge_61 : decode cX7_addBridge 61 = .ok (.iadd, 1) := by decide +kernel
theorem dX7_addBridge_62 : decode cX7_addBridge 62 = .ok (.iastore, 1) := by decide +kernel
theorem dX7_addBridge_63 : decode cX7_addBridge 63 = .ok (.iload_n 2, 1) := by decide +kernel
theorem dX7_addBridge_64 : decode cX7_addBridge 64 = .ok (.ireturn, 1) := by decide +kernel
theorem dX7_addSegment_0 : decode cX7_addSegment 0 = .ok (.aload_n 0, 1) := by decide +kernel
theorem dX7_addSegment_1 : decode cX7_addSegment 1 = .ok (.getfield 7, 3) := by decide +kernel
theorem dX7_addSegment_4 : decode cX7_addSegment 4 = .ok (.iconst 1, 1) := by decide +kernel
theorem dX7_addSegment_5 : decode cX7_addSegment 5 = .ok (.iaload, 1) := by decide +kernel
theorem dX7_addSegment_6 : decode cX7_addSegment 6 = .ok (.bipush 10, 2) := by decide +kernel
theorem dX7_addSegment_8 : decode cX7_addSegment 8 = .ok (.if_icmp .ne 6, 3) := by decide +kernel
theorem dX7_addSegment_11 : decode cX7_addSegment 11 = .ok (.bipush (-6), 2) := by decide +kernel
theorem dX7_addSegment_13 : decode cX7_addSegment 13 = .ok (.ireturn, 1) := by decide +kernel
theorem dX7_addSegment_14 : decode cX7_addSegment 14 = .ok (.aload_n 0, 1) := by decide +kernel
theorem dX7_addSegment_15 : decode cX7_addSegment 15 = .ok (.getfield 7, 3) := by decide +kernel
theorem dX7_addSegment_18 : decode cX7_addSegment 18 = .ok (.iconst 1, 1) := by decide +kernel
theorem dX7_addSegment_19 : decode cX7_addSegment 19 = .ok (.dup2, 1) := by decide +kernel
theorem dX7_addSegment_20 : decode cX7_addSegment 20 = .ok (.iaload, 1) := by decide +kernel
theorem dX7_addSegment_21 : decode cX7_addSegment 21 = .ok (.iconst 1, 1) := by decide +kernel
theorem dX7_addSegment_22 : decode cX7_addSegment 22 = .ok (.iadd, 1) := by decide +kernel
theorem dX7_addSegment_23 : decode cX7_addSegment 23 = .ok (.iastore, 1) := by decide +kernel
theorem dX7_addSegment_24 : decode cX7_addSegment 24 = .ok (.aload_n 0, 1) := by decide +kernel
theorem dX7_addSegment_25 : decode cX7_addSegment 25 = .ok (.getfield 7, 3) := by decide +kernel
theorem dX7_addSegment_28 : decode cX7_addSegment 28 = .ok (.iconst 1, 1) := by decide +kernel
theorem dX7_addSegment_29 : decode cX7_addSegment 29 = .ok (.iaload, 1) := by decide +kernel
theorem dX7_addSegment_30 : decode cX7_addSegment 30 = .ok (.iconst 1, 1) := by decide +kernel
theorem dX7_addSegment_31 : decode cX7_addSegment 31 = .ok (.isub, 1) := by decide +kernel
theorem dX7_addSegment_32 : decode cX7_addSegment 32 = .ok (.ireturn, 1) := by decide +kernel
theorem dX7_addPort_0 : decode cX7_addPort 0 = .ok (.aload_n 0, 1) := by decide +kernel
theorem dX7_addPort_1 : decode cX7_addPort 1 = .ok (.iload_n 1, 1) := by decide +kernel
theorem dX7_addPort_2 : decode cX7_addPort 2 = .ok (.invokevirtual 68, 3) := by decide +kernel
theorem dX7_addPort_5 : decode cX7_addPort 5 = .ok (.ifCond .ne 5, 3) := by decide +kernel
theorem dX7_addPort_8 : decode cX7_addPort 8 = .ok (.iconst (-1), 1) := by decide +kernel
theorem dX7_addPort_9 : decode cX7_addPort 9 = .ok (.ireturn, 1) := by decide +kernel
theorem dX7_addPort_10 : decode cX7_addPort 10 = .ok (.aload_n 0, 1) := by decide +kernel
theorem dX7_addPort_11 : decode cX7_addPort 11 = .ok (.iload_n 2, 1) := by decide +kernel
theorem dX7_addPort_12 : decode cX7_addPort 12 = .ok (.invokevirtual 72, 3) := by decide +kernel
theorem dX7_addPort_15 : decode cX7_addPort 15 = .ok (.ifCond .ne 6, 3) := by decide +kernel
theorem dX7_addPort_18 : decode cX7_addPort 18 = .ok (.bipush (-2), 2) := by decide +kernel
theorem dX7_addPort_20 : decode cX7_addPort 20 = .ok (.ireturn, 1) := by decide +kernel
theorem dX7_addPort_21 : decode cX7_addPort 21 = .ok (.iload_n 3, 1) := by decide +kernel
theorem dX7_addPort_22 : decode cX7_addPort 22 = .ok (.iconst 1, 1) := by decide +kernel
theorem dX7_addPort_23 : decode cX7_addPort 23 = .ok (.bipush 100, 2) := by decide +kernel
theorem dX7_addPort_25 : decode cX7_addPort 25 = .ok (.invokestatic 56, 3) := by decide +kernel
theorem dX7_addPort_28 : decode cX7_addPort 28 = .ok (.ifCond .ne 6, 3) := by decide +kernel
theorem dX7_addPort_31 : decode cX7_addPort 31 = .ok (.bipush (-5), 2) := by decide +kernel
theorem dX7_addPort_33 : decode cX7_addPort 33 = .ok (.ireturn, 1) := by decide +kernel
theorem dX7_addPort_34 : decode cX7_addPort 34 = .ok (.aload_n 0, 1) := by decide +kernel
theorem dX7_addPort_35 : decode cX7_addPort 35 = .ok (.invokevirtual 75, 3) := by decide +kernel
theorem dX7_addPort_38 : decode cX7_addPort 38 = .ok (.bipush 24, 2) := by decide +kernel
theorem dX7_addPort_40 : decode cX7_addPort 40 = .ok (.if_icmp .ne 6, 3) := by decide +kernel
theorem dX7_addPort_43 : decode cX7_addPort 43 = .ok (.bipush (-6), 2) := by decide +kernel
theorem dX7_addPort_45 : decode cX7_addPort 45 = .ok (.ireturn, 1) := by decide +kernel
theorem dX7_addPort_46 : decode cX7_addPort 46 = .ok (.aload_n 0, 1) := by decide +kernel
theorem dX7_addPort_47 : decode cX7_addPort 47 = .ok (.invokevirtual 75, 3) := by decide +kernel
theorem dX7_addPort_50 : decode cX7_addPort 50 = .ok (.istore 4, 2) := by decide +kernel
theorem dX7_addPort_52 : decode cX7_addPort 52 = .ok (.aload_n 0, 1) := by decide +kernel
theorem dX7_addPort_53 : decode cX7_addPort 53 = .ok (.getfield 7, 3) := by decide +kernel
theorem dX7_addPort_56 : decode cX7_addPort 56 = .ok (.bipush 21, 2) := by decide +kernel
theorem dX7_addPort_58 : decode cX7_addPort 58 = .ok (.iload 4, 2) := by decide +kernel
theorem dX7_addPort_60 : decode cX7_addPort 60 = .ok (.iadd, 1) := by decide +kernel
theorem dX7_addPort_61 : decode cX7_addPort 61 = .ok (.iload_n 1, 1) := by decide +kernel
theorem dX7_addPort_62 : decode cX7_addPort 62 = .ok (.iastore, 1) := by decide +kernel
theorem dX7_addPort_63 : decode cX7_addPort 63 = .ok (.aload_n 0, 1) := by decide +kernel
theorem dX7_addPort_64 : decode cX7_addPort 64 = .ok (.getfield 7, 3) := by decide +kernel
theorem dX7_addPort_67 : decode cX7_addPort 67 = .ok (.bipush 45, 2) := by decide +kernel
theorem dX7_addPort_69 : decode cX7_addPort 69 = .ok (.iload 4, 2) := by decide +kernel
theorem dX7_addPort_71 : decode cX7_addPort 71 = .ok (.iadd, 1) := by decide +kernel
theorem dX7_addPort_72 : decode cX7_addPort 72 = .ok (.iload_n 2, 1) := by decide +kernel
theorem dX7_addPort_73 : decode cX7_addPort 73 = .ok (.iastore, 1) := by decide +kernel
theorem dX7_addPort_74 : decode cX7_addPort 74 = .ok (.aload_n 0, 1) := by decide +kernel
theorem dX7_addPort_75 : decode cX7_addPort 75 = .ok (.getfield 7, 3) := by decide +kernel
theorem dX7_addPort_78 : decode cX7_addPort 78 = .ok (.bipush 69, 2) := by decide +kernel
theorem dX7_addPort_80 : decode cX7_addPort 80 = .ok (.iload 4, 2) := by decide +kernel
theorem dX7_addPort_82 : decode cX7_addPort 82 = .ok (.iadd, 1) := by decide +kernel
theorem dX7_addPort_83 : decode cX7_addPort 83 = .ok (.iload_n 3, 1) := by decide +kernel
theorem dX7_addPort_84 : decode cX7_addPort 84 = .ok (.iastore, 1) := by decide +kernel
theorem dX7_addPort_85 : decode cX7_addPort 85 = .ok (.aload_n 0, 1) := by decide +kernel
theorem dX7_addPort_86 : decode cX7_addPort 86 = .ok (.getfield 7, 3) := by decide +kernel
theorem dX7_addPort_89 : decode cX7_addPort 89 = .ok (.bipush 93, 2) := by decide +kernel
theorem dX7_addPort_91 : decode cX7_addPort 91 = .ok (.iload 4, 2) := by decide +kernel
theorem dX7_addPort_93 : decode cX7_addPort 93 = .ok (.iadd, 1) := by decide +kernel
theorem dX7_addPort_94 : decode cX7_addPort 94 = .ok (.iconst 1, 1) := by decide +kernel
theorem dX7_addPort_95 : decode cX7_addPort 95 = .ok (.iastore, 1) := by decide +kernel
theorem dX7_addPort_96 : decode cX7_addPort 96 = .ok (.aload_n 0, 1) := by decide +kernel
theorem dX7_addPort_97 : decode cX7_addPort 97 = .ok (.getfield 7, 3) := by decide +kernel
theorem dX7_addPort_100 : decode cX7_addPort 100 = .ok (.bipush 117, 2) := by decide +kernel
theorem dX7_addPort_102 : decode cX7_addPort 102 = .ok (.iload 4, 2) := by decide +kernel
theorem dX7_addPort_104 : decode cX7_addPort 104 = .ok (.iadd, 1) := by decide +kernel
theorem dX7_addPort_105 : decode cX7_addPort 105 = .ok (.aload_n 0, 1) := by decide +kernel
theorem dX7_addPort_106 : decode cX7_addPort 106 = .ok (.iload 4, 2) := by decide +kernel
theorem dX7_addPort_108 : decode cX7_addPort 108 = .ok (.invokevirtual 79, 3) := by decide +kernel
theorem dX7_addPort_111 : decode cX7_addPort 111 = .ok (.ifCond .eq 7, 3) := by decide +kernel
theorem dX7_addPort_114 : decode cX7_addPort 114 = .ok (.iconst 1, 1) := by decide +kernel
theorem dX7_addPort_115 : decode cX7_addPort 115 = .ok (.goto 4, 3) := by decide +kernel
theorem dX7_addPort_118 : decode cX7_addPort 118 = .ok (.iconst 0, 1) := by decide +kernel
theorem dX7_addPort_119 : decode cX7_addPort 119 = .ok (.iastore, 1) := by decide +kernel
theorem dX7_addPort_120 : decode cX7_addPort 120 = .ok (.aload_n 0, 1) := by decide +kernel
theorem dX7_addPort_121 : decode cX7_addPort 121 = .ok (.getfield 7, 3) := by decide +kernel
theorem dX7_addPort_124 : decode cX7_addPort 124 = .ok (.iconst 2, 1) := by decide +kernel
theorem dX7_addPort_125 : decode cX7_addPort 125 = .ok (.dup2, 1) := by decide +kernel
theorem dX7_addPort_126 : decode cX7_addPort 126 = .ok (.iaload, 1) := by decide +kernel
theorem dX7_addPort_127 : decode cX7_addPort 127 = .ok (.iconst 1, 1) := by decide +kernel
theorem dX7_addPort_128 : decode cX7_addPort 128 = .ok (.iadd, 1) := by decide +kernel
theorem dX7_addPort_129 : decode cX7_addPort 129 = .ok (.iastore, 1) := by decide +kernel
theorem dX7_addPort_130 : decode cX7_addPort 130 = .ok (.iload 4, 2) := by decide +kernel
theorem dX7_addPort_132 : decode cX7_addPort 132 = .ok (.ireturn, 1) := by decide +kernel
theorem dX7_addStation_0 : decode cX7_addStation 0 = .ok (.aload_n 0, 1) := by decide +kernel
theorem dX7_addStation_1 : decode cX7_addStation 1 = .ok (.iload_n 1, 1) := by decide +kernel
theorem dX7_addStation_2 : decode cX7_addStation 2 = .ok (.invokevirtual 72, 3) := by decide +kernel
theorem dX7_addStation_5 : decode cX7_addStation 5 = .ok (.ifCond .ne 6, 3) := by decide +kernel
theorem dX7_addStation_8 : decode cX7_addStation 8 = .ok (.bipush (-2), 2) := by decide +kernel
theorem dX7_addStation_10 : decode cX7_addStation 10 = .ok (.ireturn, 1) := by decide +kernel
theorem dX7_addStation_11 : decode cX7_addStation 11 = .ok (.aload_n 0, 1) := by decide +kernel
theorem dX7_addStation_12 : decode cX7_addStation 12 = .ok (.getfield 7, 3) := by decide +kernel
theorem dX7_addStation_15 : decode cX7_addStation 15 = .ok (.iconst 3, 1) := by decide +kernel
theorem dX7_addStation_16 : decode cX7_addStation 16 = .ok (.iaload, 1) := by decide +kernel
theorem dX7_addStation_17 : decode cX7_addStation 17 = .ok (.bipush 8, 2) := by decide +kernel
theorem dX7_addStation_19 : decode cX7_addStation 19 = .ok (.if_icmp .ne 6, 3) := by decide +kernel
theorem dX7_addStation_22 : decode cX7_addStation 22 = .ok (.bipush (-6), 2) := by decide +kernel
theorem dX7_addStation_24 : decode cX7_addStation 24 = .ok (.ireturn, 1) := by decide +kernel
theorem dX7_addStation_25 : decode cX7_addStation 25 = .ok (.aload_n 0, 1) := by decide +kernel
theorem dX7_addStation_26 : decode cX7_addStation 26 = .ok (.getfield 7, 3) := by decide +kernel
theorem dX7_addStation_29 : decode cX7_addStation 29 = .ok (.sipush 285, 3) := by decide +kernel
theorem dX7_addStation_32 : decode cX7_addStation 32 = .ok (.aload_n 0, 1) := by decide +kernel
theorem dX7_addStation_33 : decode cX7_addStation 33 = .ok (.getfield 7, 3) := by decide +kernel
theorem dX7_addStation_36 : decode cX7_addStation 36 = .ok (.iconst 3, 1) := by decide +kernel
theorem dX7_addStation_37 : decode cX7_addStation 37 = .ok (.iaload, 1) := by decide +kernel
theorem dX7_addStation_38 : decode cX7_addStation 38 = .ok (.iadd, 1) := by decide +kernel
theorem dX7_addStation_39 : decode cX7_addStation 39 = .ok (.iload_n 1, 1) := by decide +kernel
theorem dX7_addStation_40 : decode cX7_addStation 40 = .ok (.iastore, 1) := by decide +kernel
theorem dX7_addStation_41 : decode cX7_addStation 41 = .ok (.aload_n 0, 1) := by decide +kernel
theorem dX7_addStation_42 : decode cX7_addStation 42 = .ok (.getfield 7, 3) := by decide +kernel
theorem dX7_addStation_45 : decode cX7_addStation 45 = .ok (.iconst 3, 1) := by decide +kernel
theorem dX7_addStation_46 : decode cX7_addStation 46 = .ok (.dup2, 1) := by decide +kernel
theorem dX7_addStation_47 : decode cX7_addStation 47 = .ok (.iaload, 1) := by decide +kernel
theorem dX7_addStation_48 : decode cX7_addStation 48 = .ok (.iconst 1, 1) := by decide +kernel
theorem dX7_addStation_49 : decode cX7_addStation 49 = .ok (.iadd, 1) := by decide +kernel
theorem dX7_addStation_50 : decode cX7_addStation 50 = .ok (.iastore, 1) := by decide +kernel
theorem dX7_addStation_51 : decode cX7_addStation 51 = .ok (.aload_n 0, 1) := by decide +kernel
theorem dX7_addStation_52 : decode cX7_addStation 52 = .ok (.getfield 7, 3) := by decide +kernel
theorem dX7_addStation_55 : decode cX7_addStation 55 = .ok (.iconst 3, 1) := by decide +kernel
theorem dX7_addStation_56 : decode cX7_addStation 56 = .ok (.iaload, 1) := by decide +kernel
theorem dX7_addStation_57 : decode cX7_addStation 57 = .ok (.iconst 1, 1) := by decide +kernel
theorem dX7_addStation_58 : decode cX7_addStation 58 = .ok (.isub, 1) := by decide +kernel
theorem dX7_addStation_59 : decode cX7_addStation 59 = .ok (.ireturn, 1) := by decide +kernel
theorem dX7_set_0 : decode cX7_set 0 = .ok (.aload_n 0, 1) := by decide +kernel
theorem dX7_set_1 : decode cX7_set 1 = .ok (.getfield 7, 3) := by decide +kernel
theorem dX7_set_4 : decode cX7_set 4 = .ok (.iload_n 1, 1) := by decide +kernel
theorem dX7_set_5 : decode cX7_set 5 = .ok (.iaload, 1) := by decide +kernel
theorem dX7_set_6 : decode cX7_set 6 = .ok (.istore_n 3, 1) := by decide +kernel
theorem dX7_set_7 : decode cX7_set 7 = .ok (.aload_n 0, 1) := by decide +kernel
theorem dX7_set_8 : decode cX7_set 8 = .ok (.getfield 7, 3) := by decide +kernel
theorem dX7_set_11 : decode cX7_set 11 = .ok (.iload_n 1, 1) := by decide +kernel
theorem dX7_set_12 : decode cX7_set 12 = .ok (.iload_n 2, 1) := by decide +kernel
theorem dX7_set_13 : decode cX7_set 13 = .ok (.iastore, 1) := by decide +kernel
theorem dX7_set_14 : decode cX7_set 14 = .ok (.iload_n 3, 1) := by decide +kernel
theorem dX7_set_15 : decode cX7_set 15 = .ok (.ireturn, 1) := by decide +kernel
theorem dX7_setPriority_0 : decode cX7_setPriority 0 = .ok (.aload_n 0, 1) := by decide +kernel
theorem dX7_setPriority_1 : decode cX7_setPriority 1 = .ok (.iload_n 1, 1) := by decide +kernel
theorem dX7_setPriority_2 : decode cX7_setPriority 2 = .ok (.invokevirtual 68, 3) := by decide +kernel
theorem dX7_setPriority_5 : decode cX7_setPriority 5 = .ok (.ifCond .ne 5, 3) := by decide +kernel
theorem dX7_setPriority_8 : decode cX7_setPriority 8 = .ok (.iconst (-1), 1) := by decide +kernel
theorem dX7_setPriority_9 : decode cX7_setPriority 9 = .ok (.ireturn, 1) := by decide +kernel
theorem dX7_setPriority_10 : decode cX7_setPriority 10 = .ok (.iload_n 2, 1) := by decide +kernel
theorem dX7_setPriority_11 : decode cX7_setPriority 11 = .ok (.iconst 0, 1) := by decide +kernel
theorem dX7_setPriority_12 : decode cX7_setPriority 12 = .ok (.bipush 15, 2) := by decide +kernel
theorem dX7_setPriority_14 : decode cX7_setPriority 14 = .ok (.invokestatic 56, 3) := by decide +kernel
theorem dX7_setPriority_17 : decode cX7_setPriority 17 = .ok (.ifCond .eq 14, 3) := by decide +kernel
theorem dX7_setPriority_20 : decode cX7_setPriority 20 = .ok (.aload_n 0, 1) := by decide +kernel
theorem dX7_setPriority_21 : decode cX7_setPriority 21 = .ok (.iconst 5, 1) := by decide +kernel
theorem dX7_setPriority_22 : decode cX7_setPriority 22 = .ok (.iload_n 1, 1) := by decide +kernel
theorem dX7_setPriority_23 : decode cX7_setPriority 23 = .ok (.iadd, 1) := by decide +kernel
theorem dX7_setPriority_24 : decode cX7_setPriority 24 = .ok (.iload_n 2, 1) := by decide +kernel
theorem dX7_setPriority_25 : decode cX7_setPriority 25 = .ok (.invokevirtual 82, 3) := by decide +kernel
theorem dX7_setPriority_28 : decode cX7_setPriority 28 = .ok (.goto 5, 3) := by decide +kernel
theorem dX7_setPriority_31 : decode cX7_setPriority 31 = .ok (.bipush (-5), 2) := by decide +kernel
theorem dX7_setPriority_33 : decode cX7_setPriority 33 = .ok (.ireturn, 1) := by decide +kernel
theorem dX7_setCost_0 : decode cX7_setCost 0 = .ok (.aload_n 0, 1) := by decide +kernel
theorem dX7_setCost_1 : decode cX7_setCost 1 = .ok (.iload_n 1, 1) := by decide +kernel
theorem dX7_setCost_2 : decode cX7_setCost 2 = .ok (.invokevirtual 85, 3) := by decide +kernel
theorem dX7_setCost_5 : decode cX7_setCost 5 = .ok (.ifCond .ne 6, 3) := by decide +kernel
theorem dX7_setCost_8 : decode cX7_setCost 8 = .ok (.bipush (-3), 2) := by decide +kernel
theorem dX7_setCost_10 : decode cX7_setCost 10 = .ok (.ireturn, 1) := by decide +kernel
theorem dX7_setCost_11 : decode cX7_setCost 11 = .ok (.iload_n 2, 1) := by decide +kernel
theorem dX7_setCost_12 : decode cX7_setCost 12 = .ok (.iconst 1, 1) := by decide +kernel
theorem dX7_setCost_13 : decode cX7_setCost 13 = .ok (.bipush 100, 2) := by decide +kernel
theorem dX7_setCost_15 : decode cX7_setCost 15 = .ok (.invokestatic 56, 3) := by decide +kernel
theorem dX7_setCost_18 : decode cX7_setCost 18 = .ok (.ifCond .eq 15, 3) := by decide +kernel
theorem dX7_setCost_21 : decode cX7_setCost 21 = .ok (.aload_n 0, 1) := by decide +kernel
theorem dX7_setCost_22 : decode cX7_setCost 22 = .ok (.bipush 69, 2) := by decide +kernel
theorem dX7_setCost_24 : decode cX7_setCost 24 = .ok (.iload_n 1, 1) := by decide +kernel
theorem dX7_setCost_25 : decode cX7_setCost 25 = .ok (.iadd, 1) := by decide +kernel
theorem dX7_setCost_26 : decode cX7_setCost 26 = .ok (.iload_n 2, 1) := by decide +kernel
theorem dX7_setCost_27 : decode cX7_setCost 27 = .ok (.invokevirtual 82, 3) := by decide +kernel
theorem dX7_setCost_30 : decode cX7_setCost 30 = .ok (.goto 5, 3) := by decide +kernel
theorem dX7_setCost_33 : decode cX7_setCost 33 = .ok (.bipush (-5), 2) := by decide +kernel
theorem dX7_setCost_35 : decode cX7_setCost 35 = .ok (.ireturn, 1) := by decide +kernel
theorem dX7_turn_0 : decode cX7_turn 0 = .ok (.aload_n 0, 1) := by decide +kernel
theorem dX7_turn_1 : decode cX7_turn 1 = .ok (.iload_n 1, 1) := by decide +kernel
theorem dX7_turn_2 : decode cX7_turn 2 = .ok (.invokevirtual 79, 3) := by decide +kernel
theorem dX7_turn_5 : decode cX7_turn 5 = .ok (.istore_n 3, 1) := by decide +kernel
theorem dX7_turn_6 : decode cX7_turn 6 = .ok (.iload_n 3, 1) := by decide +kernel
theorem dX7_turn_7 : decode cX7_turn 7 = .ok (.iload_n 2, 1) := by decide +kernel
theorem dX7_turn_8 : decode cX7_turn 8 = .ok (.if_icmp .ne 4, 3) := by decide +kernel
theorem dX7_turn_11 : decode cX7_turn 11 = .ok (.return_, 1) := by decide +kernel
theorem dX7_turn_12 : decode cX7_turn 12 = .ok (.aload_n 0, 1) := by decide +kernel
theorem dX7_turn_13 : decode cX7_turn 13 = .ok (.getfield 7, 3) := by decide +kernel
theorem dX7_turn_16 : decode cX7_turn 16 = .ok (.sipush 165, 3) := by decide +kernel
theorem dX7_turn_19 : decode cX7_turn 19 = .ok (.iconst 5, 1) := by decide +kernel
theorem dX7_turn_20 : decode cX7_turn 20 = .ok (.iload_n 1, 1) := by decide +kernel
theorem dX7_turn_21 : decode cX7_turn 21 = .ok (.imul, 1) := by decide +kernel
theorem dX7_turn_22 : decode cX7_turn 22 = .ok (.iadd, 1) := by decide +kernel
theorem dX7_turn_23 : decode cX7_turn 23 = .ok (.iconst 4, 1) := by decide +kernel
theorem dX7_turn_24 : decode cX7_turn 24 = .ok (.iadd, 1) := by decide +kernel
theorem dX7_turn_25 : decode cX7_turn 25 = .ok (.iconst 0, 1) := by decide +kernel
theorem dX7_turn_26 : decode cX7_turn 26 = .ok (.iastore, 1) := by decide +kernel
theorem dX7_turn_27 : decode cX7_turn 27 = .ok (.aload_n 0, 1) := by decide +kernel
theorem dX7_turn_28 : decode cX7_turn 28 = .ok (.getfield 7, 3) := by decide +kernel
theorem dX7_turn_31 : decode cX7_turn 31 = .ok (.bipush 117, 2) := by decide +kernel
theorem dX7_turn_33 : decode cX7_turn 33 = .ok (.iload_n 1, 1) := by decide +kernel
theorem dX7_turn_34 : decode cX7_turn 34 = .ok (.iadd, 1) := by decide +kernel
theorem dX7_turn_35 : decode cX7_turn 35 = .ok (.iload_n 3, 1) := by decide +kernel
theorem dX7_turn_36 : decode cX7_turn 36 = .ok (.ifCond .eq 7, 3) := by decide +kernel
theorem dX7_turn_39 : decode cX7_turn 39 = .ok (.iconst 1, 1) := by decide +kernel
theorem dX7_turn_40 : decode cX7_turn 40 = .ok (.goto 4, 3) := by decide +kernel
theorem dX7_turn_43 : decode cX7_turn 43 = .ok (.iconst 0, 1) := by decide +kernel
theorem dX7_turn_44 : decode cX7_turn 44 = .ok (.iastore, 1) := by decide +kernel
theorem dX7_turn_45 : decode cX7_turn 45 = .ok (.iconst 0, 1) := by decide +kernel
theorem dX7_turn_46 : decode cX7_turn 46 = .ok (.istore 4, 2) := by decide +kernel
theorem dX7_turn_48 : decode cX7_turn 48 = .ok (.iload 4, 2) := by decide +kernel
theorem dX7_turn_50 : decode cX7_turn 50 = .ok (.bipush 64, 2) := by decide +kernel
theorem dX7_turn_52 : decode cX7_turn 52 = .ok (.if_icmp .ge 54, 3) := by decide +kernel
theorem dX7_turn_55 : decode cX7_turn 55 = .ok (.iload_n 3, 1) := by decide +kernel
theorem dX7_turn_56 : decode cX7_turn 56 = .ok (.ifCond .ne 44, 3) := by decide +kernel
theorem dX7_turn_59 : decode cX7_turn 59 = .ok (.aload_n 0, 1) := by decide +kernel
theorem dX7_turn_60 : decode cX7_turn 60 = .ok (.getfield 7, 3) := by decide +kernel
theorem dX7_turn_63 : decode cX7_turn 63 = .ok (.sipush 357, 3) := by decide +kernel
theorem dX7_turn_66 : decode cX7_turn 66 = .ok (.iload 4, 2) := by decide +kernel
theorem dX7_turn_68 : decode cX7_turn 68 = .ok (.iadd, 1) := by decide +kernel
theorem dX7_turn_69 : decode cX7_turn 69 = .ok (.iaload, 1) := by decide +kernel
theorem dX7_turn_70 : decode cX7_turn 70 = .ok (.ifCond .le 30, 3) := by decide +kernel
theorem dX7_turn_73 : decode cX7_turn 73 = .ok (.aload_n 0, 1) := by decide +kernel
theorem dX7_turn_74 : decode cX7_turn 74 = .ok (.getfield 7, 3) := by decide +kernel
theorem dX7_turn_77 : decode cX7_turn 77 = .ok (.sipush 293, 3) := by decide +kernel
theorem dX7_turn_80 : decode cX7_turn 80 = .ok (.iload 4, 2) := by decide +kernel
theorem dX7_turn_82 : decode cX7_turn 82 = .ok (.iadd, 1) := by decide +kernel
theorem dX7_turn_83 : decode cX7_turn 83 = .ok (.iaload, 1) := by decide +kernel
theorem dX7_turn_84 : decode cX7_turn 84 = .ok (.iload_n 1, 1) := by decide +kernel
theorem dX7_turn_85 : decode cX7_turn 85 = .ok (.if_icmp .ne 15, 3) := by decide +kernel
theorem dX7_turn_88 : decode cX7_turn 88 = .ok (.aload_n 0, 1) := by decide +kernel
theorem dX7_turn_89 : decode cX7_turn 89 = .ok (.getfield 7, 3) := by decide +kernel
theorem dX7_turn_92 : decode cX7_turn 92 = .ok (.sipush 357, 3) := by decide +kernel
theorem dX7_turn_95 : decode cX7_turn 95 = .ok (.iload 4, 2) := by decide +kernel
theorem dX7_turn_97 : decode cX7_turn 97 = .ok (.iadd, 1) := by decide +kernel
theorem dX7_turn_98 : decode cX7_turn 98 = .ok (.iconst 0, 1) := by decide +kernel
theorem dX7_turn_99 : decode cX7_turn 99 = .ok (.iastore, 1) := by decide +kernel
theorem dX7_turn_100 : decode cX7_turn 100 = .ok (.iinc 4 1, 3) := by decide +kernel
theorem dX7_turn_103 : decode cX7_turn 103 = .ok (.goto (-55), 3) := by decide +kernel
theorem dX7_turn_106 : decode cX7_turn 106 = .ok (.return_, 1) := by decide +kernel
theorem dX7_turnAll_0 : decode cX7_turnAll 0 = .ok (.iconst 0, 1) := by decide +kernel
theorem dX7_turnAll_1 : decode cX7_turnAll 1 = .ok (.istore_n 3, 1) := by decide +kernel
theorem dX7_turnAll_2 : decode cX7_turnAll 2 = .ok (.iload_n 3, 1) := by decide +kernel
theorem dX7_turnAll_3 : decode cX7_turnAll 3 = .ok (.aload_n 0, 1) := by decide +kernel
theorem dX7_turnAll_4 : decode cX7_turnAll 4 = .ok (.invokevirtual 75, 3) := by decide +kernel
theorem dX7_turnAll_7 : decode cX7_turnAll 7 = .ok (.if_icmp .ge 20, 3) := by decide +kernel
theorem dX7_turnAll_10 : decode cX7_turnAll 10 = .ok (.aload_n 0, 1) := by decide +kernel
theorem dX7_turnAll_11 : decode cX7_turnAll 11 = .ok (.getfield 20, 3) := by decide +kernel
theorem dX7_turnAll_14 : decode cX7_turnAll 14 = .ok (.iload_n 3, 1) := by decide +kernel
theorem dX7_turnAll_15 : decode cX7_turnAll 15 = .ok (.aload_n 0, 1) := by decide +kernel
theorem dX7_turnAll_16 : decode cX7_turnAll 16 = .ok (.iload_n 3, 1) := by decide +kernel
theorem dX7_turnAll_17 : decode cX7_turnAll 17 = .ok (.invokevirtual 79, 3) := by decide +kernel
theorem dX7_turnAll_20 : decode cX7_turnAll 20 = .ok (.bastore, 1) := by decide +kernel
theorem dX7_turnAll_21 : decode cX7_turnAll 21 = .ok (.iinc 3 1, 3) := by decide +kernel
theorem dX7_turnAll_24 : decode cX7_turnAll 24 = .ok (.goto (-22), 3) := by decide +kernel
theorem dX7_turnAll_27 : decode cX7_turnAll 27 = .ok (.aload_n 0, 1) := by decide +kernel
theorem dX7_turnAll_28 : decode cX7_turnAll 28 = .ok (.iload_n 1, 1) := by decide +kernel
theorem dX7_turnAll_29 : decode cX7_turnAll 29 = .ok (.iload_n 2, 1) := by decide +kernel
theorem dX7_turnAll_30 : decode cX7_turnAll 30 = .ok (.ifCond .eq 7, 3) := by decide +kernel
theorem dX7_turnAll_33 : decode cX7_turnAll 33 = .ok (.iconst 1, 1) := by decide +kernel
theorem dX7_turnAll_34 : decode cX7_turnAll 34 = .ok (.goto 4, 3) := by decide +kernel
theorem dX7_turnAll_37 : decode cX7_turnAll 37 = .ok (.iconst 0, 1) := by decide +kernel
theorem dX7_turnAll_38 : decode cX7_turnAll 38 = .ok (.invokevirtual 82, 3) := by decide +kernel
theorem dX7_turnAll_41 : decode cX7_turnAll 41 = .ok (.istore_n 3, 1) := by decide +kernel
theorem dX7_turnAll_42 : decode cX7_turnAll 42 = .ok (.iconst 0, 1) := by decide +kernel
theorem dX7_turnAll_43 : decode cX7_turnAll 43 = .ok (.istore 4, 2) := by decide +kernel
theorem dX7_turnAll_45 : decode cX7_turnAll 45 = .ok (.iload 4, 2) := by decide +kernel
theorem dX7_turnAll_47 : decode cX7_turnAll 47 = .ok (.aload_n 0, 1) := by decide +kernel
theorem dX7_turnAll_48 : decode cX7_turnAll 48 = .ok (.invokevirtual 75, 3) := by decide +kernel
theorem dX7_turnAll_51 : decode cX7_turnAll 51 = .ok (.if_icmp .ge 22, 3) := by decide +kernel
theorem dX7_turnAll_54 : decode cX7_turnAll 54 = .ok (.aload_n 0, 1) := by decide +kernel
theorem dX7_turnAll_55 : decode cX7_turnAll 55 = .ok (.iload 4, 2) := by decide +kernel
theorem dX7_turnAll_57 : decode cX7_turnAll 57 = .ok (.aload_n 0, 1) := by decide +kernel
theorem dX7_turnAll_58 : decode cX7_turnAll 58 = .ok (.getfield 20, 3) := by decide +kernel
theorem dX7_turnAll_61 : decode cX7_turnAll 61 = .ok (.iload 4, 2) := by decide +kernel
theorem dX7_turnAll_63 : decode cX7_turnAll 63 = .ok (.baload, 1) := by decide +kernel
theorem dX7_turnAll_64 : decode cX7_turnAll 64 = .ok (.invokevirtual 88, 3) := by decide +kernel
theorem dX7_turnAll_67 : decode cX7_turnAll 67 = .ok (.iinc 4 1, 3) := by decide +kernel
theorem dX7_turnAll_70 : decode cX7_turnAll 70 = .ok (.goto (-25), 3) := by decide +kernel
theorem dX7_turnAll_73 : decode cX7_turnAll 73 = .ok (.iload_n 3, 1) := by decide +kernel
theorem dX7_turnAll_74 : decode cX7_turnAll 74 = .ok (.ireturn, 1) := by decide +kernel
theorem dX7_setBridge_0 : decode cX7_setBridge 0 = .ok (.aload_n 0, 1) := by decide +kernel
theorem dX7_setBridge_1 : decode cX7_setBridge 1 = .ok (.iload_n 1, 1) := by decide +kernel
theorem dX7_setBridge_2 : decode cX7_setBridge 2 = .ok (.invokevirtual 68, 3) := by decide +kernel
theorem dX7_setBridge_5 : decode cX7_setBridge 5 = .ok (.ifCond .eq 15, 3) := by decide +kernel
theorem dX7_setBridge_8 : decode cX7_setBridge 8 = .ok (.aload_n 0, 1) := by decide +kernel
theorem dX7_setBridge_9 : decode cX7_setBridge 9 = .ok (.bipush 13, 2) := by decide +kernel
theorem dX7_setBridge_11 : decode cX7_setBridge 11 = .ok (.iload_n 1, 1) := by decide +kernel
theorem dX7_setBridge_12 : decode cX7_setBridge 12 = .ok (.iadd, 1) := by decide +kernel
theorem dX7_setBridge_13 : decode cX7_setBridge 13 = .ok (.iload_n 2, 1) := by decide +kernel
theorem dX7_setBridge_14 : decode cX7_setBridge 14 = .ok (.invokevirtual 92, 3) := by decide +kernel
theorem dX7_setBridge_17 : decode cX7_setBridge 17 = .ok (.goto 4, 3) := by decide +kernel
theorem dX7_setBridge_20 : decode cX7_setBridge 20 = .ok (.iconst (-1), 1) := by decide +kernel
theorem dX7_setBridge_21 : decode cX7_setBridge 21 = .ok (.ireturn, 1) := by decide +kernel
theorem dX7_setPort_0 : decode cX7_setPort 0 = .ok (.aload_n 0, 1) := by decide +kernel
theorem dX7_setPort_1 : decode cX7_setPort 1 = .ok (.iload_n 1, 1) := by decide +kernel
theorem dX7_setPort_2 : decode cX7_setPort 2 = .ok (.invokevirtual 85, 3) := by decide +kernel
theorem dX7_setPort_5 : decode cX7_setPort 5 = .ok (.ifCond .eq 15, 3) := by decide +kernel
theorem dX7_setPort_8 : decode cX7_setPort 8 = .ok (.aload_n 0, 1) := by decide +kernel
theorem dX7_setPort_9 : decode cX7_setPort 9 = .ok (.bipush 93, 2) := by decide +kernel
theorem dX7_setPort_11 : decode cX7_setPort 11 = .ok (.iload_n 1, 1) := by decide +kernel
theorem dX7_setPort_12 : decode cX7_setPort 12 = .ok (.iadd, 1) := by decide +kernel
theorem dX7_setPort_13 : decode cX7_setPort 13 = .ok (.iload_n 2, 1) := by decide +kernel
theorem dX7_setPort_14 : decode cX7_setPort 14 = .ok (.invokevirtual 92, 3) := by decide +kernel
theorem dX7_setPort_17 : decode cX7_setPort 17 = .ok (.goto 5, 3) := by decide +kernel
theorem dX7_setPort_20 : decode cX7_setPort 20 = .ok (.bipush (-3), 2) := by decide +kernel
theorem dX7_setPort_22 : decode cX7_setPort 22 = .ok (.ireturn, 1) := by decide +kernel
theorem dX7_moveStation_0 : decode cX7_moveStation 0 = .ok (.aload_n 0, 1) := by decide +kernel
theorem dX7_moveStation_1 : decode cX7_moveStation 1 = .ok (.iload_n 1, 1) := by decide +kernel
theorem dX7_moveStation_2 : decode cX7_moveStation 2 = .ok (.invokevirtual 96, 3) := by decide +kernel
theorem dX7_moveStation_5 : decode cX7_moveStation 5 = .ok (.ifCond .ne 6, 3) := by decide +kernel
theorem dX7_moveStation_8 : decode cX7_moveStation 8 = .ok (.bipush (-4), 2) := by decide +kernel
theorem dX7_moveStation_10 : decode cX7_moveStation 10 = .ok (.ireturn, 1) := by decide +kernel
theorem dX7_moveStation_11 : decode cX7_moveStation 11 = .ok (.aload_n 0, 1) := by decide +kernel
theorem dX7_moveStation_12 : decode cX7_moveStation 12 = .ok (.iload_n 2, 1) := by decide +kernel
theorem dX7_moveStation_13 : decode cX7_moveStation 13 = .ok (.invokevirtual 72, 3) := by decide +kernel
theorem dX7_moveStation_16 : decode cX7_moveStation 16 = .ok (.ifCond .eq 16, 3) := by decide +kernel
theorem dX7_moveStation_19 : decode cX7_moveStation 19 = .ok (.aload_n 0, 1) := by decide +kernel
theorem dX7_moveStation_20 : decode cX7_moveStation 20 = .ok (.sipush 285, 3) := by decide +kernel
theorem dX7_moveStation_23 : decode cX7_moveStation 23 = .ok (.iload_n 1, 1) := by decide +kernel
theorem dX7_moveStation_24 : decode cX7_moveStation 24 = .ok (.iadd, 1) := by decide +kernel
theorem dX7_moveStation_25 : decode cX7_moveStation 25 = .ok (.iload_n 2, 1) := by decide +kernel
theorem dX7_moveStation_26 : decode cX7_moveStation 26 = .ok (.invokevirtual 82, 3) := by decide +kernel
theorem dX7_moveStation_29 : decode cX7_moveStation 29 = .ok (.goto 5, 3) := by decide +kernel
theorem dX7_moveStation_32 : decode cX7_moveStation 32 = .ok (.bipush (-2), 2) := by decide +kernel
theorem dX7_moveStation_34 : decode cX7_moveStation 34 = .ok (.ireturn, 1) := by decide +kernel
theorem dX7_isBetterOffer_0 : decode cX7_isBetterOffer 0 = .ok (.aload_n 0, 1) := by decide +kernel
theorem dX7_isBetterOffer_1 : decode cX7_isBetterOffer 1 = .ok (.iload_n 1, 1) := by decide +kernel
theorem dX7_isBetterOffer_2 : decode cX7_isBetterOffer 2 = .ok (.iconst 1, 1) := by decide +kernel
theorem dX7_isBetterOffer_3 : decode cX7_isBetterOffer 3 = .ok (.invokevirtual 64, 3) := by decide +kernel
theorem dX7_isBetterOffer_6 : decode cX7_isBetterOffer 6 = .ok (.aload_n 0, 1) := by decide +kernel
theorem dX7_isBetterOffer_7 : decode cX7_isBetterOffer 7 = .ok (.getfield 7, 3) := by decide +kernel
theorem dX7_isBetterOffer_10 : decode cX7_isBetterOffer 10 = .ok (.bipush 69, 2) := by decide +kernel
theorem dX7_isBetterOffer_12 : decode cX7_isBetterOffer 12 = .ok (.iload_n 1, 1) := by decide +kernel
theorem dX7_isBetterOffer_13 : decode cX7_isBetterOffer 13 = .ok (.iadd, 1) := by decide +kernel
theorem dX7_isBetterOffer_14 : decode cX7_isBetterOffer 14 = .ok (.iaload, 1) := by decide +kernel
theorem dX7_isBetterOffer_15 : decode cX7_isBetterOffer 15 = .ok (.iadd, 1) := by decide +kernel
theorem dX7_isBetterOffer_16 : decode cX7_isBetterOffer 16 = .ok (.istore_n 3, 1) := by decide +kernel
theorem dX7_isBetterOffer_17 : decode cX7_isBetterOffer 17 = .ok (.aload_n 0, 1) := by decide +kernel
theorem dX7_isBetterOffer_18 : decode cX7_isBetterOffer 18 = .ok (.iload_n 2, 1) := by decide +kernel
theorem dX7_isBetterOffer_19 : decode cX7_isBetterOffer 19 = .ok (.iconst 1, 1) := by decide +kernel
theorem dX7_isBetterOffer_20 : decode cX7_isBetterOffer 20 = .ok (.invokevirtual 64, 3) := by decide +kernel
theorem dX7_isBetterOffer_23 : decode cX7_isBetterOffer 23 = .ok (.aload_n 0, 1) := by decide +kernel
theorem dX7_isBetterOffer_24 : decode cX7_isBetterOffer 24 = .ok (.getfield 7, 3) := by decide +kernel
theorem dX7_isBetterOffer_27 : decode cX7_isBetterOffer 27 = .ok (.bipush 69, 2) := by decide +kernel
theorem dX7_isBetterOffer_29 : decode cX7_isBetterOffer 29 = .ok (.iload_n 2, 1) := by decide +kernel
theorem dX7_isBetterOffer_30 : decode cX7_isBetterOffer 30 = .ok (.iadd, 1) := by decide +kernel
theorem dX7_isBetterOffer_31 : decode cX7_isBetterOffer 31 = .ok (.iaload, 1) := by decide +kernel
theorem dX7_isBetterOffer_32 : decode cX7_isBetterOffer 32 = .ok (.iadd, 1) := by decide +kernel
theorem dX7_isBetterOffer_33 : decode cX7_isBetterOffer 33 = .ok (.istore 4, 2) := by decide +kernel
theorem dX7_isBetterOffer_35 : decode cX7_isBetterOffer 35 = .ok (.aload_n 0, 1) := by decide +kernel
theorem dX7_isBetterOffer_36 : decode cX7_isBetterOffer 36 = .ok (.iload_n 1, 1) := by decide +kernel
theorem dX7_isBetterOffer_37 : decode cX7_isBetterOffer 37 = .ok (.iconst 0, 1) := by decide +kernel
theorem dX7_isBetterOffer_38 : decode cX7_isBetterOffer 38 = .ok (.invokevirtual 64, 3) := by decide +kernel
theorem dX7_isBetterOffer_41 : decode cX7_isBetterOffer 41 = .ok (.aload_n 0, 1) := by decide +kernel
theorem dX7_isBetterOffer_42 : decode cX7_isBetterOffer 42 = .ok (.iload_n 2, 1) := by decide +kernel
theorem dX7_isBetterOffer_43 : decode cX7_isBetterOffer 43 = .ok (.iconst 0, 1) := by decide +kernel
theorem dX7_isBetterOffer_44 : decode cX7_isBetterOffer 44 = .ok (.invokevirtual 64, 3) := by decide +kernel
theorem dX7_isBetterOffer_47 : decode cX7_isBetterOffer 47 = .ok (.if_icmp .eq 24, 3) := by decide +kernel
theorem dX7_isBetterOffer_50 : decode cX7_isBetterOffer 50 = .ok (.aload_n 0, 1) := by decide +kernel
theorem dX7_isBetterOffer_51 : decode cX7_isBetterOffer 51 = .ok (.iload_n 1, 1) := by decide +kernel
theorem dX7_isBetterOffer_52 : decode cX7_isBetterOffer 52 = .ok (.iconst 0, 1) := by decide +kernel
theorem dX7_isBetterOffer_53 : decode cX7_isBetterOffer 53 = .ok (.invokevirtual 64, 3) := by decide +kernel
theorem dX7_isBetterOffer_56 : decode cX7_isBetterOffer 56 = .ok (.aload_n 0, 1) := by decide +kernel
theorem dX7_isBetterOffer_57 : decode cX7_isBetterOffer 57 = .ok (.iload_n 2, 1) := by decide +kernel
theorem dX7_isBetterOffer_58 : decode cX7_isBetterOffer 58 = .ok (.iconst 0, 1) := by decide +kernel
theorem dX7_isBetterOffer_59 : decode cX7_isBetterOffer 59 = .ok (.invokevirtual 64, 3) := by decide +kernel
theorem dX7_isBetterOffer_62 : decode cX7_isBetterOffer 62 = .ok (.if_icmp .ge 7, 3) := by decide +kernel
theorem dX7_isBetterOffer_65 : decode cX7_isBetterOffer 65 = .ok (.iconst 1, 1) := by decide +kernel
theorem dX7_isBetterOffer_66 : decode cX7_isBetterOffer 66 = .ok (.goto 4, 3) := by decide +kernel
theorem dX7_isBetterOffer_69 : decode cX7_isBetterOffer 69 = .ok (.iconst 0, 1) := by decide +kernel
theorem dX7_isBetterOffer_70 : decode cX7_isBetterOffer 70 = .ok (.ireturn, 1) := by decide +kernel
theorem dX7_isBetterOffer_71 : decode cX7_isBetterOffer 71 = .ok (.iload_n 3, 1) := by decide +kernel
theorem dX7_isBetterOffer_72 : decode cX7_isBetterOffer 72 = .ok (.iload 4, 2) := by decide +kernel
theorem dX7_isBetterOffer_74 : decode cX7_isBetterOffer 74 = .ok (.if_icmp .eq 15, 3) := by decide +kernel
theorem dX7_isBetterOffer_77 : decode cX7_isBetterOffer 77 = .ok (.iload_n 3, 1) := by decide +kernel
theorem dX7_isBetterOffer_78 : decode cX7_isBetterOffer 78 = .ok (.iload 4, 2) := by decide +kernel
theorem dX7_isBetterOffer_80 : decode cX7_isBetterOffer 80 = .ok (.if_icmp .ge 7, 3) := by decide +kernel
theorem dX7_isBetterOffer_83 : decode cX7_isBetterOffer 83 = .ok (.iconst 1, 1) := by decide +kernel
theorem dX7_isBetterOffer_84 : decode cX7_isBetterOffer 84 = .ok (.goto 4, 3) := by decide +kernel
theorem dX7_isBetterOffer_87 : decode cX7_isBetterOffer 87 = .ok (.iconst 0, 1) := by decide +kernel
theorem dX7_isBetterOffer_88 : decode cX7_isBetterOffer 88 = .ok (.ireturn, 1) := by decide +kernel
theorem dX7_isBetterOffer_89 : decode cX7_isBetterOffer 89 = .ok (.aload_n 0, 1) := by decide +kernel
theorem dX7_isBetterOffer_90 : decode cX7_isBetterOffer 90 = .ok (.iload_n 1, 1) := by decide +kernel
theorem dX7_isBetterOffer_91 : decode cX7_isBetterOffer 91 = .ok (.iconst 2, 1) := by decide +kernel
theorem dX7_isBetterOffer_92 : decode cX7_isBetterOffer 92 = .ok (.invokevirtual 64, 3) := by decide +kernel
theorem dX7_isBetterOffer_95 : decode cX7_isBetterOffer 95 = .ok (.aload_n 0, 1) := by decide +kernel
theorem dX7_isBetterOffer_96 : decode cX7_isBetterOffer 96 = .ok (.iload_n 2, 1) := by decide +kernel
theorem dX7_isBetterOffer_97 : decode cX7_isBetterOffer 97 = .ok (.iconst 2, 1) := by decide +kernel
theorem dX7_isBetterOffer_98 : decode cX7_isBetterOffer 98 = .ok (.invokevirtual 64, 3) := by decide +kernel
theorem dX7_isBetterOffer_101 : decode cX7_isBetterOffer 101 = .ok (.if_icmp .eq 24, 3) := by decide +kernel
theorem dX7_isBetterOffer_104 : decode cX7_isBetterOffer 104 = .ok (.aload_n 0, 1) := by decide +kernel
theorem dX7_isBetterOffer_105 : decode cX7_isBetterOffer 105 = .ok (.iload_n 1, 1) := by decide +kernel
theorem dX7_isBetterOffer_106 : decode cX7_isBetterOffer 106 = .ok (.iconst 2, 1) := by decide +kernel
theorem dX7_isBetterOffer_107 : decode cX7_isBetterOffer 107 = .ok (.invokevirtual 64, 3) := by decide +kernel
theorem dX7_isBetterOffer_110 : decode cX7_isBetterOffer 110 = .ok (.aload_n 0, 1) := by decide +kernel
theorem dX7_isBetterOffer_111 : decode cX7_isBetterOffer 111 = .ok (.iload_n 2, 1) := by decide +kernel
theorem dX7_isBetterOffer_112 : decode cX7_isBetterOffer 112 = .ok (.iconst 2, 1) := by decide +kernel
theorem dX7_isBetterOffer_113 : decode cX7_isBetterOffer 113 = .ok (.invokevirtual 64, 3) := by decide +kernel
theorem dX7_isBetterOffer_116 : decode cX7_isBetterOffer 116 = .ok (.if_icmp .ge 7, 3) := by decide +kernel
theorem dX7_isBetterOffer_119 : decode cX7_isBetterOffer 119 = .ok (.iconst 1, 1) := by decide +kernel
theorem dX7_isBetterOffer_120 : decode cX7_isBetterOffer 120 = .ok (.goto 4, 3) := by decide +kernel
theorem dX7_isBetterOffer_123 : decode cX7_isBetterOffer 123 = .ok (.iconst 0, 1) := by decide +kernel
theorem dX7_isBetterOffer_124 : decode cX7_isBetterOffer 124 = .ok (.ireturn, 1) := by decide +kernel
theorem dX7_isBetterOffer_125 : decode cX7_isBetterOffer 125 = .ok (.aload_n 0, 1) := by decide +kernel
theorem dX7_isBetterOffer_126 : decode cX7_isBetterOffer 126 = .ok (.iload_n 1, 1) := by decide +kernel
theorem dX7_isBetterOffer_127 : decode cX7_isBetterOffer 127 = .ok (.iconst 3, 1) := by decide +kernel
theorem dX7_isBetterOffer_128 : decode cX7_isBetterOffer 128 = .ok (.invokevirtual 64, 3) := by decide +kernel
theorem dX7_isBetterOffer_131 : decode cX7_isBetterOffer 131 = .ok (.aload_n 0, 1) := by decide +kernel
theorem dX7_isBetterOffer_132 : decode cX7_isBetterOffer 132 = .ok (.iload_n 2, 1) := by decide +kernel
theorem dX7_isBetterOffer_133 : decode cX7_isBetterOffer 133 = .ok (.iconst 3, 1) := by decide +kernel
theorem dX7_isBetterOffer_134 : decode cX7_isBetterOffer 134 = .ok (.invokevirtual 64, 3) := by decide +kernel
theorem dX7_isBetterOffer_137 : decode cX7_isBetterOffer 137 = .ok (.if_icmp .eq 26, 3) := by decide +kernel
theorem dX7_isBetterOffer_140 : decode cX7_isBetterOffer 140 = .ok (.aload_n 0, 1) := by decide +kernel
theorem dX7_isBetterOffer_141 : decode cX7_isBetterOffer 141 = .ok (.iload_n 1, 1) := by decide +kernel
theorem dX7_isBetterOffer_142 : decode cX7_isBetterOffer 142 = .ok (.iconst 3, 1) := by decide +kernel
theorem dX7_isBetterOffer_143 : decode cX7_isBetterOffer 143 = .ok (.invokevirtual 64, 3) := by decide +kernel
theorem dX7_isBetterOffer_146 : decode cX7_isBetterOffer 146 = .ok (.aload_n 0, 1) := by decide +kernel
theorem dX7_isBetterOffer_147 : decode cX7_isBetterOffer 147 = .ok (.iload_n 2, 1) := by decide +kernel
theorem dX7_isBetterOffer_148 : decode cX7_isBetterOffer 148 = .ok (.iconst 3, 1) := by decide +kernel
theorem dX7_isBetterOffer_149 : decode cX7_isBetterOffer 149 = .ok (.invokevirtual 64, 3) := by decide +kernel
theorem dX7_isBetterOffer_152 : decode cX7_isBetterOffer 152 = .ok (.if_icmp .ge 7, 3) := by decide +kernel
theorem dX7_isBetterOffer_155 : decode cX7_isBetterOffer 155 = .ok (.iconst 1, 1) := by decide +kernel
theorem dX7_isBetterOffer_156 : decode cX7_isBetterOffer 156 = .ok (.goto 17, 3) := by decide +kernel
theorem dX7_isBetterOffer_159 : decode cX7_isBetterOffer 159 = .ok (.iconst 0, 1) := by decide +kernel
theorem dX7_isBetterOffer_160 : decode cX7_isBetterOffer 160 = .ok (.goto 13, 3) := by decide +kernel
theorem dX7_isBetterOffer_163 : decode cX7_isBetterOffer 163 = .ok (.iload_n 1, 1) := by decide +kernel
theorem dX7_isBetterOffer_164 : decode cX7_isBetterOffer 164 = .ok (.iload_n 2, 1) := by decide +kernel
theorem dX7_isBetterOffer_165 : decode cX7_isBetterOffer 165 = .ok (.if_icmp .ge 7, 3) := by decide +kernel
theorem dX7_isBetterOffer_168 : decode cX7_isBetterOffer 168 = .ok (.iconst 1, 1) := by decide +kernel
theorem dX7_isBetterOffer_169 : decode cX7_isBetterOffer 169 = .ok (.goto 4, 3) := by decide +kernel
theorem dX7_isBetterOffer_172 : decode cX7_isBetterOffer 172 = .ok (.iconst 0, 1) := by decide +kernel
theorem dX7_isBetterOffer_173 : decode cX7_isBetterOffer 173 = .ok (.ireturn, 1) := by decide +kernel
theorem dX7_layRoot_0 : decode cX7_layRoot 0 = .ok (.bipush (-9), 2) := by decide +kernel
theorem dX7_layRoot_2 : decode cX7_layRoot 2 = .ok (.istore_n 2, 1) := by decide +kernel
theorem dX7_layRoot_3 : decode cX7_layRoot 3 = .ok (.iconst 0, 1) := by decide +kernel
theorem dX7_layRoot_4 : decode cX7_layRoot 4 = .ok (.istore_n 3, 1) := by decide +kernel
theorem dX7_layRoot_5 : decode cX7_layRoot 5 = .ok (.iload_n 3, 1) := by decide +kernel
theorem dX7_layRoot_6 : decode cX7_layRoot 6 = .ok (.aload_n 0, 1) := by decide +kernel
theorem dX7_layRoot_7 : decode cX7_layRoot 7 = .ok (.invokevirtual 75, 3) := by decide +kernel
theorem dX7_layRoot_10 : decode cX7_layRoot 10 = .ok (.if_icmp .ge 79, 3) := by decide +kernel
theorem dX7_layRoot_13 : decode cX7_layRoot 13 = .ok (.aload_n 0, 1) := by decide +kernel
theorem dX7_layRoot_14 : decode cX7_layRoot 14 = .ok (.iload_n 3, 1) := by decide +kernel
theorem dX7_layRoot_15 : decode cX7_layRoot 15 = .ok (.invokevirtual 60, 3) := by decide +kernel
theorem dX7_layRoot_18 : decode cX7_layRoot 18 = .ok (.iload_n 1, 1) := by decide +kernel
theorem dX7_layRoot_19 : decode cX7_layRoot 19 = .ok (.if_icmp .ne 37, 3) := by decide +kernel
theorem dX7_layRoot_22 : decode cX7_layRoot 22 = .ok (.aload_n 0, 1) := by decide +kernel
theorem dX7_layRoot_23 : decode cX7_layRoot 23 = .ok (.iload_n 3, 1) := by decide +kernel
theorem dX7_layRoot_24 : decode cX7_layRoot 24 = .ok (.invokevirtual 79, 3) := by decide +kernel
theorem dX7_layRoot_27 : decode cX7_layRoot 27 = .ok (.ifCond .eq 29, 3) := by decide +kernel
theorem dX7_layRoot_30 : decode cX7_layRoot 30 = .ok (.aload_n 0, 1) := by decide +kernel
theorem dX7_layRoot_31 : decode cX7_layRoot 31 = .ok (.iload_n 3, 1) := by decide +kernel
theorem dX7_layRoot_32 : decode cX7_layRoot 32 = .ok (.invokevirtual 99, 3) := by decide +kernel
theorem dX7_layRoot_35 : decode cX7_layRoot 35 = .ok (.ifCond .eq 21, 3) := by decide +kernel
theorem dX7_layRoot_38 : decode cX7_layRoot 38 = .ok (.aload_n 0, 1) := by decide +kernel
theorem dX7_layRoot_39 : decode cX7_layRoot 39 = .ok (.iload_n 3, 1) := by decide +kernel
theorem dX7_layRoot_40 : decode cX7_layRoot 40 = .ok (.iconst 2, 1) := by decide +kernel
theorem dX7_layRoot_41 : decode cX7_layRoot 41 = .ok (.invokevirtual 64, 3) := by decide +kernel
theorem dX7_layRoot_44 : decode cX7_layRoot 44 = .ok (.aload_n 0, 1) := by decide +kernel
theorem dX7_layRoot_45 : decode cX7_layRoot 45 = .ok (.iload_n 1, 1) := by decide +kernel
theorem dX7_layRoot_46 : decode cX7_layRoot 46 = .ok (.invokevirtual 102, 3) := by decide +kernel
theorem dX7_layRoot_49 : decode cX7_layRoot 49 = .ok (.if_icmp .eq 7, 3) := by decide +kernel
theorem dX7_layRoot_52 : decode cX7_layRoot 52 = .ok (.iconst 1, 1) := by decide +kernel
theorem dX7_layRoot_53 : decode cX7_layRoot 53 = .ok (.goto 4, 3) := by decide +kernel
theorem dX7_layRoot_56 : decode cX7_layRoot 56 = .ok (.iconst 0, 1) := by decide +kernel
theorem dX7_layRoot_57 : decode cX7_layRoot 57 = .ok (.istore 4, 2) := by decide +kernel
theorem dX7_layRoot_59 : decode cX7_layRoot 59 = .ok (.iload 4, 2) := by decide +kernel
theorem dX7_layRoot_61 : decode cX7_layRoot 61 = .ok (.ifCond .eq 20, 3) := by decide +kernel
theorem dX7_layRoot_64 : decode cX7_layRoot 64 = .ok (.iload_n 2, 1) := by decide +kernel
theorem dX7_layRoot_65 : decode cX7_layRoot 65 = .ok (.ifCond .lt 12, 3) := by decide +kernel
theorem dX7_layRoot_68 : decode cX7_layRoot 68 = .ok (.aload_n 0, 1) := by decide +kernel
theorem dX7_layRoot_69 : decode cX7_layRoot 69 = .ok (.iload_n 3, 1) := by decide +kernel
theorem dX7_layRoot_70 : decode cX7_layRoot 70 = .ok (.iload_n 2, 1) := by decide +kernel
theorem dX7_layRoot_71 : decode cX7_layRoot 71 = .ok (.invokevirtual 105, 3) := by decide +kernel
theorem dX7_layRoot_74 : decode cX7_layRoot 74 = .ok (.ifCond .eq 7, 3) := by decide +kernel
theorem dX7_layRoot_77 : decode cX7_layRoot 77 = .ok (.iload_n 3, 1) := by decide +kernel
theorem dX7_layRoot_78 : decode cX7_layRoot 78 = .ok (.goto 4, 3) := by decide +kernel
theorem dX7_layRoot_81 : decode cX7_layRoot 81 = .ok (.iload_n 2, 1) := by decide +kernel
theorem dX7_layRoot_82 : decode cX7_layRoot 82 = .ok (.istore_n 2, 1) := by decide +kernel
theorem dX7_layRoot_83 : decode cX7_layRoot 83 = .ok (.iinc 3 1, 3) := by decide +kernel
theorem dX7_layRoot_86 : decode cX7_layRoot 86 = .ok (.goto (-81), 3) := by decide +kernel
theorem dX7_layRoot_89 : decode cX7_layRoot 89 = .ok (.iload_n 2, 1) := by decide +kernel
theorem dX7_layRoot_90 : decode cX7_layRoot 90 = .ok (.ifCond .lt 21, 3) := by decide +kernel
theorem dX7_layRoot_93 : decode cX7_layRoot 93 = .ok (.aload_n 0, 1) := by decide +kernel
theorem dX7_layRoot_94 : decode cX7_layRoot 94 = .ok (.iload_n 2, 1) := by decide +kernel
theorem dX7_layRoot_95 : decode cX7_layRoot 95 = .ok (.iconst 0, 1) := by decide +kernel
theorem dX7_layRoot_96 : decode cX7_layRoot 96 = .ok (.invokevirtual 64, 3) := by decide +kernel
theorem dX7_layRoot_99 : decode cX7_layRoot 99 = .ok (.aload_n 0, 1) := by decide +kernel
theorem dX7_layRoot_100 : decode cX7_layRoot 100 = .ok (.iload_n 1, 1) := by decide +kernel
theorem dX7_layRoot_101 : decode cX7_layRoot 101 = .ok (.invokevirtual 102, 3) := by decide +kernel
theorem dX7_layRoot_104 : decode cX7_layRoot 104 = .ok (.if_icmp .ge 7, 3) := by decide +kernel
theorem dX7_layRoot_107 : decode cX7_layRoot 107 = .ok (.iconst 1, 1) := by decide +kernel
theorem dX7_layRoot_108 : decode cX7_layRoot 108 = .ok (.goto 4, 3) := by decide +kernel
theorem dX7_layRoot_111 : decode cX7_layRoot 111 = .ok (.iconst 0, 1) := by decide +kernel
theorem dX7_layRoot_112 : decode cX7_layRoot 112 = .ok (.istore_n 3, 1) := by decide +kernel
theorem dX7_layRoot_113 : decode cX7_layRoot 113 = .ok (.aload_n 0, 1) := by decide +kernel
theorem dX7_layRoot_114 : decode cX7_layRoot 114 = .ok (.getfield 23, 3) := by decide +kernel
theorem dX7_layRoot_117 : decode cX7_layRoot 117 = .ok (.iload_n 1, 1) := by decide +kernel
theorem dX7_layRoot_118 : decode cX7_layRoot 118 = .ok (.iload_n 3, 1) := by decide +kernel
theorem dX7_layRoot_119 : decode cX7_layRoot 119 = .ok (.ifCond .eq 7, 3) := by decide +kernel
theorem dX7_layRoot_122 : decode cX7_layRoot 122 = .ok (.iload_n 2, 1) := by decide +kernel
theorem dX7_layRoot_123 : decode cX7_layRoot 123 = .ok (.goto 5, 3) := by decide +kernel
theorem dX7_layRoot_126 : decode cX7_layRoot 126 = .ok (.bipush (-9), 2) := by decide +kernel
theorem dX7_layRoot_128 : decode cX7_layRoot 128 = .ok (.iastore, 1) := by decide +kernel
theorem dX7_layRoot_129 : decode cX7_layRoot 129 = .ok (.aload_n 0, 1) := by decide +kernel
theorem dX7_layRoot_130 : decode cX7_layRoot 130 = .ok (.getfield 26, 3) := by decide +kernel
theorem dX7_layRoot_133 : decode cX7_layRoot 133 = .ok (.iload_n 1, 1) := by decide +kernel
theorem dX7_layRoot_134 : decode cX7_layRoot 134 = .ok (.iload_n 3, 1) := by decide +kernel
theorem dX7_layRoot_135 : decode cX7_layRoot 135 = .ok (.ifCond .eq 12, 3) := by decide +kernel
theorem dX7_layRoot_138 : decode cX7_layRoot 138 = .ok (.aload_n 0, 1) := by decide +kernel
theorem dX7_layRoot_139 : decode cX7_layRoot 139 = .ok (.iload_n 2, 1) := by decide +kernel
theorem dX7_layRoot_140 : decode cX7_layRoot 140 = .ok (.iconst 0, 1) := by decide +kernel
theorem dX7_layRoot_141 : decode cX7_layRoot 141 = .ok (.invokevirtual 64, 3) := by decide +kernel
theorem dX7_layRoot_144 : decode cX7_layRoot 144 = .ok (.goto 8, 3) := by decide +kernel
theorem dX7_layRoot_147 : decode cX7_layRoot 147 = .ok (.aload_n 0, 1) := by decide +kernel
theorem dX7_layRoot_148 : decode cX7_layRoot 148 = .ok (.iload_n 1, 1) := by decide +kernel
theorem dX7_layRoot_149 : decode cX7_layRoot 149 = .ok (.invokevirtual 102, 3) := by decide +kernel
theorem dX7_layRoot_152 : decode cX7_layRoot 152 = .ok (.iastore, 1) := by decide +kernel
theorem dX7_layRoot_153 : decode cX7_layRoot 153 = .ok (.aload_n 0, 1) := by decide +kernel
theorem dX7_layRoot_154 : decode cX7_layRoot 154 = .ok (.getfield 29, 3) := by decide +kernel
theorem dX7_layRoot_157 : decode cX7_layRoot 157 = .ok (.iload_n 1, 1) := by decide +kernel
theorem dX7_layRoot_158 : decode cX7_layRoot 158 = .ok (.iload_n 3, 1) := by decide +kernel
theorem dX7_layRoot_159 : decode cX7_layRoot 159 = .ok (.ifCond .eq 22, 3) := by decide +kernel
theorem dX7_layRoot_162 : decode cX7_layRoot 162 = .ok (.aload_n 0, 1) := by decide +kernel
theorem dX7_layRoot_163 : decode cX7_layRoot 163 = .ok (.iload_n 2, 1) := by decide +kernel
theorem dX7_layRoot_164 : decode cX7_layRoot 164 = .ok (.iconst 1, 1) := by decide +kernel
theorem dX7_layRoot_165 : decode cX7_layRoot 165 = .ok (.invokevirtual 64, 3) := by decide +kernel
theorem dX7_layRoot_168 : decode cX7_layRoot 168 = .ok (.aload_n 0, 1) := by decide +kernel
theorem dX7_layRoot_169 : decode cX7_layRoot 169 = .ok (.getfield 7, 3) := by decide +kernel
theorem dX7_layRoot_172 : decode cX7_layRoot 172 = .ok (.bipush 69, 2) := by decide +kernel
theorem dX7_layRoot_174 : decode cX7_layRoot 174 = .ok (.iload_n 2, 1) := by decide +kernel
theorem dX7_layRoot_175 : decode cX7_layRoot 175 = .ok (.iadd, 1) := by decide +kernel
theorem dX7_layRoot_176 : decode cX7_layRoot 176 = .ok (.iaload, 1) := by decide +kernel
theorem dX7_layRoot_177 : decode cX7_layRoot 177 = .ok (.iadd, 1) := by decide +kernel
theorem dX7_layRoot_178 : decode cX7_layRoot 178 = .ok (.goto 4, 3) := by decide +kernel
theorem dX7_layRoot_181 : decode cX7_layRoot 181 = .ok (.iconst 0, 1) := by decide +kernel
theorem dX7_layRoot_182 : decode cX7_layRoot 182 = .ok (.iastore, 1) := by decide +kernel
theorem dX7_layRoot_183 : decode cX7_layRoot 183 = .ok (.return_, 1) := by decide +kernel
theorem dX7_isBetter_0 : decode cX7_isBetter 0 = .ok (.iload_n 0, 1) := by decide +kernel
theorem dX7_isBetter_1 : decode cX7_isBetter 1 = .ok (.iload 4, 2) := by decide +kernel
theorem dX7_isBetter_3 : decode cX7_isBetter 3 = .ok (.if_icmp .eq 15, 3) := by decide +kernel
theorem dX7_isBetter_6 : decode cX7_isBetter 6 = .ok (.iload_n 0, 1) := by decide +kernel
theorem dX7_isBetter_7 : decode cX7_isBetter 7 = .ok (.iload 4, 2) := by decide +kernel
theorem dX7_isBetter_9 : decode cX7_isBetter 9 = .ok (.if_icmp .ge 7, 3) := by decide +kernel
theorem dX7_isBetter_12 : decode cX7_isBetter 12 = .ok (.iconst 1, 1) := by decide +kernel
theorem dX7_isBetter_13 : decode cX7_isBetter 13 = .ok (.goto 4, 3) := by decide +kernel
theorem dX7_isBetter_16 : decode cX7_isBetter 16 = .ok (.iconst 0, 1) := by decide +kernel
theorem dX7_isBetter_17 : decode cX7_isBetter 17 = .ok (.ireturn, 1) := by decide +kernel
theorem dX7_isBetter_18 : decode cX7_isBetter 18 = .ok (.iload_n 1, 1) := by decide +kernel
theorem dX7_isBetter_19 : decode cX7_isBetter 19 = .ok (.iload 5, 2) := by decide +kernel
theorem dX7_isBetter_21 : decode cX7_isBetter 21 = .ok (.if_icmp .eq 15, 3) := by decide +kernel
theorem dX7_isBetter_24 : decode cX7_isBetter 24 = .ok (.iload_n 1, 1) := by decide +kernel
theorem dX7_isBetter_25 : decode cX7_isBetter 25 = .ok (.iload 5, 2) := by decide +kernel
theorem dX7_isBetter_27 : decode cX7_isBetter 27 = .ok (.if_icmp .ge 7, 3) := by decide +kernel
theorem dX7_isBetter_30 : decode cX7_isBetter 30 = .ok (.iconst 1, 1) := by decide +kernel
theorem dX7_isBetter_31 : decode cX7_isBetter 31 = .ok (.goto 4, 3) := by decide +kernel
theorem dX7_isBetter_34 : decode cX7_isBetter 34 = .ok (.iconst 0, 1) := by decide +kernel
theorem dX7_isBetter_35 : decode cX7_isBetter 35 = .ok (.ireturn, 1) := by decide +kernel
theorem dX7_isBetter_36 : decode cX7_isBetter 36 = .ok (.iload_n 2, 1) := by decide +kernel
theorem dX7_isBetter_37 : decode cX7_isBetter 37 = .ok (.iload 6, 2) := by decide +kernel
theorem dX7_isBetter_39 : decode cX7_isBetter 39 = .ok (.if_icmp .eq 17, 3) := by decide +kernel
theorem dX7_isBetter_42 : decode cX7_isBetter 42 = .ok (.iload_n 2, 1) := by decide +kernel
theorem dX7_isBetter_43 : decode cX7_isBetter 43 = .ok (.iload 6, 2) := by decide +kernel
theorem dX7_isBetter_45 : decode cX7_isBetter 45 = .ok (.if_icmp .ge 7, 3) := by decide +kernel
theorem dX7_isBetter_48 : decode cX7_isBetter 48 = .ok (.iconst 1, 1) := by decide +kernel
theorem dX7_isBetter_49 : decode cX7_isBetter 49 = .ok (.goto 18, 3) := by decide +kernel
theorem dX7_isBetter_52 : decode cX7_isBetter 52 = .ok (.iconst 0, 1) := by decide +kernel
theorem dX7_isBetter_53 : decode cX7_isBetter 53 = .ok (.goto 14, 3) := by decide +kernel
theorem dX7_isBetter_56 : decode cX7_isBetter 56 = .ok (.iload_n 3, 1) := by decide +kernel
theorem dX7_isBetter_57 : decode cX7_isBetter 57 = .ok (.iload 7, 2) := by decide +kernel
theorem dX7_isBetter_59 : decode cX7_isBetter 59 = .ok (.if_icmp .ge 7, 3) := by decide +kernel
theorem dX7_isBetter_62 : decode cX7_isBetter 62 = .ok (.iconst 1, 1) := by decide +kernel
theorem dX7_isBetter_63 : decode cX7_isBetter 63 = .ok (.goto 4, 3) := by decide +kernel
theorem dX7_isBetter_66 : decode cX7_isBetter 66 = .ok (.iconst 0, 1) := by decide +kernel
theorem dX7_isBetter_67 : decode cX7_isBetter 67 = .ok (.ireturn, 1) := by decide +kernel
theorem dX7_isOwnBetter_0 : decode cX7_isOwnBetter 0 = .ok (.aload_n 0, 1) := by decide +kernel
theorem dX7_isOwnBetter_1 : decode cX7_isOwnBetter 1 = .ok (.iload_n 1, 1) := by decide +kernel
theorem dX7_isOwnBetter_2 : decode cX7_isOwnBetter 2 = .ok (.invokevirtual 60, 3) := by decide +kernel
theorem dX7_isOwnBetter_5 : decode cX7_isOwnBetter 5 = .ok (.istore_n 2, 1) := by decide +kernel
theorem dX7_isOwnBetter_6 : decode cX7_isOwnBetter 6 = .ok (.aload_n 0, 1) := by decide +kernel
theorem dX7_isOwnBetter_7 : decode cX7_isOwnBetter 7 = .ok (.getfield 26, 3) := by decide +kernel
theorem dX7_isOwnBetter_10 : decode cX7_isOwnBetter 10 = .ok (.iload_n 2, 1) := by decide +kernel
theorem dX7_isOwnBetter_11 : decode cX7_isOwnBetter 11 = .ok (.iaload, 1) := by decide +kernel
theorem dX7_isOwnBetter_12 : decode cX7_isOwnBetter 12 = .ok (.aload_n 0, 1) := by decide +kernel
theorem dX7_isOwnBetter_13 : decode cX7_isOwnBetter 13 = .ok (.getfield 29, 3) := by decide +kernel
theorem dX7_isOwnBetter_16 : decode cX7_isOwnBetter 16 = .ok (.iload_n 2, 1) := by decide +kernel
theorem dX7_isOwnBetter_17 : decode cX7_isOwnBetter 17 = .ok (.iaload, 1) := by decide +kernel
theorem dX7_isOwnBetter_18 : decode cX7_isOwnBetter 18 = .ok (.aload_n 0, 1) := by decide +kernel
theorem dX7_isOwnBetter_19 : decode cX7_isOwnBetter 19 = .ok (.iload_n 2, 1) := by decide +kernel
theorem dX7_isOwnBetter_20 : decode cX7_isOwnBetter 20 = .ok (.invokevirtual 102, 3) := by decide +kernel
theorem dX7_isOwnBetter_23 : decode cX7_isOwnBetter 23 = .ok (.iload_n 1, 1) := by decide +kernel
theorem dX7_isOwnBetter_24 : decode cX7_isOwnBetter 24 = .ok (.aload_n 0, 1) := by decide +kernel
theorem dX7_isOwnBetter_25 : decode cX7_isOwnBetter 25 = .ok (.iload_n 1, 1) := by decide +kernel
theorem dX7_isOwnBetter_26 : decode cX7_isOwnBetter 26 = .ok (.iconst 0, 1) := by decide +kernel
theorem dX7_isOwnBetter_27 : decode cX7_isOwnBetter 27 = .ok (.invokevirtual 64, 3) := by decide +kernel
theorem dX7_isOwnBetter_30 : decode cX7_isOwnBetter 30 = .ok (.aload_n 0, 1) := by decide +kernel
theorem dX7_isOwnBetter_31 : decode cX7_isOwnBetter 31 = .ok (.iload_n 1, 1) := by decide +kernel
theorem dX7_isOwnBetter_32 : decode cX7_isOwnBetter 32 = .ok (.iconst 1, 1) := by decide +kernel
theorem dX7_isOwnBetter_33 : decode cX7_isOwnBetter 33 = .ok (.invokevirtual 64, 3) := by decide +kernel
theorem dX7_isOwnBetter_36 : decode cX7_isOwnBetter 36 = .ok (.aload_n 0, 1) := by decide +kernel
theorem dX7_isOwnBetter_37 : decode cX7_isOwnBetter 37 = .ok (.iload_n 1, 1) := by decide +kernel
theorem dX7_isOwnBetter_38 : decode cX7_isOwnBetter 38 = .ok (.iconst 2, 1) := by decide +kernel
theorem dX7_isOwnBetter_39 : decode cX7_isOwnBetter 39 = .ok (.invokevirtual 64, 3) := by decide +kernel
theorem dX7_isOwnBetter_42 : decode cX7_isOwnBetter 42 = .ok (.aload_n 0, 1) := by decide +kernel
theorem dX7_isOwnBetter_43 : decode cX7_isOwnBetter 43 = .ok (.iload_n 1, 1) := by decide +kernel
theorem dX7_isOwnBetter_44 : decode cX7_isOwnBetter 44 = .ok (.iconst 3, 1) := by decide +kernel
theorem dX7_isOwnBetter_45 : decode cX7_isOwnBetter 45 = .ok (.invokevirtual 64, 3) := by decide +kernel
theorem dX7_isOwnBetter_48 : decode cX7_isOwnBetter 48 = .ok (.invokestatic 109, 3) := by decide +kernel
theorem dX7_isOwnBetter_51 : decode cX7_isOwnBetter 51 = .ok (.ireturn, 1) := by decide +kernel
theorem dX7_roleOf_0 : decode cX7_roleOf 0 = .ok (.aload_n 0, 1) := by decide +kernel
theorem dX7_roleOf_1 : decode cX7_roleOf 1 = .ok (.iload_n 1, 1) := by decide +kernel
theorem dX7_roleOf_2 : decode cX7_roleOf 2 = .ok (.invokevirtual 79, 3) := by decide +kernel
theorem dX7_roleOf_5 : decode cX7_roleOf 5 = .ok (.ifCond .ne 5, 3) := by decide +kernel
theorem dX7_roleOf_8 : decode cX7_roleOf 8 = .ok (.iconst 0, 1) := by decide +kernel
theorem dX7_roleOf_9 : decode cX7_roleOf 9 = .ok (.ireturn, 1) := by decide +kernel
theorem dX7_roleOf_10 : decode cX7_roleOf 10 = .ok (.aload_n 0, 1) := by decide +kernel
theorem dX7_roleOf_11 : decode cX7_roleOf 11 = .ok (.iload_n 1, 1) := by decide +kernel
theorem dX7_roleOf_12 : decode cX7_roleOf 12 = .ok (.invokevirtual 60, 3) := by decide +kernel
theorem dX7_roleOf_15 : decode cX7_roleOf 15 = .ok (.istore_n 2, 1) := by decide +kernel
theorem dX7_roleOf_16 : decode cX7_roleOf 16 = .ok (.aload_n 0, 1) := by decide +kernel
theorem dX7_roleOf_17 : decode cX7_roleOf 17 = .ok (.getfield 23, 3) := by decide +kernel
theorem dX7_roleOf_20 : decode cX7_roleOf 20 = .ok (.iload_n 2, 1) := by decide +kernel
theorem dX7_roleOf_21 : decode cX7_roleOf 21 = .ok (.iaload, 1) := by decide +kernel
theorem dX7_roleOf_22 : decode cX7_roleOf 22 = .ok (.iload_n 1, 1) := by decide +kernel
theorem dX7_roleOf_23 : decode cX7_roleOf 23 = .ok (.if_icmp .ne 5, 3) := by decide +kernel
theorem dX7_roleOf_26 : decode cX7_roleOf 26 = .ok (.iconst 1, 1) := by decide +kernel
theorem dX7_roleOf_27 : decode cX7_roleOf 27 = .ok (.ireturn, 1) := by decide +kernel
theorem dX7_roleOf_28 : decode cX7_roleOf 28 = .ok (.aload_n 0, 1) := by decide +kernel
theorem dX7_roleOf_29 : decode cX7_roleOf 29 = .ok (.iload_n 1, 1) := by decide +kernel
theorem dX7_roleOf_30 : decode cX7_roleOf 30 = .ok (.invokevirtual 99, 3) := by decide +kernel
theorem dX7_roleOf_33 : decode cX7_roleOf 33 = .ok (.ifCond .eq 11, 3) := by decide +kernel
theorem dX7_roleOf_36 : decode cX7_roleOf 36 = .ok (.aload_n 0, 1) := by decide +kernel
theorem dX7_roleOf_37 : decode cX7_roleOf 37 = .ok (.iload_n 1, 1) := by decide +kernel
theorem dX7_roleOf_38 : decode cX7_roleOf 38 = .ok (.invokevirtual 113, 3) := by decide +kernel
theorem dX7_roleOf_41 : decode cX7_roleOf 41 = .ok (.ifCond .eq 5, 3) := by decide +kernel
theorem dX7_roleOf_44 : decode cX7_roleOf 44 = .ok (.iconst 2, 1) := by decide +kernel
theorem dX7_roleOf_45 : decode cX7_roleOf 45 = .ok (.ireturn, 1) := by decide +kernel
theorem dX7_roleOf_46 : decode cX7_roleOf 46 = .ok (.aload_n 0, 1) := by decide +kernel
theorem dX7_roleOf_47 : decode cX7_roleOf 47 = .ok (.iload_n 1, 1) := by decide +kernel
theorem dX7_roleOf_48 : decode cX7_roleOf 48 = .ok (.iconst 2, 1) := by decide +kernel
theorem dX7_roleOf_49 : decode cX7_roleOf 49 = .ok (.invokevirtual 64, 3) := by decide +kernel
theorem dX7_roleOf_52 : decode cX7_roleOf 52 = .ok (.aload_n 0, 1) := by decide +kernel
theorem dX7_roleOf_53 : decode cX7_roleOf 53 = .ok (.iload_n 2, 1) := by decide +kernel
theorem dX7_roleOf_54 : decode cX7_roleOf 54 = .ok (.invokevirtual 102, 3) := by decide +kernel
theorem dX7_roleOf_57 : decode cX7_roleOf 57 = .ok (.if_icmp .ne 7, 3) := by decide +kernel
theorem dX7_roleOf_60 : decode cX7_roleOf 60 = .ok (.iconst 4, 1) := by decide +kernel
theorem dX7_roleOf_61 : decode cX7_roleOf 61 = .ok (.goto 4, 3) := by decide +kernel
theorem dX7_roleOf_64 : decode cX7_roleOf 64 = .ok (.iconst 3, 1) := by decide +kernel
theorem dX7_roleOf_65 : decode cX7_roleOf 65 = .ok (.ireturn, 1) := by decide +kernel
theorem dX7_layRoles_0 : decode cX7_layRoles 0 = .ok (.iconst 0, 1) := by decide +kernel
theorem dX7_layRoles_1 : decode cX7_layRoles 1 = .ok (.istore_n 1, 1) := by decide +kernel
theorem dX7_layRoles_2 : decode cX7_layRoles 2 = .ok (.iload_n 1, 1) := by decide +kernel
theorem dX7_layRoles_3 : decode cX7_layRoles 3 = .ok (.aload_n 0, 1) := by decide +kernel
theorem dX7_layRoles_4 : decode cX7_layRoles 4 = .ok (.getfield 7, 3) := by decide +kernel
theorem dX7_layRoles_7 : decode cX7_layRoles 7 = .ok (.iconst 0, 1) := by decide +kernel
theorem dX7_layRoles_8 : decode cX7_layRoles 8 = .ok (.iaload, 1) := by decide +kernel
theorem dX7_layRoles_9 : decode cX7_layRoles 9 = .ok (.if_icmp .ge 14, 3) := by decide +kernel
theorem dX7_layRoles_12 : decode cX7_layRoles 12 = .ok (.aload_n 0, 1) := by decide +kernel
theorem dX7_layRoles_13 : decode cX7_layRoles 13 = .ok (.iload_n 1, 1) := by decide +kernel
theorem dX7_layRoles_14 : decode cX7_layRoles 14 = .ok (.invokevirtual 116, 3) := by decide +kernel
theorem dX7_layRoles_17 : decode cX7_layRoles 17 = .ok (.iinc 1 1, 3) := by decide +kernel
theorem dX7_layRoles_20 : decode cX7_layRoles 20 = .ok (.goto (-18), 3) := by decide +kernel
theorem dX7_layRoles_23 : decode cX7_layRoles 23 = .ok (.iconst 0, 1) := by decide +kernel
theorem dX7_layRoles_24 : decode cX7_layRoles 24 = .ok (.istore_n 1, 1) := by decide +kernel
theorem dX7_layRoles_25 : decode cX7_layRoles 25 = .ok (.iload_n 1, 1) := by decide +kernel
theorem dX7_layRoles_26 : decode cX7_layRoles 26 = .ok (.aload_n 0, 1) := by decide +kernel
theorem dX7_layRoles_27 : decode cX7_layRoles 27 = .ok (.invokevirtual 75, 3) := by decide +kernel
theorem dX7_layRoles_30 : decode cX7_layRoles 30 = .ok (.if_icmp .ge 20, 3) := by decide +kernel
theorem dX7_layRoles_33 : decode cX7_layRoles 33 = .ok (.aload_n 0, 1) := by decide +kernel
theorem dX7_layRoles_34 : decode cX7_layRoles 34 = .ok (.getfield 32, 3) := by decide +kernel
theorem dX7_layRoles_37 : decode cX7_layRoles 37 = .ok (.iload_n 1, 1) := by decide +kernel
theorem dX7_layRoles_38 : decode cX7_layRoles 38 = .ok (.aload_n 0, 1) := by decide +kernel
theorem dX7_layRoles_39 : decode cX7_layRoles 39 = .ok (.iload_n 1, 1) := by decide +kernel
theorem dX7_layRoles_40 : decode cX7_layRoles 40 = .ok (.invokevirtual 120, 3) := by decide +kernel
theorem dX7_layRoles_43 : decode cX7_layRoles 43 = .ok (.iastore, 1) := by decide +kernel
theorem dX7_layRoles_44 : decode cX7_layRoles 44 = .ok (.iinc 1 1, 3) := by decide +kernel
theorem dX7_layRoles_47 : decode cX7_layRoles 47 = .ok (.goto (-22), 3) := by decide +kernel
theorem dX7_layRoles_50 : decode cX7_layRoles 50 = .ok (.return_, 1) := by decide +kernel
theorem dX7_sendAll_0 : decode cX7_sendAll 0 = .ok (.iconst 0, 1) := by decide +kernel
theorem dX7_sendAll_1 : decode cX7_sendAll 1 = .ok (.istore_n 1, 1) := by decide +kernel
theorem dX7_sendAll_2 : decode cX7_sendAll 2 = .ok (.iload_n 1, 1) := by decide +kernel
theorem dX7_sendAll_3 : decode cX7_sendAll 3 = .ok (.aload_n 0, 1) := by decide +kernel
theorem dX7_sendAll_4 : decode cX7_sendAll 4 = .ok (.invokevirtual 75, 3) := by decide +kernel
theorem dX7_sendAll_7 : decode cX7_sendAll 7 = .ok (.if_icmp .ge 93, 3) := by decide +kernel
theorem dX7_sendAll_10 : decode cX7_sendAll 10 = .ok (.aload_n 0, 1) := by decide +kernel
theorem dX7_sendAll_11 : decode cX7_sendAll 11 = .ok (.iload_n 1, 1) := by decide +kernel
theorem dX7_sendAll_12 : decode cX7_sendAll 12 = .ok (.invokevirtual 60, 3) := by decide +kernel
theorem dX7_sendAll_15 : decode cX7_sendAll 15 = .ok (.istore_n 2, 1) := by decide +kernel
theorem dX7_sendAll_16 : decode cX7_sendAll 16 = .ok (.aload_n 0, 1) := by decide +kernel
theorem dX7_sendAll_17 : decode cX7_sendAll 17 = .ok (.getfield 23, 3) := by decide +kernel
theorem dX7_sendAll_20 : decode cX7_sendAll 20 = .ok (.iload_n 2, 1) := by decide +kernel
theorem dX7_sendAll_21 : decode cX7_sendAll 21 = .ok (.iaload, 1) := by decide +kernel
theorem dX7_sendAll_22 : decode cX7_sendAll 22 = .ok (.ifCond .ge 7, 3) := by decide +kernel
theorem dX7_sendAll_25 : decode cX7_sendAll 25 = .ok (.iconst 0, 1) := by decide +kernel
theorem dX7_sendAll_26 : decode cX7_sendAll 26 = .ok (.goto 17, 3) := by decide +kernel
theorem dX7_sendAll_29 : decode cX7_sendAll 29 = .ok (.bipush 7, 2) := by decide +kernel
theorem dX7_sendAll_31 : decode cX7_sendAll 31 = .ok (.aload_n 0, 1) := by decide +kernel
theorem dX7_sendAll_32 : decode cX7_sendAll 32 = .ok (.aload_n 0, 1) := by decide +kernel
theorem dX7_sendAll_33 : decode cX7_sendAll 33 = .ok (.getfield 23, 3) := by decide +kernel
theorem dX7_sendAll_36 : decode cX7_sendAll 36 = .ok (.iload_n 2, 1) := by decide +kernel
theorem dX7_sendAll_37 : decode cX7_sendAll 37 = .ok (.iaload, 1) := by decide +kernel
theorem dX7_sendAll_38 : decode cX7_sendAll 38 = .ok (.iconst 4, 1) := by decide +kernel
theorem dX7_sendAll_39 : decode cX7_sendAll 39 = .ok (.invokevirtual 64, 3) := by decide +kernel
theorem dX7_sendAll_42 : decode cX7_sendAll 42 = .ok (.isub, 1) := by decide +kernel
theorem dX7_sendAll_43 : decode cX7_sendAll 43 = .ok (.istore_n 3, 1) := by decide +kernel
theorem dX7_sendAll_44 : decode cX7_sendAll 44 = .ok (.aload_n 0, 1) := by decide +kernel
theorem dX7_sendAll_45 : decode cX7_sendAll 45 = .ok (.getfield 35, 3) := by decide +kernel
theorem dX7_sendAll_48 : decode cX7_sendAll 48 = .ok (.iload_n 1, 1) := by decide +kernel
theorem dX7_sendAll_49 : decode cX7_sendAll 49 = .ok (.aload_n 0, 1) := by decide +kernel
theorem dX7_sendAll_50 : decode cX7_sendAll 50 = .ok (.getfield 32, 3) := by decide +kernel
theorem dX7_sendAll_53 : decode cX7_sendAll 53 = .ok (.iload_n 1, 1) := by decide +kernel
theorem dX7_sendAll_54 : decode cX7_sendAll 54 = .ok (.iaload, 1) := by decide +kernel
theorem dX7_sendAll_55 : decode cX7_sendAll 55 = .ok (.iconst 2, 1) := by decide +kernel
theorem dX7_sendAll_56 : decode cX7_sendAll 56 = .ok (.if_icmp .ne 12, 3) := by decide +kernel
theorem dX7_sendAll_59 : decode cX7_sendAll 59 = .ok (.iload_n 3, 1) := by decide +kernel
theorem dX7_sendAll_60 : decode cX7_sendAll 60 = .ok (.iconst 5, 1) := by decide +kernel
theorem dX7_sendAll_61 : decode cX7_sendAll 61 = .ok (.if_icmp .gt 7, 3) := by decide +kernel
theorem dX7_sendAll_64 : decode cX7_sendAll 64 = .ok (.iload_n 3, 1) := by decide +kernel
theorem dX7_sendAll_65 : decode cX7_sendAll 65 = .ok (.goto 4, 3) := by decide +kernel
theorem dX7_sendAll_68 : decode cX7_sendAll 68 = .ok (.iconst (-1), 1) := by decide +kernel
theorem dX7_sendAll_69 : decode cX7_sendAll 69 = .ok (.iastore, 1) := by decide +kernel
theorem dX7_sendAll_70 : decode cX7_sendAll 70 = .ok (.aload_n 0, 1) := by decide +kernel
theorem dX7_sendAll_71 : decode cX7_sendAll 71 = .ok (.getfield 38, 3) := by decide +kernel
theorem dX7_sendAll_74 : decode cX7_sendAll 74 = .ok (.iload_n 1, 1) := by decide +kernel
theorem dX7_sendAll_75 : decode cX7_sendAll 75 = .ok (.aload_n 0, 1) := by decide +kernel
theorem dX7_sendAll_76 : decode cX7_sendAll 76 = .ok (.getfield 26, 3) := by decide +kernel
theorem dX7_sendAll_79 : decode cX7_sendAll 79 = .ok (.iload_n 2, 1) := by decide +kernel
theorem dX7_sendAll_80 : decode cX7_sendAll 80 = .ok (.iaload, 1) := by decide +kernel
theorem dX7_sendAll_81 : decode cX7_sendAll 81 = .ok (.iastore, 1) := by decide +kernel
theorem dX7_sendAll_82 : decode cX7_sendAll 82 = .ok (.aload_n 0, 1) := by decide +kernel
theorem dX7_sendAll_83 : decode cX7_sendAll 83 = .ok (.getfield 41, 3) := by decide +kernel
theorem dX7_sendAll_86 : decode cX7_sendAll 86 = .ok (.iload_n 1, 1) := by decide +kernel
theorem dX7_sendAll_87 : decode cX7_sendAll 87 = .ok (.aload_n 0, 1) := by decide +kernel
theorem dX7_sendAll_88 : decode cX7_sendAll 88 = .ok (.getfield 29, 3) := by decide +kernel
theorem dX7_sendAll_91 : decode cX7_sendAll 91 = .ok (.iload_n 2, 1) := by decide +kernel
theorem dX7_sendAll_92 : decode cX7_sendAll 92 = .ok (.iaload, 1) := by decide +kernel
theorem dX7_sendAll_93 : decode cX7_sendAll 93 = .ok (.iastore, 1) := by decide +kernel
theorem dX7_sendAll_94 : decode cX7_sendAll 94 = .ok (.iinc 1 1, 3) := by decide +kernel
theorem dX7_sendAll_97 : decode cX7_sendAll 97 = .ok (.goto (-95), 3) := by decide +kernel
theorem dX7_sendAll_100 : decode cX7_sendAll 100 = .ok (.return_, 1) := by decide +kernel
theorem dX7_isBetterSent_0 : decode cX7_isBetterSent 0 = .ok (.aload_n 0, 1) := by decide +kernel
theorem dX7_isBetterSent_1 : decode cX7_isBetterSent 1 = .ok (.getfield 38, 3) := by decide +kernel
theorem dX7_isBetterSent_4 : decode cX7_isBetterSent 4 = .ok (.iload_n 1, 1) := by decide +kernel
theorem dX7_isBetterSent_5 : decode cX7_isBetterSent 5 = .ok (.iaload, 1) := by decide +kernel
theorem dX7_isBetterSent_6 : decode cX7_isBetterSent 6 = .ok (.aload_n 0, 1) := by decide +kernel
theorem dX7_isBetterSent_7 : decode cX7_isBetterSent 7 = .ok (.getfield 41, 3) := by decide +kernel
theorem dX7_isBetterSent_10 : decode cX7_isBetterSent 10 = .ok (.iload_n 1, 1) := by decide +kernel
theorem dX7_isBetterSent_11 : decode cX7_isBetterSent 11 = .ok (.iaload, 1) := by decide +kernel
theorem dX7_isBetterSent_12 : decode cX7_isBetterSent 12 = .ok (.aload_n 0, 1) := by decide +kernel
theorem dX7_isBetterSent_13 : decode cX7_isBetterSent 13 = .ok (.aload_n 0, 1) := by decide +kernel
theorem dX7_isBetterSent_14 : decode cX7_isBetterSent 14 = .ok (.iload_n 1, 1) := by decide +kernel
theorem dX7_isBetterSent_15 : decode cX7_isBetterSent 15 = .ok (.invokevirtual 60, 3) := by decide +kernel
theorem dX7_isBetterSent_18 : decode cX7_isBetterSent 18 = .ok (.invokevirtual 102, 3) := by decide +kernel
theorem dX7_isBetterSent_21 : decode cX7_isBetterSent 21 = .ok (.iload_n 1, 1) := by decide +kernel
theorem dX7_isBetterSent_22 : decode cX7_isBetterSent 22 = .ok (.aload_n 0, 1) := by decide +kernel
theorem dX7_isBetterSent_23 : decode cX7_isBetterSent 23 = .ok (.getfield 38, 3) := by decide +kernel
theorem dX7_isBetterSent_26 : decode cX7_isBetterSent 26 = .ok (.iload_n 2, 1) := by decide +kernel
theorem dX7_isBetterSent_27 : decode cX7_isBetterSent 27 = .ok (.iaload, 1) := by decide +kernel
theorem dX7_isBetterSent_28 : decode cX7_isBetterSent 28 = .ok (.aload_n 0, 1) := by decide +kernel
theorem dX7_isBetterSent_29 : decode cX7_isBetterSent 29 = .ok (.getfield 41, 3) := by decide +kernel
theorem dX7_isBetterSent_32 : decode cX7_isBetterSent 32 = .ok (.iload_n 2, 1) := by decide +kernel
theorem dX7_isBetterSent_33 : decode cX7_isBetterSent 33 = .ok (.iaload, 1) := by decide +kernel
theorem dX7_isBetterSent_34 : decode cX7_isBetterSent 34 = .ok (.aload_n 0, 1) := by decide +kernel
theorem dX7_isBetterSent_35 : decode cX7_isBetterSent 35 = .ok (.aload_n 0, 1) := by decide +kernel
theorem dX7_isBetterSent_36 : decode cX7_isBetterSent 36 = .ok (.iload_n 2, 1) := by decide +kernel
theorem dX7_isBetterSent_37 : decode cX7_isBetterSent 37 = .ok (.invokevirtual 60, 3) := by decide +kernel
theorem dX7_isBetterSent_40 : decode cX7_isBetterSent 40 = .ok (.invokevirtual 102, 3) := by decide +kernel
theorem dX7_isBetterSent_43 : decode cX7_isBetterSent 43 = .ok (.iload_n 2, 1) := by decide +kernel
theorem dX7_isBetterSent_44 : decode cX7_isBetterSent 44 = .ok (.invokestatic 109, 3) := by decide +kernel
theorem dX7_isBetterSent_47 : decode cX7_isBetterSent 47 = .ok (.ireturn, 1) := by decide +kernel
theorem dX7_heardBy_0 : decode cX7_heardBy 0 = .ok (.bipush (-9), 2) := by decide +kernel
theorem dX7_heardBy_2 : decode cX7_heardBy 2 = .ok (.istore_n 2, 1) := by decide +kernel
theorem dX7_heardBy_3 : decode cX7_heardBy 3 = .ok (.iconst 0, 1) := by decide +kernel
theorem dX7_heardBy_4 : decode cX7_heardBy 4 = .ok (.istore_n 3, 1) := by decide +kernel
theorem dX7_heardBy_5 : decode cX7_heardBy 5 = .ok (.iload_n 3, 1) := by decide +kernel
theorem dX7_heardBy_6 : decode cX7_heardBy 6 = .ok (.aload_n 0, 1) := by decide +kernel
theorem dX7_heardBy_7 : decode cX7_heardBy 7 = .ok (.invokevirtual 75, 3) := by decide +kernel
theorem dX7_heardBy_10 : decode cX7_heardBy 10 = .ok (.if_icmp .ge 75, 3) := by decide +kernel
theorem dX7_heardBy_13 : decode cX7_heardBy 13 = .ok (.iload_n 3, 1) := by decide +kernel
theorem dX7_heardBy_14 : decode cX7_heardBy 14 = .ok (.iload_n 1, 1) := by decide +kernel
theorem dX7_heardBy_15 : decode cX7_heardBy 15 = .ok (.if_icmp .eq 37, 3) := by decide +kernel
theorem dX7_heardBy_18 : decode cX7_heardBy 18 = .ok (.aload_n 0, 1) := by decide +kernel
theorem dX7_heardBy_19 : decode cX7_heardBy 19 = .ok (.getfield 35, 3) := by decide +kernel
theorem dX7_heardBy_22 : decode cX7_heardBy 22 = .ok (.iload_n 3, 1) := by decide +kernel
theorem dX7_heardBy_23 : decode cX7_heardBy 23 = .ok (.iaload, 1) := by decide +kernel
theorem dX7_heardBy_24 : decode cX7_heardBy 24 = .ok (.ifCond .lt 28, 3) := by decide +kernel
theorem dX7_heardBy_27 : decode cX7_heardBy 27 = .ok (.aload_n 0, 1) := by decide +kernel
theorem dX7_heardBy_28 : decode cX7_heardBy 28 = .ok (.getfield 7, 3) := by decide +kernel
theorem dX7_heardBy_31 : decode cX7_heardBy 31 = .ok (.bipush 45, 2) := by decide +kernel
theorem dX7_heardBy_33 : decode cX7_heardBy 33 = .ok (.iload_n 3, 1) := by decide +kernel
theorem dX7_heardBy_34 : decode cX7_heardBy 34 = .ok (.iadd, 1) := by decide +kernel
theorem dX7_heardBy_35 : decode cX7_heardBy 35 = .ok (.iaload, 1) := by decide +kernel
theorem dX7_heardBy_36 : decode cX7_heardBy 36 = .ok (.aload_n 0, 1) := by decide +kernel
theorem dX7_heardBy_37 : decode cX7_heardBy 37 = .ok (.getfield 7, 3) := by decide +kernel
theorem dX7_heardBy_40 : decode cX7_heardBy 40 = .ok (.bipush 45, 2) := by decide +kernel
theorem dX7_heardBy_42 : decode cX7_heardBy 42 = .ok (.iload_n 1, 1) := by decide +kernel
theorem dX7_heardBy_43 : decode cX7_heardBy 43 = .ok (.iadd, 1) := by decide +kernel
theorem dX7_heardBy_44 : decode cX7_heardBy 44 = .ok (.iaload, 1) := by decide +kernel
theorem dX7_heardBy_45 : decode cX7_heardBy 45 = .ok (.if_icmp .ne 7, 3) := by decide +kernel
theorem dX7_heardBy_48 : decode cX7_heardBy 48 = .ok (.iconst 1, 1) := by decide +kernel
theorem dX7_heardBy_49 : decode cX7_heardBy 49 = .ok (.goto 4, 3) := by decide +kernel
theorem dX7_heardBy_52 : decode cX7_heardBy 52 = .ok (.iconst 0, 1) := by decide +kernel
theorem dX7_heardBy_53 : decode cX7_heardBy 53 = .ok (.istore 4, 2) := by decide +kernel
theorem dX7_heardBy_55 : decode cX7_heardBy 55 = .ok (.iload 4, 2) := by decide +kernel
theorem dX7_heardBy_57 : decode cX7_heardBy 57 = .ok (.ifCond .eq 20, 3) := by decide +kernel
theorem dX7_heardBy_60 : decode cX7_heardBy 60 = .ok (.iload_n 2, 1) := by decide +kernel
theorem dX7_heardBy_61 : decode cX7_heardBy 61 = .ok (.ifCond .lt 12, 3) := by decide +kernel
theorem dX7_heardBy_64 : decode cX7_heardBy 64 = .ok (.aload_n 0, 1) := by decide +kernel
theorem dX7_heardBy_65 : decode cX7_heardBy 65 = .ok (.iload_n 3, 1) := by decide +kernel
theorem dX7_heardBy_66 : decode cX7_heardBy 66 = .ok (.iload_n 2, 1) := by decide +kernel
theorem dX7_heardBy_67 : decode cX7_heardBy 67 = .ok (.invokevirtual 123, 3) := by decide +kernel
theorem dX7_heardBy_70 : decode cX7_heardBy 70 = .ok (.ifCond .eq 7, 3) := by decide +kernel
theorem dX7_heardBy_73 : decode cX7_heardBy 73 = .ok (.iload_n 3, 1) := by decide +kernel
theorem dX7_heardBy_74 : decode cX7_heardBy 74 = .ok (.goto 4, 3) := by decide +kernel
theorem dX7_heardBy_77 : decode cX7_heardBy 77 = .ok (.iload_n 2, 1) := by decide +kernel
theorem dX7_heardBy_78 : decode cX7_heardBy 78 = .ok (.istore_n 2, 1) := by decide +kernel
theorem dX7_heardBy_79 : decode cX7_heardBy 79 = .ok (.iinc 3 1, 3) := by decide +kernel
theorem dX7_heardBy_82 : decode cX7_heardBy 82 = .ok (.goto (-77), 3) := by decide +kernel
theorem dX7_heardBy_85 : decode cX7_heardBy 85 = .ok (.iload_n 2, 1) := by decide +kernel
theorem dX7_heardBy_86 : decode cX7_heardBy 86 = .ok (.ireturn, 1) := by decide +kernel
theorem dX7_hear_0 : decode cX7_hear 0 = .ok (.aload_n 0, 1) := by decide +kernel
theorem dX7_hear_1 : decode cX7_hear 1 = .ok (.iload_n 1, 1) := by decide +kernel
theorem dX7_hear_2 : decode cX7_hear 2 = .ok (.invokevirtual 79, 3) := by decide +kernel
theorem dX7_hear_5 : decode cX7_hear 5 = .ok (.ifCond .eq 11, 3) := by decide +kernel
theorem dX7_hear_8 : decode cX7_hear 8 = .ok (.aload_n 0, 1) := by decide +kernel
theorem dX7_hear_9 : decode cX7_hear 9 = .ok (.iload_n 1, 1) := by decide +kernel
theorem dX7_hear_10 : decode cX7_hear 10 = .ok (.invokevirtual 126, 3) := by decide +kernel
theorem dX7_hear_13 : decode cX7_hear 13 = .ok (.goto 5, 3) := by decide +kernel
theorem dX7_hear_16 : decode cX7_hear 16 = .ok (.bipush (-9), 2) := by decide +kernel
theorem dX7_hear_18 : decode cX7_hear 18 = .ok (.istore_n 2, 1) := by decide +kernel
theorem dX7_hear_19 : decode cX7_hear 19 = .ok (.iload_n 2, 1) := by decide +kernel
theorem dX7_hear_20 : decode cX7_hear 20 = .ok (.ifCond .ge 7, 3) := by decide +kernel
theorem dX7_hear_23 : decode cX7_hear 23 = .ok (.iconst 0, 1) := by decide +kernel
theorem dX7_hear_24 : decode cX7_hear 24 = .ok (.goto 12, 3) := by decide +kernel
theorem dX7_hear_27 : decode cX7_hear 27 = .ok (.aload_n 0, 1) := by decide +kernel
theorem dX7_hear_28 : decode cX7_hear 28 = .ok (.aload_n 0, 1) := by decide +kernel
theorem dX7_hear_29 : decode cX7_hear 29 = .ok (.iload_n 2, 1) := by decide +kernel
theorem dX7_hear_30 : decode cX7_hear 30 = .ok (.invokevirtual 60, 3) := by decide +kernel
theorem dX7_hear_33 : decode cX7_hear 33 = .ok (.invokevirtual 102, 3) := by decide +kernel
theorem dX7_hear_36 : decode cX7_hear 36 = .ok (.istore_n 3, 1) := by decide +kernel
theorem dX7_hear_37 : decode cX7_hear 37 = .ok (.iload_n 2, 1) := by decide +kernel
theorem dX7_hear_38 : decode cX7_hear 38 = .ok (.ifCond .lt 7, 3) := by decide +kernel
theorem dX7_hear_41 : decode cX7_hear 41 = .ok (.iconst 1, 1) := by decide +kernel
theorem dX7_hear_42 : decode cX7_hear 42 = .ok (.goto 4, 3) := by decide +kernel
theorem dX7_hear_45 : decode cX7_hear 45 = .ok (.iconst 0, 1) := by decide +kernel
theorem dX7_hear_46 : decode cX7_hear 46 = .ok (.istore 4, 2) := by decide +kernel
theorem dX7_hear_48 : decode cX7_hear 48 = .ok (.iload 4, 2) := by decide +kernel
theorem dX7_hear_50 : decode cX7_hear 50 = .ok (.ifCond .eq 98, 3) := by decide +kernel
theorem dX7_hear_53 : decode cX7_hear 53 = .ok (.aload_n 0, 1) := by decide +kernel
theorem dX7_hear_54 : decode cX7_hear 54 = .ok (.iload_n 1, 1) := by decide +kernel
theorem dX7_hear_55 : decode cX7_hear 55 = .ok (.invokevirtual 99, 3) := by decide +kernel
theorem dX7_hear_58 : decode cX7_hear 58 = .ok (.ifCond .eq 90, 3) := by decide +kernel
theorem dX7_hear_61 : decode cX7_hear 61 = .ok (.aload_n 0, 1) := by decide +kernel
theorem dX7_hear_62 : decode cX7_hear 62 = .ok (.iload_n 1, 1) := by decide +kernel
theorem dX7_hear_63 : decode cX7_hear 63 = .ok (.iconst 0, 1) := by decide +kernel
theorem dX7_hear_64 : decode cX7_hear 64 = .ok (.invokevirtual 64, 3) := by decide +kernel
theorem dX7_hear_67 : decode cX7_hear 67 = .ok (.aload_n 0, 1) := by decide +kernel
theorem dX7_hear_68 : decode cX7_hear 68 = .ok (.iload_n 1, 1) := by decide +kernel
theorem dX7_hear_69 : decode cX7_hear 69 = .ok (.iconst 1, 1) := by decide +kernel
theorem dX7_hear_70 : decode cX7_hear 70 = .ok (.invokevirtual 64, 3) := by decide +kernel
theorem dX7_hear_73 : decode cX7_hear 73 = .ok (.aload_n 0, 1) := by decide +kernel
theorem dX7_hear_74 : decode cX7_hear 74 = .ok (.iload_n 1, 1) := by decide +kernel
theorem dX7_hear_75 : decode cX7_hear 75 = .ok (.iconst 2, 1) := by decide +kernel
theorem dX7_hear_76 : decode cX7_hear 76 = .ok (.invokevirtual 64, 3) := by decide +kernel
theorem dX7_hear_79 : decode cX7_hear 79 = .ok (.aload_n 0, 1) := by decide +kernel
theorem dX7_hear_80 : decode cX7_hear 80 = .ok (.iload_n 1, 1) := by decide +kernel
theorem dX7_hear_81 : decode cX7_hear 81 = .ok (.iconst 3, 1) := by decide +kernel
theorem dX7_hear_82 : decode cX7_hear 82 = .ok (.invokevirtual 64, 3) := by decide +kernel
theorem dX7_hear_85 : decode cX7_hear 85 = .ok (.aload_n 0, 1) := by decide +kernel
theorem dX7_hear_86 : decode cX7_hear 86 = .ok (.getfield 38, 3) := by decide +kernel
theorem dX7_hear_89 : decode cX7_hear 89 = .ok (.iload_n 2, 1) := by decide +kernel
theorem dX7_hear_90 : decode cX7_hear 90 = .ok (.iaload, 1) := by decide +kernel
theorem dX7_hear_91 : decode cX7_hear 91 = .ok (.aload_n 0, 1) := by decide +kernel
theorem dX7_hear_92 : decode cX7_hear 92 = .ok (.getfield 41, 3) := by decide +kernel
theorem dX7_hear_95 : decode cX7_hear 95 = .ok (.iload_n 2, 1) := by decide +kernel
theorem dX7_hear_96 : decode cX7_hear 96 = .ok (.iaload, 1) := by decide +kernel
theorem dX7_hear_97 : decode cX7_hear 97 = .ok (.iload_n 3, 1) := by decide +kernel
theorem dX7_hear_98 : decode cX7_hear 98 = .ok (.iload_n 2, 1) := by decide +kernel
theorem dX7_hear_99 : decode cX7_hear 99 = .ok (.invokestatic 109, 3) := by decide +kernel
theorem dX7_hear_102 : decode cX7_hear 102 = .ok (.istore 5, 2) := by decide +kernel
theorem dX7_hear_104 : decode cX7_hear 104 = .ok (.aload_n 0, 1) := by decide +kernel
theorem dX7_hear_105 : decode cX7_hear 105 = .ok (.iload_n 1, 1) := by decide +kernel
theorem dX7_hear_106 : decode cX7_hear 106 = .ok (.iconst 2, 1) := by decide +kernel
theorem dX7_hear_107 : decode cX7_hear 107 = .ok (.invokevirtual 64, 3) := by decide +kernel
theorem dX7_hear_110 : decode cX7_hear 110 = .ok (.iload_n 3, 1) := by decide +kernel
theorem dX7_hear_111 : decode cX7_hear 111 = .ok (.if_icmp .ne 17, 3) := by decide +kernel
theorem dX7_hear_114 : decode cX7_hear 114 = .ok (.aload_n 0, 1) := by decide +kernel
theorem dX7_hear_115 : decode cX7_hear 115 = .ok (.iload_n 1, 1) := by decide +kernel
theorem dX7_hear_116 : decode cX7_hear 116 = .ok (.iconst 3, 1) := by decide +kernel
theorem dX7_hear_117 : decode cX7_hear 117 = .ok (.invokevirtual 64, 3) := by decide +kernel
theorem dX7_hear_120 : decode cX7_hear 120 = .ok (.iload_n 2, 1) := by decide +kernel
theorem dX7_hear_121 : decode cX7_hear 121 = .ok (.if_icmp .ne 7, 3) := by decide +kernel
theorem dX7_hear_124 : decode cX7_hear 124 = .ok (.iconst 1, 1) := by decide +kernel
theorem dX7_hear_125 : decode cX7_hear 125 = .ok (.goto 4, 3) := by decide +kernel
theorem dX7_hear_128 : decode cX7_hear 128 = .ok (.iconst 0, 1) := by decide +kernel
theorem dX7_hear_129 : decode cX7_hear 129 = .ok (.istore 6, 2) := by decide +kernel
theorem dX7_hear_131 : decode cX7_hear 131 = .ok (.iload 5, 2) := by decide +kernel
theorem dX7_hear_133 : decode cX7_hear 133 = .ok (.ifCond .eq 8, 3) := by decide +kernel
theorem dX7_hear_136 : decode cX7_hear 136 = .ok (.iload 6, 2) := by decide +kernel
theorem dX7_hear_138 : decode cX7_hear 138 = .ok (.ifCond .eq 7, 3) := by decide +kernel
theorem dX7_hear_141 : decode cX7_hear 141 = .ok (.iconst 1, 1) := by decide +kernel
theorem dX7_hear_142 : decode cX7_hear 142 = .ok (.goto 4, 3) := by decide +kernel
theorem dX7_hear_145 : decode cX7_hear 145 = .ok (.iconst 0, 1) := by decide +kernel
theorem dX7_hear_146 : decode cX7_hear 146 = .ok (.istore 4, 2) := by decide +kernel
theorem dX7_hear_148 : decode cX7_hear 148 = .ok (.sipush 165, 3) := by decide +kernel
theorem dX7_hear_151 : decode cX7_hear 151 = .ok (.iconst 5, 1) := by decide +kernel
theorem dX7_hear_152 : decode cX7_hear 152 = .ok (.iload_n 1, 1) := by decide +kernel
theorem dX7_hear_153 : decode cX7_hear 153 = .ok (.imul, 1) := by decide +kernel
theorem dX7_hear_154 : decode cX7_hear 154 = .ok (.iadd, 1) := by decide +kernel
theorem dX7_hear_155 : decode cX7_hear 155 = .ok (.istore 5, 2) := by decide +kernel
theorem dX7_hear_157 : decode cX7_hear 157 = .ok (.iload 4, 2) := by decide +kernel
theorem dX7_hear_159 : decode cX7_hear 159 = .ok (.ifCond .eq 74, 3) := by decide +kernel
theorem dX7_hear_162 : decode cX7_hear 162 = .ok (.aload_n 0, 1) := by decide +kernel
theorem dX7_hear_163 : decode cX7_hear 163 = .ok (.getfield 7, 3) := by decide +kernel
theorem dX7_hear_166 : decode cX7_hear 166 = .ok (.iload 5, 2) := by decide +kernel
theorem dX7_hear_168 : decode cX7_hear 168 = .ok (.iconst 0, 1) := by decide +kernel
theorem dX7_hear_169 : decode cX7_hear 169 = .ok (.iadd, 1) := by decide +kernel
theorem dX7_hear_170 : decode cX7_hear 170 = .ok (.aload_n 0, 1) := by decide +kernel
theorem dX7_hear_171 : decode cX7_hear 171 = .ok (.getfield 38, 3) := by decide +kernel
theorem dX7_hear_174 : decode cX7_hear 174 = .ok (.iload_n 2, 1) := by decide +kernel
theorem dX7_hear_175 : decode cX7_hear 175 = .ok (.iaload, 1) := by decide +kernel
theorem dX7_hear_176 : decode cX7_hear 176 = .ok (.iastore, 1) := by decide +kernel
theorem dX7_hear_177 : decode cX7_hear 177 = .ok (.aload_n 0, 1) := by decide +kernel
theorem dX7_hear_178 : decode cX7_hear 178 = .ok (.getfield 7, 3) := by decide +kernel
theorem dX7_hear_181 : decode cX7_hear 181 = .ok (.iload 5, 2) := by decide +kernel
theorem dX7_hear_183 : decode cX7_hear 183 = .ok (.iconst 1, 1) := by decide +kernel
theorem dX7_hear_184 : decode cX7_hear 184 = .ok (.iadd, 1) := by decide +kernel
theorem dX7_hear_185 : decode cX7_hear 185 = .ok (.aload_n 0, 1) := by decide +kernel
theorem dX7_hear_186 : decode cX7_hear 186 = .ok (.getfield 41, 3) := by decide +kernel
theorem dX7_hear_189 : decode cX7_hear 189 = .ok (.iload_n 2, 1) := by decide +kernel
theorem dX7_hear_190 : decode cX7_hear 190 = .ok (.iaload, 1) := by decide +kernel
theorem dX7_hear_191 : decode cX7_hear 191 = .ok (.iastore, 1) := by decide +kernel
theorem dX7_hear_192 : decode cX7_hear 192 = .ok (.aload_n 0, 1) := by decide +kernel
theorem dX7_hear_193 : decode cX7_hear 193 = .ok (.getfield 7, 3) := by decide +kernel
theorem dX7_hear_196 : decode cX7_hear 196 = .ok (.iload 5, 2) := by decide +kernel
theorem dX7_hear_198 : decode cX7_hear 198 = .ok (.iconst 2, 1) := by decide +kernel
theorem dX7_hear_199 : decode cX7_hear 199 = .ok (.iadd, 1) := by decide +kernel
theorem dX7_hear_200 : decode cX7_hear 200 = .ok (.iload_n 3, 1) := by decide +kernel
theorem dX7_hear_201 : decode cX7_hear 201 = .ok (.iastore, 1) := by decide +kernel
theorem dX7_hear_202 : decode cX7_hear 202 = .ok (.aload_n 0, 1) := by decide +kernel
theorem dX7_hear_203 : decode cX7_hear 203 = .ok (.getfield 7, 3) := by decide +kernel
theorem dX7_hear_206 : decode cX7_hear 206 = .ok (.iload 5, 2) := by decide +kernel
theorem dX7_hear_208 : decode cX7_hear 208 = .ok (.iconst 3, 1) := by decide +kernel
theorem dX7_hear_209 : decode cX7_hear 209 = .ok (.iadd, 1) := by decide +kernel
theorem dX7_hear_210 : decode cX7_hear 210 = .ok (.iload_n 2, 1) := by decide +kernel
theorem dX7_hear_211 : decode cX7_hear 211 = .ok (.iastore, 1) := by decide +kernel
theorem dX7_hear_212 : decode cX7_hear 212 = .ok (.aload_n 0, 1) := by decide +kernel
theorem dX7_hear_213 : decode cX7_hear 213 = .ok (.getfield 7, 3) := by decide +kernel
theorem dX7_hear_216 : decode cX7_hear 216 = .ok (.iload 5, 2) := by decide +kernel
theorem dX7_hear_218 : decode cX7_hear 218 = .ok (.iconst 4, 1) := by decide +kernel
theorem dX7_hear_219 : decode cX7_hear 219 = .ok (.iadd, 1) := by decide +kernel
theorem dX7_hear_220 : decode cX7_hear 220 = .ok (.bipush 6, 2) := by decide +kernel
theorem dX7_hear_222 : decode cX7_hear 222 = .ok (.aload_n 0, 1) := by decide +kernel
theorem dX7_hear_223 : decode cX7_hear 223 = .ok (.getfield 35, 3) := by decide +kernel
theorem dX7_hear_226 : decode cX7_hear 226 = .ok (.iload_n 2, 1) := by decide +kernel
theorem dX7_hear_227 : decode cX7_hear 227 = .ok (.iaload, 1) := by decide +kernel
theorem dX7_hear_228 : decode cX7_hear 228 = .ok (.isub, 1) := by decide +kernel
theorem dX7_hear_229 : decode cX7_hear 229 = .ok (.iastore, 1) := by decide +kernel
theorem dX7_hear_230 : decode cX7_hear 230 = .ok (.goto 24, 3) := by decide +kernel
theorem dX7_hear_233 : decode cX7_hear 233 = .ok (.aload_n 0, 1) := by decide +kernel
theorem dX7_hear_234 : decode cX7_hear 234 = .ok (.iload_n 1, 1) := by decide +kernel
theorem dX7_hear_235 : decode cX7_hear 235 = .ok (.invokevirtual 99, 3) := by decide +kernel
theorem dX7_hear_238 : decode cX7_hear 238 = .ok (.ifCond .eq 16, 3) := by decide +kernel
theorem dX7_hear_241 : decode cX7_hear 241 = .ok (.aload_n 0, 1) := by decide +kernel
theorem dX7_hear_242 : decode cX7_hear 242 = .ok (.getfield 7, 3) := by decide +kernel
theorem dX7_hear_245 : decode cX7_hear 245 = .ok (.iload 5, 2) := by decide +kernel
theorem dX7_hear_247 : decode cX7_hear 247 = .ok (.iconst 4, 1) := by decide +kernel
theorem dX7_hear_248 : decode cX7_hear 248 = .ok (.iadd, 1) := by decide +kernel
theorem dX7_hear_249 : decode cX7_hear 249 = .ok (.dup2, 1) := by decide +kernel
theorem dX7_hear_250 : decode cX7_hear 250 = .ok (.iaload, 1) := by decide +kernel
theorem dX7_hear_251 : decode cX7_hear 251 = .ok (.iconst 1, 1) := by decide +kernel
theorem dX7_hear_252 : decode cX7_hear 252 = .ok (.isub, 1) := by decide +kernel
theorem dX7_hear_253 : decode cX7_hear 253 = .ok (.iastore, 1) := by decide +kernel
theorem dX7_hear_254 : decode cX7_hear 254 = .ok (.return_, 1) := by decide +kernel
theorem dX7_goOn_0 : decode cX7_goOn 0 = .ok (.aload_n 0, 1) := by decide +kernel
theorem dX7_goOn_1 : decode cX7_goOn 1 = .ok (.getfield 7, 3) := by decide +kernel
theorem dX7_goOn_4 : decode cX7_goOn 4 = .ok (.bipush 117, 2) := by decide +kernel
theorem dX7_goOn_6 : decode cX7_goOn 6 = .ok (.iload_n 1, 1) := by decide +kernel
theorem dX7_goOn_7 : decode cX7_goOn 7 = .ok (.iadd, 1) := by decide +kernel
theorem dX7_goOn_8 : decode cX7_goOn 8 = .ok (.iaload, 1) := by decide +kernel
theorem dX7_goOn_9 : decode cX7_goOn 9 = .ok (.istore_n 2, 1) := by decide +kernel
theorem dX7_goOn_10 : decode cX7_goOn 10 = .ok (.aload_n 0, 1) := by decide +kernel
theorem dX7_goOn_11 : decode cX7_goOn 11 = .ok (.getfield 32, 3) := by decide +kernel
theorem dX7_goOn_14 : decode cX7_goOn 14 = .ok (.iload_n 1, 1) := by decide +kernel
theorem dX7_goOn_15 : decode cX7_goOn 15 = .ok (.iaload, 1) := by decide +kernel
theorem dX7_goOn_16 : decode cX7_goOn 16 = .ok (.iconst 3, 1) := by decide +kernel
theorem dX7_goOn_17 : decode cX7_goOn 17 = .ok (.if_icmp .eq 13, 3) := by decide +kernel
theorem dX7_goOn_20 : decode cX7_goOn 20 = .ok (.aload_n 0, 1) := by decide +kernel
theorem dX7_goOn_21 : decode cX7_goOn 21 = .ok (.getfield 32, 3) := by decide +kernel
theorem dX7_goOn_24 : decode cX7_goOn 24 = .ok (.iload_n 1, 1) := by decide +kernel
theorem dX7_goOn_25 : decode cX7_goOn 25 = .ok (.iaload, 1) := by decide +kernel
theorem dX7_goOn_26 : decode cX7_goOn 26 = .ok (.iconst 4, 1) := by decide +kernel
theorem dX7_goOn_27 : decode cX7_goOn 27 = .ok (.if_icmp .ne 16, 3) := by decide +kernel
theorem dX7_goOn_30 : decode cX7_goOn 30 = .ok (.aload_n 0, 1) := by decide +kernel
theorem dX7_goOn_31 : decode cX7_goOn 31 = .ok (.getfield 7, 3) := by decide +kernel
theorem dX7_goOn_34 : decode cX7_goOn 34 = .ok (.bipush 117, 2) := by decide +kernel
theorem dX7_goOn_36 : decode cX7_goOn 36 = .ok (.iload_n 1, 1) := by decide +kernel
theorem dX7_goOn_37 : decode cX7_goOn 37 = .ok (.iadd, 1) := by decide +kernel
theorem dX7_goOn_38 : decode cX7_goOn 38 = .ok (.iconst 1, 1) := by decide +kernel
theorem dX7_goOn_39 : decode cX7_goOn 39 = .ok (.iastore, 1) := by decide +kernel
theorem dX7_goOn_40 : decode cX7_goOn 40 = .ok (.goto 92, 3) := by decide +kernel
theorem dX7_goOn_43 : decode cX7_goOn 43 = .ok (.iload_n 2, 1) := by decide +kernel
theorem dX7_goOn_44 : decode cX7_goOn 44 = .ok (.iconst 1, 1) := by decide +kernel
theorem dX7_goOn_45 : decode cX7_goOn 45 = .ok (.if_icmp .ne 27, 3) := by decide +kernel
theorem dX7_goOn_48 : decode cX7_goOn 48 = .ok (.aload_n 0, 1) := by decide +kernel
theorem dX7_goOn_49 : decode cX7_goOn 49 = .ok (.getfield 7, 3) := by decide +kernel
theorem dX7_goOn_52 : decode cX7_goOn 52 = .ok (.bipush 117, 2) := by decide +kernel
theorem dX7_goOn_54 : decode cX7_goOn 54 = .ok (.iload_n 1, 1) := by decide +kernel
theorem dX7_goOn_55 : decode cX7_goOn 55 = .ok (.iadd, 1) := by decide +kernel
theorem dX7_goOn_56 : decode cX7_goOn 56 = .ok (.iconst 2, 1) := by decide +kernel
theorem dX7_goOn_57 : decode cX7_goOn 57 = .ok (.iastore, 1) := by decide +kernel
theorem dX7_goOn_58 : decode cX7_goOn 58 = .ok (.aload_n 0, 1) := by decide +kernel
theorem dX7_goOn_59 : decode cX7_goOn 59 = .ok (.getfield 7, 3) := by decide +kernel
theorem dX7_goOn_62 : decode cX7_goOn 62 = .ok (.sipush 141, 3) := by decide +kernel
theorem dX7_goOn_65 : decode cX7_goOn 65 = .ok (.iload_n 1, 1) := by decide +kernel
theorem dX7_goOn_66 : decode cX7_goOn 66 = .ok (.iadd, 1) := by decide +kernel
theorem dX7_goOn_67 : decode cX7_goOn 67 = .ok (.iconst 2, 1) := by decide +kernel
theorem dX7_goOn_68 : decode cX7_goOn 68 = .ok (.iastore, 1) := by decide +kernel
theorem dX7_goOn_69 : decode cX7_goOn 69 = .ok (.goto 63, 3) := by decide +kernel
theorem dX7_goOn_72 : decode cX7_goOn 72 = .ok (.iload_n 2, 1) := by decide +kernel
theorem dX7_goOn_73 : decode cX7_goOn 73 = .ok (.iconst 2, 1) := by decide +kernel
theorem dX7_goOn_74 : decode cX7_goOn 74 = .ok (.if_icmp .eq 8, 3) := by decide +kernel
theorem dX7_goOn_77 : decode cX7_goOn 77 = .ok (.iload_n 2, 1) := by decide +kernel
theorem dX7_goOn_78 : decode cX7_goOn 78 = .ok (.iconst 3, 1) := by decide +kernel
theorem dX7_goOn_79 : decode cX7_goOn 79 = .ok (.if_icmp .ne 53, 3) := by decide +kernel
theorem dX7_goOn_82 : decode cX7_goOn 82 = .ok (.aload_n 0, 1) := by decide +kernel
theorem dX7_goOn_83 : decode cX7_goOn 83 = .ok (.getfield 7, 3) := by decide +kernel
theorem dX7_goOn_86 : decode cX7_goOn 86 = .ok (.sipush 141, 3) := by decide +kernel
theorem dX7_goOn_89 : decode cX7_goOn 89 = .ok (.iload_n 1, 1) := by decide +kernel
theorem dX7_goOn_90 : decode cX7_goOn 90 = .ok (.iadd, 1) := by decide +kernel
theorem dX7_goOn_91 : decode cX7_goOn 91 = .ok (.dup2, 1) := by decide +kernel
theorem dX7_goOn_92 : decode cX7_goOn 92 = .ok (.iaload, 1) := by decide +kernel
theorem dX7_goOn_93 : decode cX7_goOn 93 = .ok (.iconst 1, 1) := by decide +kernel
theorem dX7_goOn_94 : decode cX7_goOn 94 = .ok (.isub, 1) := by decide +kernel
theorem dX7_goOn_95 : decode cX7_goOn 95 = .ok (.iastore, 1) := by decide +kernel
theorem dX7_goOn_96 : decode cX7_goOn 96 = .ok (.aload_n 0, 1) := by decide +kernel
theorem dX7_goOn_97 : decode cX7_goOn 97 = .ok (.getfield 7, 3) := by decide +kernel
theorem dX7_goOn_100 : decode cX7_goOn 100 = .ok (.sipush 141, 3) := by decide +kernel
theorem dX7_goOn_103 : decode cX7_goOn 103 = .ok (.iload_n 1, 1) := by decide +kernel
theorem dX7_goOn_104 : decode cX7_goOn 104 = .ok (.iadd, 1) := by decide +kernel
theorem dX7_goOn_105 : decode cX7_goOn 105 = .ok (.iaload, 1) := by decide +kernel
theorem dX7_goOn_106 : decode cX7_goOn 106 = .ok (.ifCond .ne 26, 3) := by decide +kernel
theorem dX7_goOn_109 : decode cX7_goOn 109 = .ok (.aload_n 0, 1) := by decide +kernel
theorem dX7_goOn_110 : decode cX7_goOn 110 = .ok (.getfield 7, 3) := by decide +kernel
theorem dX7_goOn_113 : decode cX7_goOn 113 = .ok (.bipush 117, 2) := by decide +kernel
theorem dX7_goOn_115 : decode cX7_goOn 115 = .ok (.iload_n 1, 1) := by decide +kernel
theorem dX7_goOn_116 : decode cX7_goOn 116 = .ok (.iadd, 1) := by decide +kernel
theorem dX7_goOn_117 : decode cX7_goOn 117 = .ok (.iload_n 2, 1) := by decide +kernel
theorem dX7_goOn_118 : decode cX7_goOn 118 = .ok (.iconst 1, 1) := by decide +kernel
theorem dX7_goOn_119 : decode cX7_goOn 119 = .ok (.iadd, 1) := by decide +kernel
theorem dX7_goOn_120 : decode cX7_goOn 120 = .ok (.iastore, 1) := by decide +kernel
theorem dX7_goOn_121 : decode cX7_goOn 121 = .ok (.aload_n 0, 1) := by decide +kernel
theorem dX7_goOn_122 : decode cX7_goOn 122 = .ok (.getfield 7, 3) := by decide +kernel
theorem dX7_goOn_125 : decode cX7_goOn 125 = .ok (.sipush 141, 3) := by decide +kernel
theorem dX7_goOn_128 : decode cX7_goOn 128 = .ok (.iload_n 1, 1) := by decide +kernel
theorem dX7_goOn_129 : decode cX7_goOn 129 = .ok (.iadd, 1) := by decide +kernel
theorem dX7_goOn_130 : decode cX7_goOn 130 = .ok (.iconst 2, 1) := by decide +kernel
theorem dX7_goOn_131 : decode cX7_goOn 131 = .ok (.iastore, 1) := by decide +kernel
theorem dX7_goOn_132 : decode cX7_goOn 132 = .ok (.return_, 1) := by decide +kernel
theorem dX7_tickOnce_0 : decode cX7_tickOnce 0 = .ok (.aload_n 0, 1) := by decide +kernel
theorem dX7_tickOnce_1 : decode cX7_tickOnce 1 = .ok (.invokevirtual 129, 3) := by decide +kernel
theorem dX7_tickOnce_4 : decode cX7_tickOnce 4 = .ok (.iconst 0, 1) := by decide +kernel
theorem dX7_tickOnce_5 : decode cX7_tickOnce 5 = .ok (.istore_n 1, 1) := by decide +kernel
theorem dX7_tickOnce_6 : decode cX7_tickOnce 6 = .ok (.iload_n 1, 1) := by decide +kernel
theorem dX7_tickOnce_7 : decode cX7_tickOnce 7 = .ok (.aload_n 0, 1) := by decide +kernel
theorem dX7_tickOnce_8 : decode cX7_tickOnce 8 = .ok (.invokevirtual 75, 3) := by decide +kernel
theorem dX7_tickOnce_11 : decode cX7_tickOnce 11 = .ok (.if_icmp .ge 21, 3) := by decide +kernel
theorem dX7_tickOnce_14 : decode cX7_tickOnce 14 = .ok (.aload_n 0, 1) := by decide +kernel
theorem dX7_tickOnce_15 : decode cX7_tickOnce 15 = .ok (.getfield 44, 3) := by decide +kernel
theorem dX7_tickOnce_18 : decode cX7_tickOnce 18 = .ok (.iload_n 1, 1) := by decide +kernel
theorem dX7_tickOnce_19 : decode cX7_tickOnce 19 = .ok (.aload_n 0, 1) := by decide +kernel
theorem dX7_tickOnce_20 : decode cX7_tickOnce 20 = .ok (.getfield 32, 3) := by decide +kernel
theorem dX7_tickOnce_23 : decode cX7_tickOnce 23 = .ok (.iload_n 1, 1) := by decide +kernel
theorem dX7_tickOnce_24 : decode cX7_tickOnce 24 = .ok (.iaload, 1) := by decide +kernel
theorem dX7_tickOnce_25 : decode cX7_tickOnce 25 = .ok (.iastore, 1) := by decide +kernel
theorem dX7_tickOnce_26 : decode cX7_tickOnce 26 = .ok (.iinc 1 1, 3) := by decide +kernel
theorem dX7_tickOnce_29 : decode cX7_tickOnce 29 = .ok (.goto (-23), 3) := by decide +kernel
theorem dX7_tickOnce_32 : decode cX7_tickOnce 32 = .ok (.aload_n 0, 1) := by decide +kernel
theorem dX7_tickOnce_33 : decode cX7_tickOnce 33 = .ok (.invokevirtual 132, 3) := by decide +kernel
theorem dX7_tickOnce_36 : decode cX7_tickOnce 36 = .ok (.iconst 0, 1) := by decide +kernel
theorem dX7_tickOnce_37 : decode cX7_tickOnce 37 = .ok (.istore_n 1, 1) := by decide +kernel
theorem dX7_tickOnce_38 : decode cX7_tickOnce 38 = .ok (.iload_n 1, 1) := by decide +kernel
theorem dX7_tickOnce_39 : decode cX7_tickOnce 39 = .ok (.aload_n 0, 1) := by decide +kernel
theorem dX7_tickOnce_40 : decode cX7_tickOnce 40 = .ok (.invokevirtual 75, 3) := by decide +kernel
theorem dX7_tickOnce_43 : decode cX7_tickOnce 43 = .ok (.if_icmp .ge 14, 3) := by decide +kernel
theorem dX7_tickOnce_46 : decode cX7_tickOnce 46 = .ok (.aload_n 0, 1) := by decide +kernel
theorem dX7_tickOnce_47 : decode cX7_tickOnce 47 = .ok (.iload_n 1, 1) := by decide +kernel
theorem dX7_tickOnce_48 : decode cX7_tickOnce 48 = .ok (.invokevirtual 135, 3) := by decide +kernel
theorem dX7_tickOnce_51 : decode cX7_tickOnce 51 = .ok (.iinc 1 1, 3) := by decide +kernel
theorem dX7_tickOnce_54 : decode cX7_tickOnce 54 = .ok (.goto (-16), 3) := by decide +kernel
theorem dX7_tickOnce_57 : decode cX7_tickOnce 57 = .ok (.aload_n 0, 1) := by decide +kernel
theorem dX7_tickOnce_58 : decode cX7_tickOnce 58 = .ok (.invokevirtual 129, 3) := by decide +kernel
theorem dX7_tickOnce_61 : decode cX7_tickOnce 61 = .ok (.iconst 0, 1) := by decide +kernel
theorem dX7_tickOnce_62 : decode cX7_tickOnce 62 = .ok (.istore_n 1, 1) := by decide +kernel
theorem dX7_tickOnce_63 : decode cX7_tickOnce 63 = .ok (.iconst 0, 1) := by decide +kernel
theorem dX7_tickOnce_64 : decode cX7_tickOnce 64 = .ok (.istore_n 2, 1) := by decide +kernel
theorem dX7_tickOnce_65 : decode cX7_tickOnce 65 = .ok (.iload_n 2, 1) := by decide +kernel
theorem dX7_tickOnce_66 : decode cX7_tickOnce 66 = .ok (.aload_n 0, 1) := by decide +kernel
theorem dX7_tickOnce_67 : decode cX7_tickOnce 67 = .ok (.invokevirtual 75, 3) := by decide +kernel
theorem dX7_tickOnce_70 : decode cX7_tickOnce 70 = .ok (.if_icmp .ge 71, 3) := by decide +kernel
theorem dX7_tickOnce_73 : decode cX7_tickOnce 73 = .ok (.aload_n 0, 1) := by decide +kernel
theorem dX7_tickOnce_74 : decode cX7_tickOnce 74 = .ok (.getfield 7, 3) := by decide +kernel
theorem dX7_tickOnce_77 : decode cX7_tickOnce 77 = .ok (.bipush 117, 2) := by decide +kernel
theorem dX7_tickOnce_79 : decode cX7_tickOnce 79 = .ok (.iload_n 2, 1) := by decide +kernel
theorem dX7_tickOnce_80 : decode cX7_tickOnce 80 = .ok (.iadd, 1) := by decide +kernel
theorem dX7_tickOnce_81 : decode cX7_tickOnce 81 = .ok (.iaload, 1) := by decide +kernel
theorem dX7_tickOnce_82 : decode cX7_tickOnce 82 = .ok (.istore_n 3, 1) := by decide +kernel
theorem dX7_tickOnce_83 : decode cX7_tickOnce 83 = .ok (.aload_n 0, 1) := by decide +kernel
theorem dX7_tickOnce_84 : decode cX7_tickOnce 84 = .ok (.getfield 32, 3) := by decide +kernel
theorem dX7_tickOnce_87 : decode cX7_tickOnce 87 = .ok (.iload_n 2, 1) := by decide +kernel
theorem dX7_tickOnce_88 : decode cX7_tickOnce 88 = .ok (.iaload, 1) := by decide +kernel
theorem dX7_tickOnce_89 : decode cX7_tickOnce 89 = .ok (.ifCond .eq 8, 3) := by decide +kernel
theorem dX7_tickOnce_92 : decode cX7_tickOnce 92 = .ok (.aload_n 0, 1) := by decide +kernel
theorem dX7_tickOnce_93 : decode cX7_tickOnce 93 = .ok (.iload_n 2, 1) := by decide +kernel
theorem dX7_tickOnce_94 : decode cX7_tickOnce 94 = .ok (.invokevirtual 138, 3) := by decide +kernel
theorem dX7_tickOnce_97 : decode cX7_tickOnce 97 = .ok (.iload_n 1, 1) := by decide +kernel
theorem dX7_tickOnce_98 : decode cX7_tickOnce 98 = .ok (.ifCond .ne 31, 3) := by decide +kernel
theorem dX7_tickOnce_101 : decode cX7_tickOnce 101 = .ok (.aload_n 0, 1) := by decide +kernel
theorem dX7_tickOnce_102 : decode cX7_tickOnce 102 = .ok (.getfield 7, 3) := by decide +kernel
theorem dX7_tickOnce_105 : decode cX7_tickOnce 105 = .ok (.bipush 117, 2) := by decide +kernel
theorem dX7_tickOnce_107 : decode cX7_tickOnce 107 = .ok (.iload_n 2, 1) := by decide +kernel
theorem dX7_tickOnce_108 : decode cX7_tickOnce 108 = .ok (.iadd, 1) := by decide +kernel
theorem dX7_tickOnce_109 : decode cX7_tickOnce 109 = .ok (.iaload, 1) := by decide +kernel
theorem dX7_tickOnce_110 : decode cX7_tickOnce 110 = .ok (.iload_n 3, 1) := by decide +kernel
theorem dX7_tickOnce_111 : decode cX7_tickOnce 111 = .ok (.if_icmp .ne 18, 3) := by decide +kernel
theorem dX7_tickOnce_114 : decode cX7_tickOnce 114 = .ok (.aload_n 0, 1) := by decide +kernel
theorem dX7_tickOnce_115 : decode cX7_tickOnce 115 = .ok (.getfield 32, 3) := by decide +kernel
theorem dX7_tickOnce_118 : decode cX7_tickOnce 118 = .ok (.iload_n 2, 1) := by decide +kernel
theorem dX7_tickOnce_119 : decode cX7_tickOnce 119 = .ok (.iaload, 1) := by decide +kernel
theorem dX7_tickOnce_120 : decode cX7_tickOnce 120 = .ok (.aload_n 0, 1) := by decide +kernel
theorem dX7_tickOnce_121 : decode cX7_tickOnce 121 = .ok (.getfield 44, 3) := by decide +kernel
theorem dX7_tickOnce_124 : decode cX7_tickOnce 124 = .ok (.iload_n 2, 1) := by decide +kernel
theorem dX7_tickOnce_125 : decode cX7_tickOnce 125 = .ok (.iaload, 1) := by decide +kernel
theorem dX7_tickOnce_126 : decode cX7_tickOnce 126 = .ok (.if_icmp .eq 7, 3) := by decide +kernel
theorem dX7_tickOnce_129 : decode cX7_tickOnce 129 = .ok (.iconst 1, 1) := by decide +kernel
theorem dX7_tickOnce_130 : decode cX7_tickOnce 130 = .ok (.goto 4, 3) := by decide +kernel
theorem dX7_tickOnce_133 : decode cX7_tickOnce 133 = .ok (.iconst 0, 1) := by decide +kernel
theorem dX7_tickOnce_134 : decode cX7_tickOnce 134 = .ok (.istore_n 1, 1) := by decide +kernel
theorem dX7_tickOnce_135 : decode cX7_tickOnce 135 = .ok (.iinc 2 1, 3) := by decide +kernel
theorem dX7_tickOnce_138 : decode cX7_tickOnce 138 = .ok (.goto (-73), 3) := by decide +kernel
theorem dX7_tickOnce_141 : decode cX7_tickOnce 141 = .ok (.iconst 0, 1) := by decide +kernel
theorem dX7_tickOnce_142 : decode cX7_tickOnce 142 = .ok (.istore_n 2, 1) := by decide +kernel
theorem dX7_tickOnce_143 : decode cX7_tickOnce 143 = .ok (.iload_n 2, 1) := by decide +kernel
theorem dX7_tickOnce_144 : decode cX7_tickOnce 144 = .ok (.bipush 64, 2) := by decide +kernel
theorem dX7_tickOnce_146 : decode cX7_tickOnce 146 = .ok (.if_icmp .ge 40, 3) := by decide +kernel
theorem dX7_tickOnce_149 : decode cX7_tickOnce 149 = .ok (.aload_n 0, 1) := by decide +kernel
theorem dX7_tickOnce_150 : decode cX7_tickOnce 150 = .ok (.getfield 7, 3) := by decide +kernel
theorem dX7_tickOnce_153 : decode cX7_tickOnce 153 = .ok (.sipush 357, 3) := by decide +kernel
theorem dX7_tickOnce_156 : decode cX7_tickOnce 156 = .ok (.iload_n 2, 1) := by decide +kernel
theorem dX7_tickOnce_157 : decode cX7_tickOnce 157 = .ok (.iadd, 1) := by decide +kernel
theorem dX7_tickOnce_158 : decode cX7_tickOnce 158 = .ok (.dup2, 1) := by decide +kernel
theorem dX7_tickOnce_159 : decode cX7_tickOnce 159 = .ok (.iaload, 1) := by decide +kernel
theorem dX7_tickOnce_160 : decode cX7_tickOnce 160 = .ok (.aload_n 0, 1) := by decide +kernel
theorem dX7_tickOnce_161 : decode cX7_tickOnce 161 = .ok (.getfield 7, 3) := by decide +kernel
theorem dX7_tickOnce_164 : decode cX7_tickOnce 164 = .ok (.sipush 357, 3) := by decide +kernel
theorem dX7_tickOnce_167 : decode cX7_tickOnce 167 = .ok (.iload_n 2, 1) := by decide +kernel
theorem dX7_tickOnce_168 : decode cX7_tickOnce 168 = .ok (.iadd, 1) := by decide +kernel
theorem dX7_tickOnce_169 : decode cX7_tickOnce 169 = .ok (.iaload, 1) := by decide +kernel
theorem dX7_tickOnce_170 : decode cX7_tickOnce 170 = .ok (.ifCond .le 7, 3) := by decide +kernel
theorem dX7_tickOnce_173 : decode cX7_tickOnce 173 = .ok (.iconst 1, 1) := by decide +kernel
theorem dX7_tickOnce_174 : decode cX7_tickOnce 174 = .ok (.goto 4, 3) := by decide +kernel
theorem dX7_tickOnce_177 : decode cX7_tickOnce 177 = .ok (.iconst 0, 1) := by decide +kernel
theorem dX7_tickOnce_178 : decode cX7_tickOnce 178 = .ok (.isub, 1) := by decide +kernel
theorem dX7_tickOnce_179 : decode cX7_tickOnce 179 = .ok (.iastore, 1) := by decide +kernel
theorem dX7_tickOnce_180 : decode cX7_tickOnce 180 = .ok (.iinc 2 1, 3) := by decide +kernel
theorem dX7_tickOnce_183 : decode cX7_tickOnce 183 = .ok (.goto (-40), 3) := by decide +kernel
theorem dX7_tickOnce_186 : decode cX7_tickOnce 186 = .ok (.aload_n 0, 1) := by decide +kernel
theorem dX7_tickOnce_187 : decode cX7_tickOnce 187 = .ok (.getfield 7, 3) := by decide +kernel
theorem dX7_tickOnce_190 : decode cX7_tickOnce 190 = .ok (.iconst 4, 1) := by decide +kernel
theorem dX7_tickOnce_191 : decode cX7_tickOnce 191 = .ok (.dup2, 1) := by decide +kernel
theorem dX7_tickOnce_192 : decode cX7_tickOnce 192 = .ok (.iaload, 1) := by decide +kernel
theorem dX7_tickOnce_193 : decode cX7_tickOnce 193 = .ok (.iconst 1, 1) := by decide +kernel
theorem dX7_tickOnce_194 : decode cX7_tickOnce 194 = .ok (.iadd, 1) := by decide +kernel
theorem dX7_tickOnce_195 : decode cX7_tickOnce 195 = .ok (.iastore, 1) := by decide +kernel
theorem dX7_tickOnce_196 : decode cX7_tickOnce 196 = .ok (.iload_n 1, 1) := by decide +kernel
theorem dX7_tickOnce_197 : decode cX7_tickOnce 197 = .ok (.ireturn, 1) := by decide +kernel
theorem dX7_tick_0 : decode cX7_tick 0 = .ok (.iload_n 1, 1) := by decide +kernel
theorem dX7_tick_1 : decode cX7_tick 1 = .ok (.iconst 1, 1) := by decide +kernel
theorem dX7_tick_2 : decode cX7_tick 2 = .ok (.bipush 50, 2) := by decide +kernel
theorem dX7_tick_4 : decode cX7_tick 4 = .ok (.invokestatic 56, 3) := by decide +kernel
theorem dX7_tick_7 : decode cX7_tick 7 = .ok (.ifCond .ne 6, 3) := by decide +kernel
theorem dX7_tick_10 : decode cX7_tick 10 = .ok (.bipush (-5), 2) := by decide +kernel
theorem dX7_tick_12 : decode cX7_tick 12 = .ok (.ireturn, 1) := by decide +kernel
theorem dX7_tick_13 : decode cX7_tick 13 = .ok (.iconst 0, 1) := by decide +kernel
theorem dX7_tick_14 : decode cX7_tick 14 = .ok (.istore_n 2, 1) := by decide +kernel
theorem dX7_tick_15 : decode cX7_tick 15 = .ok (.iload_n 2, 1) := by decide +kernel
theorem dX7_tick_16 : decode cX7_tick 16 = .ok (.iload_n 1, 1) := by decide +kernel
theorem dX7_tick_17 : decode cX7_tick 17 = .ok (.if_icmp .ge 14, 3) := by decide +kernel
theorem dX7_tick_20 : decode cX7_tick 20 = .ok (.aload_n 0, 1) := by decide +kernel
theorem dX7_tick_21 : decode cX7_tick 21 = .ok (.invokevirtual 141, 3) := by decide +kernel
theorem dX7_tick_24 : decode cX7_tick 24 = .ok (.istore_n 3, 1) := by decide +kernel
theorem dX7_tick_25 : decode cX7_tick 25 = .ok (.iinc 2 1, 3) := by decide +kernel
theorem dX7_tick_28 : decode cX7_tick 28 = .ok (.goto (-13), 3) := by decide +kernel
theorem dX7_tick_31 : decode cX7_tick 31 = .ok (.aload_n 0, 1) := by decide +kernel
theorem dX7_tick_32 : decode cX7_tick 32 = .ok (.getfield 7, 3) := by decide +kernel
theorem dX7_tick_35 : decode cX7_tick 35 = .ok (.iconst 4, 1) := by decide +kernel
theorem dX7_tick_36 : decode cX7_tick 36 = .ok (.iaload, 1) := by decide +kernel
theorem dX7_tick_37 : decode cX7_tick 37 = .ok (.ireturn, 1) := by decide +kernel
theorem dX7_settle_0 : decode cX7_settle 0 = .ok (.iload_n 1, 1) := by decide +kernel
theorem dX7_settle_1 : decode cX7_settle 1 = .ok (.bipush 8, 2) := by decide +kernel
theorem dX7_settle_3 : decode cX7_settle 3 = .ok (.sipush 200, 3) := by decide +kernel
theorem dX7_settle_6 : decode cX7_settle 6 = .ok (.invokestatic 56, 3) := by decide +kernel
theorem dX7_settle_9 : decode cX7_settle 9 = .ok (.ifCond .ne 6, 3) := by decide +kernel
theorem dX7_settle_12 : decode cX7_settle 12 = .ok (.bipush (-5), 2) := by decide +kernel
theorem dX7_settle_14 : decode cX7_settle 14 = .ok (.ireturn, 1) := by decide +kernel
theorem dX7_settle_15 : decode cX7_settle 15 = .ok (.iconst 0, 1) := by decide +kernel
theorem dX7_settle_16 : decode cX7_settle 16 = .ok (.istore_n 2, 1) := by decide +kernel
theorem dX7_settle_17 : decode cX7_settle 17 = .ok (.iconst 1, 1) := by decide +kernel
theorem dX7_settle_18 : decode cX7_settle 18 = .ok (.istore_n 3, 1) := by decide +kernel
theorem dX7_settle_19 : decode cX7_settle 19 = .ok (.iload_n 3, 1) := by decide +kernel
theorem dX7_settle_20 : decode cX7_settle 20 = .ok (.iload_n 1, 1) := by decide +kernel
theorem dX7_settle_21 : decode cX7_settle 21 = .ok (.if_icmp .gt 32, 3) := by decide +kernel
theorem dX7_settle_24 : decode cX7_settle 24 = .ok (.aload_n 0, 1) := by decide +kernel
theorem dX7_settle_25 : decode cX7_settle 25 = .ok (.invokevirtual 141, 3) := by decide +kernel
theorem dX7_settle_28 : decode cX7_settle 28 = .ok (.ifCond .eq 7, 3) := by decide +kernel
theorem dX7_settle_31 : decode cX7_settle 31 = .ok (.iconst 0, 1) := by decide +kernel
theorem dX7_settle_32 : decode cX7_settle 32 = .ok (.goto 6, 3) := by decide +kernel
theorem dX7_settle_35 : decode cX7_settle 35 = .ok (.iload_n 2, 1) := by decide +kernel
theorem dX7_settle_36 : decode cX7_settle 36 = .ok (.iconst 1, 1) := by decide +kernel
theorem dX7_settle_37 : decode cX7_settle 37 = .ok (.iadd, 1) := by decide +kernel
theorem dX7_settle_38 : decode cX7_settle 38 = .ok (.istore_n 2, 1) := by decide +kernel
theorem dX7_settle_39 : decode cX7_settle 39 = .ok (.iload_n 2, 1) := by decide +kernel
theorem dX7_settle_40 : decode cX7_settle 40 = .ok (.bipush 8, 2) := by decide +kernel
theorem dX7_settle_42 : decode cX7_settle 42 = .ok (.if_icmp .ne 5, 3) := by decide +kernel
theorem dX7_settle_45 : decode cX7_settle 45 = .ok (.iload_n 3, 1) := by decide +kernel
theorem dX7_settle_46 : decode cX7_settle 46 = .ok (.ireturn, 1) := by decide +kernel
theorem dX7_settle_47 : decode cX7_settle 47 = .ok (.iinc 3 1, 3) := by decide +kernel
theorem dX7_settle_50 : decode cX7_settle 50 = .ok (.goto (-31), 3) := by decide +kernel
theorem dX7_settle_53 : decode cX7_settle 53 = .ok (.bipush (-7), 2) := by decide +kernel
theorem dX7_settle_55 : decode cX7_settle 55 = .ok (.ireturn, 1) := by decide +kernel
theorem dX7_identifier_0 : decode cX7_identifier 0 = .ok (.aload_n 0, 1) := by decide +kernel
theorem dX7_identifier_1 : decode cX7_identifier 1 = .ok (.iload_n 1, 1) := by decide +kernel
theorem dX7_identifier_2 : decode cX7_identifier 2 = .ok (.invokevirtual 68, 3) := by decide +kernel
theorem dX7_identifier_5 : decode cX7_identifier 5 = .ok (.ifCond .eq 11, 3) := by decide +kernel
theorem dX7_identifier_8 : decode cX7_identifier 8 = .ok (.aload_n 0, 1) := by decide +kernel
theorem dX7_identifier_9 : decode cX7_identifier 9 = .ok (.iload_n 1, 1) := by decide +kernel
theorem dX7_identifier_10 : decode cX7_identifier 10 = .ok (.invokevirtual 102, 3) := by decide +kernel
theorem dX7_identifier_13 : decode cX7_identifier 13 = .ok (.goto 4, 3) := by decide +kernel
theorem dX7_identifier_16 : decode cX7_identifier 16 = .ok (.iconst (-1), 1) := by decide +kernel
theorem dX7_identifier_17 : decode cX7_identifier 17 = .ok (.ireturn, 1) := by decide +kernel
theorem dX7_isUp_0 : decode cX7_isUp 0 = .ok (.aload_n 0, 1) := by decide +kernel
theorem dX7_isUp_1 : decode cX7_isUp 1 = .ok (.getfield 7, 3) := by decide +kernel
theorem dX7_isUp_4 : decode cX7_isUp 4 = .ok (.bipush 13, 2) := by decide +kernel
theorem dX7_isUp_6 : decode cX7_isUp 6 = .ok (.iload_n 1, 1) := by decide +kernel
theorem dX7_isUp_7 : decode cX7_isUp 7 = .ok (.iadd, 1) := by decide +kernel
theorem dX7_isUp_8 : decode cX7_isUp 8 = .ok (.iaload, 1) := by decide +kernel
theorem dX7_isUp_9 : decode cX7_isUp 9 = .ok (.iconst 1, 1) := by decide +kernel
theorem dX7_isUp_10 : decode cX7_isUp 10 = .ok (.if_icmp .ne 7, 3) := by decide +kernel
theorem dX7_isUp_13 : decode cX7_isUp 13 = .ok (.iconst 1, 1) := by decide +kernel
theorem dX7_isUp_14 : decode cX7_isUp 14 = .ok (.goto 4, 3) := by decide +kernel
theorem dX7_isUp_17 : decode cX7_isUp 17 = .ok (.iconst 0, 1) := by decide +kernel
theorem dX7_isUp_18 : decode cX7_isUp 18 = .ok (.ireturn, 1) := by decide +kernel
theorem dX7_root_0 : decode cX7_root 0 = .ok (.aload_n 0, 1) := by decide +kernel
theorem dX7_root_1 : decode cX7_root 1 = .ok (.iload_n 1, 1) := by decide +kernel
theorem dX7_root_2 : decode cX7_root 2 = .ok (.invokevirtual 68, 3) := by decide +kernel
theorem dX7_root_5 : decode cX7_root 5 = .ok (.ifCond .ne 5, 3) := by decide +kernel
theorem dX7_root_8 : decode cX7_root 8 = .ok (.iconst (-1), 1) := by decide +kernel
theorem dX7_root_9 : decode cX7_root 9 = .ok (.ireturn, 1) := by decide +kernel
theorem dX7_root_10 : decode cX7_root 10 = .ok (.aload_n 0, 1) := by decide +kernel
theorem dX7_root_11 : decode cX7_root 11 = .ok (.invokevirtual 129, 3) := by decide +kernel
theorem dX7_root_14 : decode cX7_root 14 = .ok (.aload_n 0, 1) := by decide +kernel
theorem dX7_root_15 : decode cX7_root 15 = .ok (.iload_n 1, 1) := by decide +kernel
theorem dX7_root_16 : decode cX7_root 16 = .ok (.invokevirtual 145, 3) := by decide +kernel
theorem dX7_root_19 : decode cX7_root 19 = .ok (.ifCond .eq 12, 3) := by decide +kernel
theorem dX7_root_22 : decode cX7_root 22 = .ok (.aload_n 0, 1) := by decide +kernel
theorem dX7_root_23 : decode cX7_root 23 = .ok (.getfield 26, 3) := by decide +kernel
theorem dX7_root_26 : decode cX7_root 26 = .ok (.iload_n 1, 1) := by decide +kernel
theorem dX7_root_27 : decode cX7_root 27 = .ok (.iaload, 1) := by decide +kernel
theorem dX7_root_28 : decode cX7_root 28 = .ok (.goto 5, 3) := by decide +kernel
theorem dX7_root_31 : decode cX7_root 31 = .ok (.bipush (-9), 2) := by decide +kernel
theorem dX7_root_33 : decode cX7_root 33 = .ok (.ireturn, 1) := by decide +kernel
theorem dX7_rootCost_0 : decode cX7_rootCost 0 = .ok (.aload_n 0, 1) := by decide +kernel
theorem dX7_rootCost_1 : decode cX7_rootCost 1 = .ok (.iload_n 1, 1) := by decide +kernel
theorem dX7_rootCost_2 : decode cX7_rootCost 2 = .ok (.invokevirtual 68, 3) := by decide +kernel
theorem dX7_rootCost_5 : decode cX7_rootCost 5 = .ok (.ifCond .ne 5, 3) := by decide +kernel
theorem dX7_rootCost_8 : decode cX7_rootCost 8 = .ok (.iconst (-1), 1) := by decide +kernel
theorem dX7_rootCost_9 : decode cX7_rootCost 9 = .ok (.ireturn, 1) := by decide +kernel
theorem dX7_rootCost_10 : decode cX7_rootCost 10 = .ok (.aload_n 0, 1) := by decide +kernel
theorem dX7_rootCost_11 : decode cX7_rootCost 11 = .ok (.invokevirtual 129, 3) := by decide +kernel
theorem dX7_rootCost_14 : decode cX7_rootCost 14 = .ok (.aload_n 0, 1) := by decide +kernel
theorem dX7_rootCost_15 : decode cX7_rootCost 15 = .ok (.iload_n 1, 1) := by decide +kernel
theorem dX7_rootCost_16 : decode cX7_rootCost 16 = .ok (.invokevirtual 145, 3) := by decide +kernel
theorem dX7_rootCost_19 : decode cX7_rootCost 19 = .ok (.ifCond .eq 12, 3) := by decide +kernel
theorem dX7_rootCost_22 : decode cX7_rootCost 22 = .ok (.aload_n 0, 1) := by decide +kernel
theorem dX7_rootCost_23 : decode cX7_rootCost 23 = .ok (.getfield 29, 3) := by decide +kernel
theorem dX7_rootCost_26 : decode cX7_rootCost 26 = .ok (.iload_n 1, 1) := by decide +kernel
theorem dX7_rootCost_27 : decode cX7_rootCost 27 = .ok (.iaload, 1) := by decide +kernel
theorem dX7_rootCost_28 : decode cX7_rootCost 28 = .ok (.goto 5, 3) := by decide +kernel
theorem dX7_rootCost_31 : decode cX7_rootCost 31 = .ok (.bipush (-9), 2) := by decide +kernel
theorem dX7_rootCost_33 : decode cX7_rootCost 33 = .ok (.ireturn, 1) := by decide +kernel
theorem dX7_rootPort_0 : decode cX7_rootPort 0 = .ok (.aload_n 0, 1) := by decide +kernel
theorem dX7_rootPort_1 : decode cX7_rootPort 1 = .ok (.iload_n 1, 1) := by decide +kernel
theorem dX7_rootPort_2 : decode cX7_rootPort 2 = .ok (.invokevirtual 68, 3) := by decide +kernel
theorem dX7_rootPort_5 : decode cX7_rootPort 5 = .ok (.ifCond .ne 5, 3) := by decide +kernel
theorem dX7_rootPort_8 : decode cX7_rootPort 8 = .ok (.iconst (-1), 1) := by decide +kernel
theorem dX7_rootPort_9 : decode cX7_rootPort 9 = .ok (.ireturn, 1) := by decide +kernel
theorem dX7_rootPort_10 : decode cX7_rootPort 10 = .ok (.aload_n 0, 1) := by decide +kernel
theorem dX7_rootPort_11 : decode cX7_rootPort 11 = .ok (.invokevirtual 129, 3) := by decide +kernel
theorem dX7_rootPort_14 : decode cX7_rootPort 14 = .ok (.aload_n 0, 1) := by decide +kernel
theorem dX7_rootPort_15 : decode cX7_rootPort 15 = .ok (.getfield 23, 3) := by decide +kernel
theorem dX7_rootPort_18 : decode cX7_rootPort 18 = .ok (.iload_n 1, 1) := by decide +kernel
theorem dX7_rootPort_19 : decode cX7_rootPort 19 = .ok (.iaload, 1) := by decide +kernel
theorem dX7_rootPort_20 : decode cX7_rootPort 20 = .ok (.ireturn, 1) := by decide +kernel
theorem dX7_role_0 : decode cX7_role 0 = .ok (.aload_n 0, 1) := by decide +kernel
theorem dX7_role_1 : decode cX7_role 1 = .ok (.iload_n 1, 1) := by decide +kernel
theorem dX7_role_2 : decode cX7_role 2 = .ok (.invokevirtual 85, 3) := by decide +kernel
theorem dX7_role_5 : decode cX7_role 5 = .ok (.ifCond .ne 6, 3) := by decide +kernel
theorem dX7_role_8 : decode cX7_role 8 = .ok (.bipush (-3), 2) := by decide +kernel
theorem dX7_role_10 : decode cX7_role 10 = .ok (.ireturn, 1) := by decide +kernel
theorem dX7_role_11 : decode cX7_role 11 = .ok (.aload_n 0, 1) := by decide +kernel
theorem dX7_role_12 : decode cX7_role 12 = .ok (.invokevirtual 129, 3) := by decide +kernel
theorem dX7_role_15 : decode cX7_role 15 = .ok (.aload_n 0, 1) := by decide +kernel
theorem dX7_role_16 : decode cX7_role 16 = .ok (.getfield 32, 3) := by decide +kernel
theorem dX7_role_19 : decode cX7_role 19 = .ok (.iload_n 1, 1) := by decide +kernel
theorem dX7_role_20 : decode cX7_role 20 = .ok (.iaload, 1) := by decide +kernel
theorem dX7_role_21 : decode cX7_role 21 = .ok (.ireturn, 1) := by decide +kernel
theorem dX7_state_0 : decode cX7_state 0 = .ok (.aload_n 0, 1) := by decide +kernel
theorem dX7_state_1 : decode cX7_state 1 = .ok (.iload_n 1, 1) := by decide +kernel
theorem dX7_state_2 : decode cX7_state 2 = .ok (.invokevirtual 85, 3) := by decide +kernel
theorem dX7_state_5 : decode cX7_state 5 = .ok (.ifCond .eq 15, 3) := by decide +kernel
theorem dX7_state_8 : decode cX7_state 8 = .ok (.aload_n 0, 1) := by decide +kernel
theorem dX7_state_9 : decode cX7_state 9 = .ok (.getfield 7, 3) := by decide +kernel
theorem dX7_state_12 : decode cX7_state 12 = .ok (.bipush 117, 2) := by decide +kernel
theorem dX7_state_14 : decode cX7_state 14 = .ok (.iload_n 1, 1) := by decide +kernel
theorem dX7_state_15 : decode cX7_state 15 = .ok (.iadd, 1) := by decide +kernel
theorem dX7_state_16 : decode cX7_state 16 = .ok (.iaload, 1) := by decide +kernel
theorem dX7_state_17 : decode cX7_state 17 = .ok (.goto 5, 3) := by decide +kernel
theorem dX7_state_20 : decode cX7_state 20 = .ok (.bipush (-3), 2) := by decide +kernel
theorem dX7_state_22 : decode cX7_state 22 = .ok (.ireturn, 1) := by decide +kernel
theorem dX7_stored_0 : decode cX7_stored 0 = .ok (.aload_n 0, 1) := by decide +kernel
theorem dX7_stored_1 : decode cX7_stored 1 = .ok (.iload_n 1, 1) := by decide +kernel
theorem dX7_stored_2 : decode cX7_stored 2 = .ok (.invokevirtual 85, 3) := by decide +kernel
theorem dX7_stored_5 : decode cX7_stored 5 = .ok (.ifCond .ne 6, 3) := by decide +kernel
theorem dX7_stored_8 : decode cX7_stored 8 = .ok (.bipush (-3), 2) := by decide +kernel
theorem dX7_stored_10 : decode cX7_stored 10 = .ok (.ireturn, 1) := by decide +kernel
theorem dX7_stored_11 : decode cX7_stored 11 = .ok (.iload_n 2, 1) := by decide +kernel
theorem dX7_stored_12 : decode cX7_stored 12 = .ok (.iconst 0, 1) := by decide +kernel
theorem dX7_stored_13 : decode cX7_stored 13 = .ok (.iconst 4, 1) := by decide +kernel
theorem dX7_stored_14 : decode cX7_stored 14 = .ok (.invokestatic 56, 3) := by decide +kernel
theorem dX7_stored_17 : decode cX7_stored 17 = .ok (.ifCond .ne 6, 3) := by decide +kernel
theorem dX7_stored_20 : decode cX7_stored 20 = .ok (.bipush (-5), 2) := by decide +kernel
theorem dX7_stored_22 : decode cX7_stored 22 = .ok (.ireturn, 1) := by decide +kernel
theorem dX7_stored_23 : decode cX7_stored 23 = .ok (.aload_n 0, 1) := by decide +kernel
theorem dX7_stored_24 : decode cX7_stored 24 = .ok (.iload_n 1, 1) := by decide +kernel
theorem dX7_stored_25 : decode cX7_stored 25 = .ok (.invokevirtual 99, 3) := by decide +kernel
theorem dX7_stored_28 : decode cX7_stored 28 = .ok (.ifCond .eq 12, 3) := by decide +kernel
theorem dX7_stored_31 : decode cX7_stored 31 = .ok (.aload_n 0, 1) := by decide +kernel
theorem dX7_stored_32 : decode cX7_stored 32 = .ok (.iload_n 1, 1) := by decide +kernel
theorem dX7_stored_33 : decode cX7_stored 33 = .ok (.iload_n 2, 1) := by decide +kernel
theorem dX7_stored_34 : decode cX7_stored 34 = .ok (.invokevirtual 64, 3) := by decide +kernel
theorem dX7_stored_37 : decode cX7_stored 37 = .ok (.goto 5, 3) := by decide +kernel
theorem dX7_stored_40 : decode cX7_stored 40 = .ok (.bipush (-9), 2) := by decide +kernel
theorem dX7_stored_42 : decode cX7_stored 42 = .ok (.ireturn, 1) := by decide +kernel
theorem dX7_portsIn_0 : decode cX7_portsIn 0 = .ok (.iload_n 1, 1) := by decide +kernel
theorem dX7_portsIn_1 : decode cX7_portsIn 1 = .ok (.iconst 0, 1) := by decide +kernel
theorem dX7_portsIn_2 : decode cX7_portsIn 2 = .ok (.iconst 4, 1) := by decide +kernel
theorem dX7_portsIn_3 : decode cX7_portsIn 3 = .ok (.invokestatic 56, 3) := by decide +kernel
theorem dX7_portsIn_6 : decode cX7_portsIn 6 = .ok (.ifCond .ne 6, 3) := by decide +kernel
theorem dX7_portsIn_9 : decode cX7_portsIn 9 = .ok (.bipush (-5), 2) := by decide +kernel
theorem dX7_portsIn_11 : decode cX7_portsIn 11 = .ok (.ireturn, 1) := by decide +kernel
theorem dX7_portsIn_12 : decode cX7_portsIn 12 = .ok (.iconst 0, 1) := by decide +kernel
theorem dX7_portsIn_13 : decode cX7_portsIn 13 = .ok (.istore_n 2, 1) := by decide +kernel
theorem dX7_portsIn_14 : decode cX7_portsIn 14 = .ok (.iconst 0, 1) := by decide +kernel
theorem dX7_portsIn_15 : decode cX7_portsIn 15 = .ok (.istore_n 3, 1) := by decide +kernel
theorem dX7_portsIn_16 : decode cX7_portsIn 16 = .ok (.iload_n 3, 1) := by decide +kernel
theorem dX7_portsIn_17 : decode cX7_portsIn 17 = .ok (.aload_n 0, 1) := by decide +kernel
theorem dX7_portsIn_18 : decode cX7_portsIn 18 = .ok (.invokevirtual 75, 3) := by decide +kernel
theorem dX7_portsIn_21 : decode cX7_portsIn 21 = .ok (.if_icmp .ge 32, 3) := by decide +kernel
theorem dX7_portsIn_24 : decode cX7_portsIn 24 = .ok (.iload_n 2, 1) := by decide +kernel
theorem dX7_portsIn_25 : decode cX7_portsIn 25 = .ok (.aload_n 0, 1) := by decide +kernel
theorem dX7_portsIn_26 : decode cX7_portsIn 26 = .ok (.getfield 7, 3) := by decide +kernel
theorem dX7_portsIn_29 : decode cX7_portsIn 29 = .ok (.bipush 117, 2) := by decide +kernel
theorem dX7_portsIn_31 : decode cX7_portsIn 31 = .ok (.iload_n 3, 1) := by decide +kernel
theorem dX7_portsIn_32 : decode cX7_portsIn 32 = .ok (.iadd, 1) := by decide +kernel
theorem dX7_portsIn_33 : decode cX7_portsIn 33 = .ok (.iaload, 1) := by decide +kernel
theorem dX7_portsIn_34 : decode cX7_portsIn 34 = .ok (.iload_n 1, 1) := by decide +kernel
theorem dX7_portsIn_35 : decode cX7_portsIn 35 = .ok (.if_icmp .ne 9, 3) := by decide +kernel
theorem dX7_portsIn_38 : decode cX7_portsIn 38 = .ok (.iconst 1, 1) := by decide +kernel
theorem dX7_portsIn_39 : decode cX7_portsIn 39 = .ok (.iload_n 3, 1) := by decide +kernel
theorem dX7_portsIn_40 : decode cX7_portsIn 40 = .ok (.ishl, 1) := by decide +kernel
theorem dX7_portsIn_41 : decode cX7_portsIn 41 = .ok (.goto 4, 3) := by decide +kernel
theorem dX7_portsIn_44 : decode cX7_portsIn 44 = .ok (.iconst 0, 1) := by decide +kernel
theorem dX7_portsIn_45 : decode cX7_portsIn 45 = .ok (.ior, 1) := by decide +kernel
theorem dX7_portsIn_46 : decode cX7_portsIn 46 = .ok (.istore_n 2, 1) := by decide +kernel
theorem dX7_portsIn_47 : decode cX7_portsIn 47 = .ok (.iinc 3 1, 3) := by decide +kernel
theorem dX7_portsIn_50 : decode cX7_portsIn 50 = .ok (.goto (-34), 3) := by decide +kernel
theorem dX7_portsIn_53 : decode cX7_portsIn 53 = .ok (.iload_n 2, 1) := by decide +kernel
theorem dX7_portsIn_54 : decode cX7_portsIn 54 = .ok (.ireturn, 1) := by decide +kernel
theorem dX7_joinAll_0 : decode cX7_joinAll 0 = .ok (.iconst 0, 1) := by decide +kernel
theorem dX7_joinAll_1 : decode cX7_joinAll 1 = .ok (.istore_n 1, 1) := by decide +kernel
theorem dX7_joinAll_2 : decode cX7_joinAll 2 = .ok (.iload_n 1, 1) := by decide +kernel
theorem dX7_joinAll_3 : decode cX7_joinAll 3 = .ok (.bipush 18, 2) := by decide +kernel
theorem dX7_joinAll_5 : decode cX7_joinAll 5 = .ok (.if_icmp .ge 16, 3) := by decide +kernel
theorem dX7_joinAll_8 : decode cX7_joinAll 8 = .ok (.aload_n 0, 1) := by decide +kernel
theorem dX7_joinAll_9 : decode cX7_joinAll 9 = .ok (.getfield 47, 3) := by decide +kernel
theorem dX7_joinAll_12 : decode cX7_joinAll 12 = .ok (.iload_n 1, 1) := by decide +kernel
theorem dX7_joinAll_13 : decode cX7_joinAll 13 = .ok (.iload_n 1, 1) := by decide +kernel
theorem dX7_joinAll_14 : decode cX7_joinAll 14 = .ok (.iastore, 1) := by decide +kernel
theorem dX7_joinAll_15 : decode cX7_joinAll 15 = .ok (.iinc 1 1, 3) := by decide +kernel
theorem dX7_joinAll_18 : decode cX7_joinAll 18 = .ok (.goto (-16), 3) := by decide +kernel
theorem dX7_joinAll_21 : decode cX7_joinAll 21 = .ok (.iconst 0, 1) := by decide +kernel
theorem dX7_joinAll_22 : decode cX7_joinAll 22 = .ok (.istore_n 1, 1) := by decide +kernel
theorem dX7_joinAll_23 : decode cX7_joinAll 23 = .ok (.iconst 0, 1) := by decide +kernel
theorem dX7_joinAll_24 : decode cX7_joinAll 24 = .ok (.istore_n 2, 1) := by decide +kernel
theorem dX7_joinAll_25 : decode cX7_joinAll 25 = .ok (.iload_n 2, 1) := by decide +kernel
theorem dX7_joinAll_26 : decode cX7_joinAll 26 = .ok (.aload_n 0, 1) := by decide +kernel
theorem dX7_joinAll_27 : decode cX7_joinAll 27 = .ok (.invokevirtual 75, 3) := by decide +kernel
theorem dX7_joinAll_30 : decode cX7_joinAll 30 = .ok (.if_icmp .ge 101, 3) := by decide +kernel
theorem dX7_joinAll_33 : decode cX7_joinAll 33 = .ok (.aload_n 0, 1) := by decide +kernel
theorem dX7_joinAll_34 : decode cX7_joinAll 34 = .ok (.getfield 7, 3) := by decide +kernel
theorem dX7_joinAll_37 : decode cX7_joinAll 37 = .ok (.bipush 117, 2) := by decide +kernel
theorem dX7_joinAll_39 : decode cX7_joinAll 39 = .ok (.iload_n 2, 1) := by decide +kernel
theorem dX7_joinAll_40 : decode cX7_joinAll 40 = .ok (.iadd, 1) := by decide +kernel
theorem dX7_joinAll_41 : decode cX7_joinAll 41 = .ok (.iaload, 1) := by decide +kernel
theorem dX7_joinAll_42 : decode cX7_joinAll 42 = .ok (.iconst 4, 1) := by decide +kernel
theorem dX7_joinAll_43 : decode cX7_joinAll 43 = .ok (.if_icmp .ne 82, 3) := by decide +kernel
theorem dX7_joinAll_46 : decode cX7_joinAll 46 = .ok (.iinc 1 1, 3) := by decide +kernel
theorem dX7_joinAll_49 : decode cX7_joinAll 49 = .ok (.aload_n 0, 1) := by decide +kernel
theorem dX7_joinAll_50 : decode cX7_joinAll 50 = .ok (.getfield 47, 3) := by decide +kernel
theorem dX7_joinAll_53 : decode cX7_joinAll 53 = .ok (.aload_n 0, 1) := by decide +kernel
theorem dX7_joinAll_54 : decode cX7_joinAll 54 = .ok (.getfield 7, 3) := by decide +kernel
theorem dX7_joinAll_57 : decode cX7_joinAll 57 = .ok (.bipush 45, 2) := by decide +kernel
theorem dX7_joinAll_59 : decode cX7_joinAll 59 = .ok (.iload_n 2, 1) := by decide +kernel
theorem dX7_joinAll_60 : decode cX7_joinAll 60 = .ok (.iadd, 1) := by decide +kernel
theorem dX7_joinAll_61 : decode cX7_joinAll 61 = .ok (.iaload, 1) := by decide +kernel
theorem dX7_joinAll_62 : decode cX7_joinAll 62 = .ok (.iaload, 1) := by decide +kernel
theorem dX7_joinAll_63 : decode cX7_joinAll 63 = .ok (.istore_n 3, 1) := by decide +kernel
theorem dX7_joinAll_64 : decode cX7_joinAll 64 = .ok (.aload_n 0, 1) := by decide +kernel
theorem dX7_joinAll_65 : decode cX7_joinAll 65 = .ok (.getfield 47, 3) := by decide +kernel
theorem dX7_joinAll_68 : decode cX7_joinAll 68 = .ok (.bipush 10, 2) := by decide +kernel
theorem dX7_joinAll_70 : decode cX7_joinAll 70 = .ok (.aload_n 0, 1) := by decide +kernel
theorem dX7_joinAll_71 : decode cX7_joinAll 71 = .ok (.iload_n 2, 1) := by decide +kernel
theorem dX7_joinAll_72 : decode cX7_joinAll 72 = .ok (.invokevirtual 60, 3) := by decide +kernel
theorem dX7_joinAll_75 : decode cX7_joinAll 75 = .ok (.iadd, 1) := by decide +kernel
theorem dX7_joinAll_76 : decode cX7_joinAll 76 = .ok (.iaload, 1) := by decide +kernel
theorem dX7_joinAll_77 : decode cX7_joinAll 77 = .ok (.istore 4, 2) := by decide +kernel
theorem dX7_joinAll_79 : decode cX7_joinAll 79 = .ok (.iconst 0, 1) := by decide +kernel
theorem dX7_joinAll_80 : decode cX7_joinAll 80 = .ok (.istore 5, 2) := by decide +kernel
theorem dX7_joinAll_82 : decode cX7_joinAll 82 = .ok (.iload 5, 2) := by decide +kernel
theorem dX7_joinAll_84 : decode cX7_joinAll 84 = .ok (.bipush 18, 2) := by decide +kernel
theorem dX7_joinAll_86 : decode cX7_joinAll 86 = .ok (.if_icmp .ge 39, 3) := by decide +kernel
theorem dX7_joinAll_89 : decode cX7_joinAll 89 = .ok (.aload_n 0, 1) := by decide +kernel
theorem dX7_joinAll_90 : decode cX7_joinAll 90 = .ok (.getfield 47, 3) := by decide +kernel
theorem dX7_joinAll_93 : decode cX7_joinAll 93 = .ok (.iload 5, 2) := by decide +kernel
theorem dX7_joinAll_95 : decode cX7_joinAll 95 = .ok (.aload_n 0, 1) := by decide +kernel
theorem dX7_joinAll_96 : decode cX7_joinAll 96 = .ok (.getfield 47, 3) := by decide +kernel
theorem dX7_joinAll_99 : decode cX7_joinAll 99 = .ok (.iload 5, 2) := by decide +kernel
theorem dX7_joinAll_101 : decode cX7_joinAll 101 = .ok (.iaload, 1) := by decide +kernel
theorem dX7_joinAll_102 : decode cX7_joinAll 102 = .ok (.iload 4, 2) := by decide +kernel
theorem dX7_joinAll_104 : decode cX7_joinAll 104 = .ok (.if_icmp .ne 7, 3) := by decide +kernel
theorem dX7_joinAll_107 : decode cX7_joinAll 107 = .ok (.iload_n 3, 1) := by decide +kernel
theorem dX7_joinAll_108 : decode cX7_joinAll 108 = .ok (.goto 10, 3) := by decide +kernel
theorem dX7_joinAll_111 : decode cX7_joinAll 111 = .ok (.aload_n 0, 1) := by decide +kernel
theorem dX7_joinAll_112 : decode cX7_joinAll 112 = .ok (.getfield 47, 3) := by decide +kernel
theorem dX7_joinAll_115 : decode cX7_joinAll 115 = .ok (.iload 5, 2) := by decide +kernel
theorem dX7_joinAll_117 : decode cX7_joinAll 117 = .ok (.iaload, 1) := by decide +kernel
theorem dX7_joinAll_118 : decode cX7_joinAll 118 = .ok (.iastore, 1) := by decide +kernel
theorem dX7_joinAll_119 : decode cX7_joinAll 119 = .ok (.iinc 5 1, 3) := by decide +kernel
theorem dX7_joinAll_122 : decode cX7_joinAll 122 = .ok (.goto (-40), 3) := by decide +kernel
theorem dX7_joinAll_125 : decode cX7_joinAll 125 = .ok (.iinc 2 1, 3) := by decide +kernel
theorem dX7_joinAll_128 : decode cX7_joinAll 128 = .ok (.goto (-103), 3) := by decide +kernel
theorem dX7_joinAll_131 : decode cX7_joinAll 131 = .ok (.iload_n 1, 1) := by decide +kernel
theorem dX7_joinAll_132 : decode cX7_joinAll 132 = .ok (.ireturn, 1) := by decide +kernel
theorem dX7_isVertex_0 : decode cX7_isVertex 0 = .ok (.iload_n 1, 1) := by decide +kernel
theorem dX7_isVertex_1 : decode cX7_isVertex 1 = .ok (.bipush 10, 2) := by decide +kernel
theorem dX7_isVertex_3 : decode cX7_isVertex 3 = .ok (.if_icmp .ge 11, 3) := by decide +kernel
theorem dX7_isVertex_6 : decode cX7_isVertex 6 = .ok (.aload_n 0, 1) := by decide +kernel
theorem dX7_isVertex_7 : decode cX7_isVertex 7 = .ok (.iload_n 1, 1) := by decide +kernel
theorem dX7_isVertex_8 : decode cX7_isVertex 8 = .ok (.invokevirtual 72, 3) := by decide +kernel
theorem dX7_isVertex_11 : decode cX7_isVertex 11 = .ok (.goto 30, 3) := by decide +kernel
theorem dX7_isVertex_14 : decode cX7_isVertex 14 = .ok (.aload_n 0, 1) := by decide +kernel
theorem dX7_isVertex_15 : decode cX7_isVertex 15 = .ok (.iload_n 1, 1) := by decide +kernel
theorem dX7_isVertex_16 : decode cX7_isVertex 16 = .ok (.bipush 10, 2) := by decide +kernel
theorem dX7_isVertex_18 : decode cX7_isVertex 18 = .ok (.isub, 1) := by decide +kernel
theorem dX7_isVertex_19 : decode cX7_isVertex 19 = .ok (.invokevirtual 68, 3) := by decide +kernel
theorem dX7_isVertex_22 : decode cX7_isVertex 22 = .ok (.ifCond .eq 18, 3) := by decide +kernel
theorem dX7_isVertex_25 : decode cX7_isVertex 25 = .ok (.aload_n 0, 1) := by decide +kernel
theorem dX7_isVertex_26 : decode cX7_isVertex 26 = .ok (.iload_n 1, 1) := by decide +kernel
theorem dX7_isVertex_27 : decode cX7_isVertex 27 = .ok (.bipush 10, 2) := by decide +kernel
theorem dX7_isVertex_29 : decode cX7_isVertex 29 = .ok (.isub, 1) := by decide +kernel
theorem dX7_isVertex_30 : decode cX7_isVertex 30 = .ok (.invokevirtual 145, 3) := by decide +kernel
theorem dX7_isVertex_33 : decode cX7_isVertex 33 = .ok (.ifCond .eq 7, 3) := by decide +kernel
theorem dX7_isVertex_36 : decode cX7_isVertex 36 = .ok (.iconst 1, 1) := by decide +kernel
theorem dX7_isVertex_37 : decode cX7_isVertex 37 = .ok (.goto 4, 3) := by decide +kernel
theorem dX7_isVertex_40 : decode cX7_isVertex 40 = .ok (.iconst 0, 1) := by decide +kernel
theorem dX7_isVertex_41 : decode cX7_isVertex 41 = .ok (.ireturn, 1) := by decide +kernel
theorem dX7_vertices_0 : decode cX7_vertices 0 = .ok (.iconst 0, 1) := by decide +kernel
theorem dX7_vertices_1 : decode cX7_vertices 1 = .ok (.istore_n 1, 1) := by decide +kernel
theorem dX7_vertices_2 : decode cX7_vertices 2 = .ok (.iconst 0, 1) := by decide +kernel
theorem dX7_vertices_3 : decode cX7_vertices 3 = .ok (.istore_n 2, 1) := by decide +kernel
theorem dX7_vertices_4 : decode cX7_vertices 4 = .ok (.iload_n 2, 1) := by decide +kernel
theorem dX7_vertices_5 : decode cX7_vertices 5 = .ok (.bipush 18, 2) := by decide +kernel
theorem dX7_vertices_7 : decode cX7_vertices 7 = .ok (.if_icmp .ge 25, 3) := by decide +kernel
theorem dX7_vertices_10 : decode cX7_vertices 10 = .ok (.iload_n 1, 1) := by decide +kernel
theorem dX7_vertices_11 : decode cX7_vertices 11 = .ok (.aload_n 0, 1) := by decide +kernel
theorem dX7_vertices_12 : decode cX7_vertices 12 = .ok (.iload_n 2, 1) := by decide +kernel
theorem dX7_vertices_13 : decode cX7_vertices 13 = .ok (.invokevirtual 148, 3) := by decide +kernel
theorem dX7_vertices_16 : decode cX7_vertices 16 = .ok (.ifCond .eq 7, 3) := by decide +kernel
theorem dX7_vertices_19 : decode cX7_vertices 19 = .ok (.iconst 1, 1) := by decide +kernel
theorem dX7_vertices_20 : decode cX7_vertices 20 = .ok (.goto 4, 3) := by decide +kernel
theorem dX7_vertices_23 : decode cX7_vertices 23 = .ok (.iconst 0, 1) := by decide +kernel
theorem dX7_vertices_24 : decode cX7_vertices 24 = .ok (.iadd, 1) := by decide +kernel
theorem dX7_vertices_25 : decode cX7_vertices 25 = .ok (.istore_n 1, 1) := by decide +kernel
theorem dX7_vertices_26 : decode cX7_vertices 26 = .ok (.iinc 2 1, 3) := by decide +kernel
theorem dX7_vertices_29 : decode cX7_vertices 29 = .ok (.goto (-25), 3) := by decide +kernel
theorem dX7_vertices_32 : decode cX7_vertices 32 = .ok (.iload_n 1, 1) := by decide +kernel
theorem dX7_vertices_33 : decode cX7_vertices 33 = .ok (.ireturn, 1) := by decide +kernel
theorem dX7_partsNow_0 : decode cX7_partsNow 0 = .ok (.iconst 0, 1) := by decide +kernel
theorem dX7_partsNow_1 : decode cX7_partsNow 1 = .ok (.istore_n 1, 1) := by decide +kernel
theorem dX7_partsNow_2 : decode cX7_partsNow 2 = .ok (.iconst 0, 1) := by decide +kernel
theorem dX7_partsNow_3 : decode cX7_partsNow 3 = .ok (.istore_n 2, 1) := by decide +kernel
theorem dX7_partsNow_4 : decode cX7_partsNow 4 = .ok (.iload_n 2, 1) := by decide +kernel
theorem dX7_partsNow_5 : decode cX7_partsNow 5 = .ok (.bipush 18, 2) := by decide +kernel
theorem dX7_partsNow_7 : decode cX7_partsNow 7 = .ok (.if_icmp .ge 77, 3) := by decide +kernel
theorem dX7_partsNow_10 : decode cX7_partsNow 10 = .ok (.aload_n 0, 1) := by decide +kernel
theorem dX7_partsNow_11 : decode cX7_partsNow 11 = .ok (.iload_n 2, 1) := by decide +kernel
theorem dX7_partsNow_12 : decode cX7_partsNow 12 = .ok (.invokevirtual 148, 3) := by decide +kernel
theorem dX7_partsNow_15 : decode cX7_partsNow 15 = .ok (.istore_n 3, 1) := by decide +kernel
theorem dX7_partsNow_16 : decode cX7_partsNow 16 = .ok (.iconst 0, 1) := by decide +kernel
theorem dX7_partsNow_17 : decode cX7_partsNow 17 = .ok (.istore 4, 2) := by decide +kernel
theorem dX7_partsNow_19 : decode cX7_partsNow 19 = .ok (.iload 4, 2) := by decide +kernel
theorem dX7_partsNow_21 : decode cX7_partsNow 21 = .ok (.iload_n 2, 1) := by decide +kernel
theorem dX7_partsNow_22 : decode cX7_partsNow 22 = .ok (.if_icmp .ge 44, 3) := by decide +kernel
theorem dX7_partsNow_25 : decode cX7_partsNow 25 = .ok (.iload_n 3, 1) := by decide +kernel
theorem dX7_partsNow_26 : decode cX7_partsNow 26 = .ok (.ifCond .eq 32, 3) := by decide +kernel
theorem dX7_partsNow_29 : decode cX7_partsNow 29 = .ok (.aload_n 0, 1) := by decide +kernel
theorem dX7_partsNow_30 : decode cX7_partsNow 30 = .ok (.iload 4, 2) := by decide +kernel
theorem dX7_partsNow_32 : decode cX7_partsNow 32 = .ok (.invokevirtual 148, 3) := by decide +kernel
theorem dX7_partsNow_35 : decode cX7_partsNow 35 = .ok (.ifCond .eq 19, 3) := by decide +kernel
theorem dX7_partsNow_38 : decode cX7_partsNow 38 = .ok (.aload_n 0, 1) := by decide +kernel
theorem dX7_partsNow_39 : decode cX7_partsNow 39 = .ok (.getfield 47, 3) := by decide +kernel
theorem dX7_partsNow_42 : decode cX7_partsNow 42 = .ok (.iload 4, 2) := by decide +kernel
theorem dX7_partsNow_44 : decode cX7_partsNow 44 = .ok (.iaload, 1) := by decide +kernel
theorem dX7_partsNow_45 : decode cX7_partsNow 45 = .ok (.aload_n 0, 1) := by decide +kernel
theorem dX7_partsNow_46 : decode cX7_partsNow 46 = .ok (.getfield 47, 3) := by decide +kernel
theorem dX7_partsNow_49 : decode cX7_partsNow 49 = .ok (.iload_n 2, 1) := by decide +kernel
theorem dX7_partsNow_50 : decode cX7_partsNow 50 = .ok (.iaload, 1) := by decide +kernel
theorem dX7_partsNow_51 : decode cX7_partsNow 51 = .ok (.if_icmp .eq 7, 3) := by decide +kernel
theorem dX7_partsNow_54 : decode cX7_partsNow 54 = .ok (.iconst 1, 1) := by decide +kernel
theorem dX7_partsNow_55 : decode cX7_partsNow 55 = .ok (.goto 4, 3) := by decide +kernel
theorem dX7_partsNow_58 : decode cX7_partsNow 58 = .ok (.iconst 0, 1) := by decide +kernel
theorem dX7_partsNow_59 : decode cX7_partsNow 59 = .ok (.istore_n 3, 1) := by decide +kernel
theorem dX7_partsNow_60 : decode cX7_partsNow 60 = .ok (.iinc 4 1, 3) := by decide +kernel
theorem dX7_partsNow_63 : decode cX7_partsNow 63 = .ok (.goto (-44), 3) := by decide +kernel
theorem dX7_partsNow_66 : decode cX7_partsNow 66 = .ok (.iload_n 1, 1) := by decide +kernel
theorem dX7_partsNow_67 : decode cX7_partsNow 67 = .ok (.iload_n 3, 1) := by decide +kernel
theorem dX7_partsNow_68 : decode cX7_partsNow 68 = .ok (.ifCond .eq 7, 3) := by decide +kernel
theorem dX7_partsNow_71 : decode cX7_partsNow 71 = .ok (.iconst 1, 1) := by decide +kernel
theorem dX7_partsNow_72 : decode cX7_partsNow 72 = .ok (.goto 4, 3) := by decide +kernel
theorem dX7_partsNow_75 : decode cX7_partsNow 75 = .ok (.iconst 0, 1) := by decide +kernel
theorem dX7_partsNow_76 : decode cX7_partsNow 76 = .ok (.iadd, 1) := by decide +kernel
theorem dX7_partsNow_77 : decode cX7_partsNow 77 = .ok (.istore_n 1, 1) := by decide +kernel
theorem dX7_partsNow_78 : decode cX7_partsNow 78 = .ok (.iinc 2 1, 3) := by decide +kernel
theorem dX7_partsNow_81 : decode cX7_partsNow 81 = .ok (.goto (-77), 3) := by decide +kernel
theorem dX7_partsNow_84 : decode cX7_partsNow 84 = .ok (.iload_n 1, 1) := by decide +kernel
theorem dX7_partsNow_85 : decode cX7_partsNow 85 = .ok (.ireturn, 1) := by decide +kernel
theorem dX7_parts_0 : decode cX7_parts 0 = .ok (.aload_n 0, 1) := by decide +kernel
theorem dX7_parts_1 : decode cX7_parts 1 = .ok (.invokevirtual 151, 3) := by decide +kernel
theorem dX7_parts_4 : decode cX7_parts 4 = .ok (.istore_n 1, 1) := by decide +kernel
theorem dX7_parts_5 : decode cX7_parts 5 = .ok (.aload_n 0, 1) := by decide +kernel
theorem dX7_parts_6 : decode cX7_parts 6 = .ok (.invokevirtual 154, 3) := by decide +kernel
theorem dX7_parts_9 : decode cX7_parts 9 = .ok (.ireturn, 1) := by decide +kernel
theorem dX7_loops_0 : decode cX7_loops 0 = .ok (.aload_n 0, 1) := by decide +kernel
theorem dX7_loops_1 : decode cX7_loops 1 = .ok (.invokevirtual 151, 3) := by decide +kernel
theorem dX7_loops_4 : decode cX7_loops 4 = .ok (.istore_n 1, 1) := by decide +kernel
theorem dX7_loops_5 : decode cX7_loops 5 = .ok (.iload_n 1, 1) := by decide +kernel
theorem dX7_loops_6 : decode cX7_loops 6 = .ok (.aload_n 0, 1) := by decide +kernel
theorem dX7_loops_7 : decode cX7_loops 7 = .ok (.invokevirtual 157, 3) := by decide +kernel
theorem dX7_loops_10 : decode cX7_loops 10 = .ok (.isub, 1) := by decide +kernel
theorem dX7_loops_11 : decode cX7_loops 11 = .ok (.aload_n 0, 1) := by decide +kernel
theorem dX7_loops_12 : decode cX7_loops 12 = .ok (.invokevirtual 154, 3) := by decide +kernel
theorem dX7_loops_15 : decode cX7_loops 15 = .ok (.iadd, 1) := by decide +kernel
theorem dX7_loops_16 : decode cX7_loops 16 = .ok (.ireturn, 1) := by decide +kernel
theorem dX7_transmit_0 : decode cX7_transmit 0 = .ok (.aload_n 0, 1) := by decide +kernel
theorem dX7_transmit_1 : decode cX7_transmit 1 = .ok (.getfield 160, 3) := by decide +kernel
theorem dX7_transmit_4 : decode cX7_transmit 4 = .ok (.bipush 64, 2) := by decide +kernel
theorem dX7_transmit_6 : decode cX7_transmit 6 = .ok (.if_icmp .ge 47, 3) := by decide +kernel
theorem dX7_transmit_9 : decode cX7_transmit 9 = .ok (.aload_n 0, 1) := by decide +kernel
theorem dX7_transmit_10 : decode cX7_transmit 10 = .ok (.getfield 50, 3) := by decide +kernel
theorem dX7_transmit_13 : decode cX7_transmit 13 = .ok (.aload_n 0, 1) := by decide +kernel
theorem dX7_transmit_14 : decode cX7_transmit 14 = .ok (.getfield 160, 3) := by decide +kernel
theorem dX7_transmit_17 : decode cX7_transmit 17 = .ok (.iload_n 1, 1) := by decide +kernel
theorem dX7_transmit_18 : decode cX7_transmit 18 = .ok (.iastore, 1) := by decide +kernel
theorem dX7_transmit_19 : decode cX7_transmit 19 = .ok (.aload_n 0, 1) := by decide +kernel
theorem dX7_transmit_20 : decode cX7_transmit 20 = .ok (.getfield 53, 3) := by decide +kernel
theorem dX7_transmit_23 : decode cX7_transmit 23 = .ok (.aload_n 0, 1) := by decide +kernel
theorem dX7_transmit_24 : decode cX7_transmit 24 = .ok (.getfield 160, 3) := by decide +kernel
theorem dX7_transmit_27 : decode cX7_transmit 27 = .ok (.iload_n 2, 1) := by decide +kernel
theorem dX7_transmit_28 : decode cX7_transmit 28 = .ok (.iastore, 1) := by decide +kernel
theorem dX7_transmit_29 : decode cX7_transmit 29 = .ok (.aload_n 0, 1) := by decide +kernel
theorem dX7_transmit_30 : decode cX7_transmit 30 = .ok (.dup, 1) := by decide +kernel
theorem dX7_transmit_31 : decode cX7_transmit 31 = .ok (.getfield 160, 3) := by decide +kernel
theorem dX7_transmit_34 : decode cX7_transmit 34 = .ok (.iconst 1, 1) := by decide +kernel
theorem dX7_transmit_35 : decode cX7_transmit 35 = .ok (.iadd, 1) := by decide +kernel
theorem dX7_transmit_36 : decode cX7_transmit 36 = .ok (.putfield 160, 3) := by decide +kernel
theorem dX7_transmit_39 : decode cX7_transmit 39 = .ok (.aload_n 0, 1) := by decide +kernel
theorem dX7_transmit_40 : decode cX7_transmit 40 = .ok (.getfield 7, 3) := by decide +kernel
theorem dX7_transmit_43 : decode cX7_transmit 43 = .ok (.sipush 421, 3) := by decide +kernel
theorem dX7_transmit_46 : decode cX7_transmit 46 = .ok (.iload_n 1, 1) := by decide +kernel
theorem dX7_transmit_47 : decode cX7_transmit 47 = .ok (.iadd, 1) := by decide +kernel
theorem dX7_transmit_48 : decode cX7_transmit 48 = .ok (.dup2, 1) := by decide +kernel
theorem dX7_transmit_49 : decode cX7_transmit 49 = .ok (.iaload, 1) := by decide +kernel
theorem dX7_transmit_50 : decode cX7_transmit 50 = .ok (.iconst 1, 1) := by decide +kernel
theorem dX7_transmit_51 : decode cX7_transmit 51 = .ok (.iadd, 1) := by decide +kernel
theorem dX7_transmit_52 : decode cX7_transmit 52 = .ok (.iastore, 1) := by decide +kernel
theorem dX7_transmit_53 : decode cX7_transmit 53 = .ok (.return_, 1) := by decide +kernel
theorem dX7_cell_0 : decode cX7_cell 0 = .ok (.bipush 8, 2) := by decide +kernel
theorem dX7_cell_2 : decode cX7_cell 2 = .ok (.iload_n 0, 1) := by decide +kernel
theorem dX7_cell_3 : decode cX7_cell 3 = .ok (.imul, 1) := by decide +kernel
theorem dX7_cell_4 : decode cX7_cell 4 = .ok (.iload_n 1, 1) := by decide +kernel
theorem dX7_cell_5 : decode cX7_cell 5 = .ok (.iadd, 1) := by decide +kernel
theorem dX7_cell_6 : decode cX7_cell 6 = .ok (.ireturn, 1) := by decide +kernel
theorem dX7_receive_0 : decode cX7_receive 0 = .ok (.aload_n 0, 1) := by decide +kernel
theorem dX7_receive_1 : decode cX7_receive 1 = .ok (.iload_n 1, 1) := by decide +kernel
theorem dX7_receive_2 : decode cX7_receive 2 = .ok (.invokevirtual 60, 3) := by decide +kernel
theorem dX7_receive_5 : decode cX7_receive 5 = .ok (.istore 4, 2) := by decide +kernel
theorem dX7_receive_7 : decode cX7_receive 7 = .ok (.aload_n 0, 1) := by decide +kernel
theorem dX7_receive_8 : decode cX7_receive 8 = .ok (.getfield 7, 3) := by decide +kernel
theorem dX7_receive_11 : decode cX7_receive 11 = .ok (.bipush 117, 2) := by decide +kernel
theorem dX7_receive_13 : decode cX7_receive 13 = .ok (.iload_n 1, 1) := by decide +kernel
theorem dX7_receive_14 : decode cX7_receive 14 = .ok (.iadd, 1) := by decide +kernel
theorem dX7_receive_15 : decode cX7_receive 15 = .ok (.iaload, 1) := by decide +kernel
theorem dX7_receive_16 : decode cX7_receive 16 = .ok (.istore 5, 2) := by decide +kernel
theorem dX7_receive_18 : decode cX7_receive 18 = .ok (.iload 5, 2) := by decide +kernel
theorem dX7_receive_20 : decode cX7_receive 20 = .ok (.iconst 3, 1) := by decide +kernel
theorem dX7_receive_21 : decode cX7_receive 21 = .ok (.if_icmp .eq 9, 3) := by decide +kernel
theorem dX7_receive_24 : decode cX7_receive 24 = .ok (.iload 5, 2) := by decide +kernel
theorem dX7_receive_26 : decode cX7_receive 26 = .ok (.iconst 4, 1) := by decide +kernel
theorem dX7_receive_27 : decode cX7_receive 27 = .ok (.if_icmp .ne 36, 3) := by decide +kernel
theorem dX7_receive_30 : decode cX7_receive 30 = .ok (.aload_n 0, 1) := by decide +kernel
theorem dX7_receive_31 : decode cX7_receive 31 = .ok (.getfield 7, 3) := by decide +kernel
theorem dX7_receive_34 : decode cX7_receive 34 = .ok (.sipush 293, 3) := by decide +kernel
theorem dX7_receive_37 : decode cX7_receive 37 = .ok (.iload 4, 2) := by decide +kernel
theorem dX7_receive_39 : decode cX7_receive 39 = .ok (.iload_n 2, 1) := by decide +kernel
theorem dX7_receive_40 : decode cX7_receive 40 = .ok (.invokestatic 164, 3) := by decide +kernel
theorem dX7_receive_43 : decode cX7_receive 43 = .ok (.iadd, 1) := by decide +kernel
theorem dX7_receive_44 : decode cX7_receive 44 = .ok (.iload_n 1, 1) := by decide +kernel
theorem dX7_receive_45 : decode cX7_receive 45 = .ok (.iastore, 1) := by decide +kernel
theorem dX7_receive_46 : decode cX7_receive 46 = .ok (.aload_n 0, 1) := by decide +kernel
theorem dX7_receive_47 : decode cX7_receive 47 = .ok (.getfield 7, 3) := by decide +kernel
theorem dX7_receive_50 : decode cX7_receive 50 = .ok (.sipush 357, 3) := by decide +kernel
theorem dX7_receive_53 : decode cX7_receive 53 = .ok (.iload 4, 2) := by decide +kernel
theorem dX7_receive_55 : decode cX7_receive 55 = .ok (.iload_n 2, 1) := by decide +kernel
theorem dX7_receive_56 : decode cX7_receive 56 = .ok (.invokestatic 164, 3) := by decide +kernel
theorem dX7_receive_59 : decode cX7_receive 59 = .ok (.iadd, 1) := by decide +kernel
theorem dX7_receive_60 : decode cX7_receive 60 = .ok (.bipush 10, 2) := by decide +kernel
theorem dX7_receive_62 : decode cX7_receive 62 = .ok (.iastore, 1) := by decide +kernel
theorem dX7_receive_63 : decode cX7_receive 63 = .ok (.iload 5, 2) := by decide +kernel
theorem dX7_receive_65 : decode cX7_receive 65 = .ok (.iconst 4, 1) := by decide +kernel
theorem dX7_receive_66 : decode cX7_receive 66 = .ok (.if_icmp .eq 4, 3) := by decide +kernel
theorem dX7_receive_69 : decode cX7_receive 69 = .ok (.return_, 1) := by decide +kernel
theorem dX7_receive_70 : decode cX7_receive 70 = .ok (.iload_n 3, 1) := by decide +kernel
theorem dX7_receive_71 : decode cX7_receive 71 = .ok (.ifCond .lt 25, 3) := by decide +kernel
theorem dX7_receive_74 : decode cX7_receive 74 = .ok (.aload_n 0, 1) := by decide +kernel
theorem dX7_receive_75 : decode cX7_receive 75 = .ok (.getfield 7, 3) := by decide +kernel
theorem dX7_receive_78 : decode cX7_receive 78 = .ok (.sipush 357, 3) := by decide +kernel
theorem dX7_receive_81 : decode cX7_receive 81 = .ok (.iload 4, 2) := by decide +kernel
theorem dX7_receive_83 : decode cX7_receive 83 = .ok (.iload_n 3, 1) := by decide +kernel
theorem dX7_receive_84 : decode cX7_receive 84 = .ok (.invokestatic 164, 3) := by decide +kernel
theorem dX7_receive_87 : decode cX7_receive 87 = .ok (.iadd, 1) := by decide +kernel
theorem dX7_receive_88 : decode cX7_receive 88 = .ok (.iaload, 1) := by decide +kernel
theorem dX7_receive_89 : decode cX7_receive 89 = .ok (.ifCond .le 7, 3) := by decide +kernel
theorem dX7_receive_92 : decode cX7_receive 92 = .ok (.iconst 1, 1) := by decide +kernel
theorem dX7_receive_93 : decode cX7_receive 93 = .ok (.goto 4, 3) := by decide +kernel
theorem dX7_receive_96 : decode cX7_receive 96 = .ok (.iconst 0, 1) := by decide +kernel
theorem dX7_receive_97 : decode cX7_receive 97 = .ok (.istore 6, 2) := by decide +kernel
theorem dX7_receive_99 : decode cX7_receive 99 = .ok (.iload 6, 2) := by decide +kernel
theorem dX7_receive_101 : decode cX7_receive 101 = .ok (.ifCond .eq 21, 3) := by decide +kernel
theorem dX7_receive_104 : decode cX7_receive 104 = .ok (.aload_n 0, 1) := by decide +kernel
theorem dX7_receive_105 : decode cX7_receive 105 = .ok (.getfield 7, 3) := by decide +kernel
theorem dX7_receive_108 : decode cX7_receive 108 = .ok (.sipush 293, 3) := by decide +kernel
theorem dX7_receive_111 : decode cX7_receive 111 = .ok (.iload 4, 2) := by decide +kernel
theorem dX7_receive_113 : decode cX7_receive 113 = .ok (.iload_n 3, 1) := by decide +kernel
theorem dX7_receive_114 : decode cX7_receive 114 = .ok (.invokestatic 164, 3) := by decide +kernel
theorem dX7_receive_117 : decode cX7_receive 117 = .ok (.iadd, 1) := by decide +kernel
theorem dX7_receive_118 : decode cX7_receive 118 = .ok (.iaload, 1) := by decide +kernel
theorem dX7_receive_119 : decode cX7_receive 119 = .ok (.goto 5, 3) := by decide +kernel
theorem dX7_receive_122 : decode cX7_receive 122 = .ok (.bipush (-9), 2) := by decide +kernel
theorem dX7_receive_124 : decode cX7_receive 124 = .ok (.istore 7, 2) := by decide +kernel
theorem dX7_receive_126 : decode cX7_receive 126 = .ok (.iload 6, 2) := by decide +kernel
theorem dX7_receive_128 : decode cX7_receive 128 = .ok (.ifCond .eq 40, 3) := by decide +kernel
theorem dX7_receive_131 : decode cX7_receive 131 = .ok (.aload_n 0, 1) := by decide +kernel
theorem dX7_receive_132 : decode cX7_receive 132 = .ok (.getfield 7, 3) := by decide +kernel
theorem dX7_receive_135 : decode cX7_receive 135 = .ok (.bipush 117, 2) := by decide +kernel
theorem dX7_receive_137 : decode cX7_receive 137 = .ok (.iload 7, 2) := by decide +kernel
theorem dX7_receive_139 : decode cX7_receive 139 = .ok (.iadd, 1) := by decide +kernel
theorem dX7_receive_140 : decode cX7_receive 140 = .ok (.iaload, 1) := by decide +kernel
theorem dX7_receive_141 : decode cX7_receive 141 = .ok (.iconst 4, 1) := by decide +kernel
theorem dX7_receive_142 : decode cX7_receive 142 = .ok (.if_icmp .ne 26, 3) := by decide +kernel
theorem dX7_receive_145 : decode cX7_receive 145 = .ok (.iload 7, 2) := by decide +kernel
theorem dX7_receive_147 : decode cX7_receive 147 = .ok (.iload_n 1, 1) := by decide +kernel
theorem dX7_receive_148 : decode cX7_receive 148 = .ok (.if_icmp .eq 19, 3) := by decide +kernel
theorem dX7_receive_151 : decode cX7_receive 151 = .ok (.aload_n 0, 1) := by decide +kernel
theorem dX7_receive_152 : decode cX7_receive 152 = .ok (.aload_n 0, 1) := by decide +kernel
theorem dX7_receive_153 : decode cX7_receive 153 = .ok (.getfield 7, 3) := by decide +kernel
theorem dX7_receive_156 : decode cX7_receive 156 = .ok (.bipush 45, 2) := by decide +kernel
theorem dX7_receive_158 : decode cX7_receive 158 = .ok (.iload 7, 2) := by decide +kernel
theorem dX7_receive_160 : decode cX7_receive 160 = .ok (.iadd, 1) := by decide +kernel
theorem dX7_receive_161 : decode cX7_receive 161 = .ok (.iaload, 1) := by decide +kernel
theorem dX7_receive_162 : decode cX7_receive 162 = .ok (.iload 7, 2) := by decide +kernel
theorem dX7_receive_164 : decode cX7_receive 164 = .ok (.invokevirtual 167, 3) := by decide +kernel
theorem dX7_receive_167 : decode cX7_receive 167 = .ok (.return_, 1) := by decide +kernel
theorem dX7_receive_168 : decode cX7_receive 168 = .ok (.iconst 0, 1) := by decide +kernel
theorem dX7_receive_169 : decode cX7_receive 169 = .ok (.istore 8, 2) := by decide +kernel
theorem dX7_receive_171 : decode cX7_receive 171 = .ok (.iload 8, 2) := by decide +kernel
theorem dX7_receive_173 : decode cX7_receive 173 = .ok (.aload_n 0, 1) := by decide +kernel
theorem dX7_receive_174 : decode cX7_receive 174 = .ok (.invokevirtual 75, 3) := by decide +kernel
theorem dX7_receive_177 : decode cX7_receive 177 = .ok (.if_icmp .ge 56, 3) := by decide +kernel
theorem dX7_receive_180 : decode cX7_receive 180 = .ok (.iload 8, 2) := by decide +kernel
theorem dX7_receive_182 : decode cX7_receive 182 = .ok (.iload_n 1, 1) := by decide +kernel
theorem dX7_receive_183 : decode cX7_receive 183 = .ok (.if_icmp .eq 44, 3) := by decide +kernel
theorem dX7_receive_186 : decode cX7_receive 186 = .ok (.aload_n 0, 1) := by decide +kernel
theorem dX7_receive_187 : decode cX7_receive 187 = .ok (.iload 8, 2) := by decide +kernel
theorem dX7_receive_189 : decode cX7_receive 189 = .ok (.invokevirtual 60, 3) := by decide +kernel
theorem dX7_receive_192 : decode cX7_receive 192 = .ok (.iload 4, 2) := by decide +kernel
theorem dX7_receive_194 : decode cX7_receive 194 = .ok (.if_icmp .ne 33, 3) := by decide +kernel
theorem dX7_receive_197 : decode cX7_receive 197 = .ok (.aload_n 0, 1) := by decide +kernel
theorem dX7_receive_198 : decode cX7_receive 198 = .ok (.getfield 7, 3) := by decide +kernel
theorem dX7_receive_201 : decode cX7_receive 201 = .ok (.bipush 117, 2) := by decide +kernel
theorem dX7_receive_203 : decode cX7_receive 203 = .ok (.iload 8, 2) := by decide +kernel
theorem dX7_receive_205 : decode cX7_receive 205 = .ok (.iadd, 1) := by decide +kernel
theorem dX7_receive_206 : decode cX7_receive 206 = .ok (.iaload, 1) := by decide +kernel
theorem dX7_receive_207 : decode cX7_receive 207 = .ok (.iconst 4, 1) := by decide +kernel
theorem dX7_receive_208 : decode cX7_receive 208 = .ok (.if_icmp .ne 19, 3) := by decide +kernel
theorem dX7_receive_211 : decode cX7_receive 211 = .ok (.aload_n 0, 1) := by decide +kernel
theorem dX7_receive_212 : decode cX7_receive 212 = .ok (.aload_n 0, 1) := by decide +kernel
theorem dX7_receive_213 : decode cX7_receive 213 = .ok (.getfield 7, 3) := by decide +kernel
theorem dX7_receive_216 : decode cX7_receive 216 = .ok (.bipush 45, 2) := by decide +kernel
theorem dX7_receive_218 : decode cX7_receive 218 = .ok (.iload 8, 2) := by decide +kernel
theorem dX7_receive_220 : decode cX7_receive 220 = .ok (.iadd, 1) := by decide +kernel
theorem dX7_receive_221 : decode cX7_receive 221 = .ok (.iaload, 1) := by decide +kernel
theorem dX7_receive_222 : decode cX7_receive 222 = .ok (.iload 8, 2) := by decide +kernel
theorem dX7_receive_224 : decode cX7_receive 224 = .ok (.invokevirtual 167, 3) := by decide +kernel
theorem dX7_receive_227 : decode cX7_receive 227 = .ok (.iinc 8 1, 3) := by decide +kernel
theorem dX7_receive_230 : decode cX7_receive 230 = .ok (.goto (-59), 3) := by decide +kernel
theorem dX7_receive_233 : decode cX7_receive 233 = .ok (.return_, 1) := by decide +kernel
theorem dX7_send_0 : decode cX7_send 0 = .ok (.aload_n 0, 1) := by decide +kernel
theorem dX7_send_1 : decode cX7_send 1 = .ok (.iload_n 1, 1) := by decide +kernel
theorem dX7_send_2 : decode cX7_send 2 = .ok (.invokevirtual 96, 3) := by decide +kernel
theorem dX7_send_5 : decode cX7_send 5 = .ok (.ifCond .eq 16, 3) := by decide +kernel
theorem dX7_send_8 : decode cX7_send 8 = .ok (.iload_n 2, 1) := by decide +kernel
theorem dX7_send_9 : decode cX7_send 9 = .ok (.iconst (-1), 1) := by decide +kernel
theorem dX7_send_10 : decode cX7_send 10 = .ok (.if_icmp .eq 14, 3) := by decide +kernel
theorem dX7_send_13 : decode cX7_send 13 = .ok (.aload_n 0, 1) := by decide +kernel
theorem dX7_send_14 : decode cX7_send 14 = .ok (.iload_n 2, 1) := by decide +kernel
theorem dX7_send_15 : decode cX7_send 15 = .ok (.invokevirtual 96, 3) := by decide +kernel
theorem dX7_send_18 : decode cX7_send 18 = .ok (.ifCond .ne 6, 3) := by decide +kernel
theorem dX7_send_21 : decode cX7_send 21 = .ok (.bipush (-4), 2) := by decide +kernel
theorem dX7_send_23 : decode cX7_send 23 = .ok (.ireturn, 1) := by decide +kernel
theorem dX7_send_24 : decode cX7_send 24 = .ok (.iconst 0, 1) := by decide +kernel
theorem dX7_send_25 : decode cX7_send 25 = .ok (.istore_n 3, 1) := by decide +kernel
theorem dX7_send_26 : decode cX7_send 26 = .ok (.iload_n 3, 1) := by decide +kernel
theorem dX7_send_27 : decode cX7_send 27 = .ok (.bipush 10, 2) := by decide +kernel
theorem dX7_send_29 : decode cX7_send 29 = .ok (.if_icmp .ge 20, 3) := by decide +kernel
theorem dX7_send_32 : decode cX7_send 32 = .ok (.aload_n 0, 1) := by decide +kernel
theorem dX7_send_33 : decode cX7_send 33 = .ok (.getfield 7, 3) := by decide +kernel
theorem dX7_send_36 : decode cX7_send 36 = .ok (.sipush 421, 3) := by decide +kernel
theorem dX7_send_39 : decode cX7_send 39 = .ok (.iload_n 3, 1) := by decide +kernel
theorem dX7_send_40 : decode cX7_send 40 = .ok (.iadd, 1) := by decide +kernel
theorem dX7_send_41 : decode cX7_send 41 = .ok (.iconst 0, 1) := by decide +kernel
theorem dX7_send_42 : decode cX7_send 42 = .ok (.iastore, 1) := by decide +kernel
theorem dX7_send_43 : decode cX7_send 43 = .ok (.iinc 3 1, 3) := by decide +kernel
theorem dX7_send_46 : decode cX7_send 46 = .ok (.goto (-20), 3) := by decide +kernel
theorem dX7_send_49 : decode cX7_send 49 = .ok (.aload_n 0, 1) := by decide +kernel
theorem dX7_send_50 : decode cX7_send 50 = .ok (.iconst 0, 1) := by decide +kernel
theorem dX7_send_51 : decode cX7_send 51 = .ok (.putfield 160, 3) := by decide +kernel
theorem dX7_send_54 : decode cX7_send 54 = .ok (.aload_n 0, 1) := by decide +kernel
theorem dX7_send_55 : decode cX7_send 55 = .ok (.aload_n 0, 1) := by decide +kernel
theorem dX7_send_56 : decode cX7_send 56 = .ok (.getfield 7, 3) := by decide +kernel
theorem dX7_send_59 : decode cX7_send 59 = .ok (.sipush 285, 3) := by decide +kernel
theorem dX7_send_62 : decode cX7_send 62 = .ok (.iload_n 1, 1) := by decide +kernel
theorem dX7_send_63 : decode cX7_send 63 = .ok (.iadd, 1) := by decide +kernel
theorem dX7_send_64 : decode cX7_send 64 = .ok (.iaload, 1) := by decide +kernel
theorem dX7_send_65 : decode cX7_send 65 = .ok (.bipush (-9), 2) := by decide +kernel
theorem dX7_send_67 : decode cX7_send 67 = .ok (.invokevirtual 167, 3) := by decide +kernel
theorem dX7_send_70 : decode cX7_send 70 = .ok (.iconst 0, 1) := by decide +kernel
theorem dX7_send_71 : decode cX7_send 71 = .ok (.istore_n 3, 1) := by decide +kernel
theorem dX7_send_72 : decode cX7_send 72 = .ok (.iload_n 3, 1) := by decide +kernel
theorem dX7_send_73 : decode cX7_send 73 = .ok (.aload_n 0, 1) := by decide +kernel
theorem dX7_send_74 : decode cX7_send 74 = .ok (.getfield 160, 3) := by decide +kernel
theorem dX7_send_77 : decode cX7_send 77 = .ok (.if_icmp .ge 74, 3) := by decide +kernel
theorem dX7_send_80 : decode cX7_send 80 = .ok (.iconst 0, 1) := by decide +kernel
theorem dX7_send_81 : decode cX7_send 81 = .ok (.istore 4, 2) := by decide +kernel
theorem dX7_send_83 : decode cX7_send 83 = .ok (.iload 4, 2) := by decide +kernel
theorem dX7_send_85 : decode cX7_send 85 = .ok (.aload_n 0, 1) := by decide +kernel
theorem dX7_send_86 : decode cX7_send 86 = .ok (.invokevirtual 75, 3) := by decide +kernel
theorem dX7_send_89 : decode cX7_send 89 = .ok (.if_icmp .ge 56, 3) := by decide +kernel
theorem dX7_send_92 : decode cX7_send 92 = .ok (.iload 4, 2) := by decide +kernel
theorem dX7_send_94 : decode cX7_send 94 = .ok (.aload_n 0, 1) := by decide +kernel
theorem dX7_send_95 : decode cX7_send 95 = .ok (.getfield 53, 3) := by decide +kernel
theorem dX7_send_98 : decode cX7_send 98 = .ok (.iload_n 3, 1) := by decide +kernel
theorem dX7_send_99 : decode cX7_send 99 = .ok (.iaload, 1) := by decide +kernel
theorem dX7_send_100 : decode cX7_send 100 = .ok (.if_icmp .eq 39, 3) := by decide +kernel
theorem dX7_send_103 : decode cX7_send 103 = .ok (.aload_n 0, 1) := by decide +kernel
theorem dX7_send_104 : decode cX7_send 104 = .ok (.getfield 7, 3) := by decide +kernel
theorem dX7_send_107 : decode cX7_send 107 = .ok (.bipush 45, 2) := by decide +kernel
theorem dX7_send_109 : decode cX7_send 109 = .ok (.iload 4, 2) := by decide +kernel
theorem dX7_send_111 : decode cX7_send 111 = .ok (.iadd, 1) := by decide +kernel
theorem dX7_send_112 : decode cX7_send 112 = .ok (.iaload, 1) := by decide +kernel
theorem dX7_send_113 : decode cX7_send 113 = .ok (.aload_n 0, 1) := by decide +kernel
theorem dX7_send_114 : decode cX7_send 114 = .ok (.getfield 50, 3) := by decide +kernel
theorem dX7_send_117 : decode cX7_send 117 = .ok (.iload_n 3, 1) := by decide +kernel
theorem dX7_send_118 : decode cX7_send 118 = .ok (.iaload, 1) := by decide +kernel
theorem dX7_send_119 : decode cX7_send 119 = .ok (.if_icmp .ne 20, 3) := by decide +kernel
theorem dX7_send_122 : decode cX7_send 122 = .ok (.aload_n 0, 1) := by decide +kernel
theorem dX7_send_123 : decode cX7_send 123 = .ok (.iload 4, 2) := by decide +kernel
theorem dX7_send_125 : decode cX7_send 125 = .ok (.invokevirtual 79, 3) := by decide +kernel
theorem dX7_send_128 : decode cX7_send 128 = .ok (.ifCond .eq 11, 3) := by decide +kernel
theorem dX7_send_131 : decode cX7_send 131 = .ok (.aload_n 0, 1) := by decide +kernel
theorem dX7_send_132 : decode cX7_send 132 = .ok (.iload 4, 2) := by decide +kernel
theorem dX7_send_134 : decode cX7_send 134 = .ok (.iload_n 1, 1) := by decide +kernel
theorem dX7_send_135 : decode cX7_send 135 = .ok (.iload_n 2, 1) := by decide +kernel
theorem dX7_send_136 : decode cX7_send 136 = .ok (.invokevirtual 171, 3) := by decide +kernel
theorem dX7_send_139 : decode cX7_send 139 = .ok (.iinc 4 1, 3) := by decide +kernel
theorem dX7_send_142 : decode cX7_send 142 = .ok (.goto (-59), 3) := by decide +kernel
theorem dX7_send_145 : decode cX7_send 145 = .ok (.iinc 3 1, 3) := by decide +kernel
theorem dX7_send_148 : decode cX7_send 148 = .ok (.goto (-76), 3) := by decide +kernel
theorem dX7_send_151 : decode cX7_send 151 = .ok (.aload_n 0, 1) := by decide +kernel
theorem dX7_send_152 : decode cX7_send 152 = .ok (.getfield 160, 3) := by decide +kernel
theorem dX7_send_155 : decode cX7_send 155 = .ok (.ireturn, 1) := by decide +kernel
theorem dX7_transmissions_0 : decode cX7_transmissions 0 = .ok (.aload_n 0, 1) := by decide +kernel
theorem dX7_transmissions_1 : decode cX7_transmissions 1 = .ok (.iload_n 1, 1) := by decide +kernel
theorem dX7_transmissions_2 : decode cX7_transmissions 2 = .ok (.invokevirtual 72, 3) := by decide +kernel
theorem dX7_transmissions_5 : decode cX7_transmissions 5 = .ok (.ifCond .eq 16, 3) := by decide +kernel
theorem dX7_transmissions_8 : decode cX7_transmissions 8 = .ok (.aload_n 0, 1) := by decide +kernel
theorem dX7_transmissions_9 : decode cX7_transmissions 9 = .ok (.getfield 7, 3) := by decide +kernel
theorem dX7_transmissions_12 : decode cX7_transmissions 12 = .ok (.sipush 421, 3) := by decide +kernel
theorem dX7_transmissions_15 : decode cX7_transmissions 15 = .ok (.iload_n 1, 1) := by decide +kernel
theorem dX7_transmissions_16 : decode cX7_transmissions 16 = .ok (.iadd, 1) := by decide +kernel
theorem dX7_transmissions_17 : decode cX7_transmissions 17 = .ok (.iaload, 1) := by decide +kernel
theorem dX7_transmissions_18 : decode cX7_transmissions 18 = .ok (.goto 5, 3) := by decide +kernel
theorem dX7_transmissions_21 : decode cX7_transmissions 21 = .ok (.bipush (-2), 2) := by decide +kernel
theorem dX7_transmissions_23 : decode cX7_transmissions 23 = .ok (.ireturn, 1) := by decide +kernel
theorem dX7_entry_0 : decode cX7_entry 0 = .ok (.aload_n 0, 1) := by decide +kernel
theorem dX7_entry_1 : decode cX7_entry 1 = .ok (.iload_n 1, 1) := by decide +kernel
theorem dX7_entry_2 : decode cX7_entry 2 = .ok (.invokevirtual 68, 3) := by decide +kernel
theorem dX7_entry_5 : decode cX7_entry 5 = .ok (.ifCond .ne 5, 3) := by decide +kernel
theorem dX7_entry_8 : decode cX7_entry 8 = .ok (.iconst (-1), 1) := by decide +kernel
theorem dX7_entry_9 : decode cX7_entry 9 = .ok (.ireturn, 1) := by decide +kernel
theorem dX7_entry_10 : decode cX7_entry 10 = .ok (.aload_n 0, 1) := by decide +kernel
theorem dX7_entry_11 : decode cX7_entry 11 = .ok (.iload_n 2, 1) := by decide +kernel
theorem dX7_entry_12 : decode cX7_entry 12 = .ok (.invokevirtual 96, 3) := by decide +kernel
theorem dX7_entry_15 : decode cX7_entry 15 = .ok (.ifCond .ne 6, 3) := by decide +kernel
theorem dX7_entry_18 : decode cX7_entry 18 = .ok (.bipush (-4), 2) := by decide +kernel
theorem dX7_entry_20 : decode cX7_entry 20 = .ok (.ireturn, 1) := by decide +kernel
theorem dX7_entry_21 : decode cX7_entry 21 = .ok (.aload_n 0, 1) := by decide +kernel
theorem dX7_entry_22 : decode cX7_entry 22 = .ok (.getfield 7, 3) := by decide +kernel
theorem dX7_entry_25 : decode cX7_entry 25 = .ok (.sipush 357, 3) := by decide +kernel
theorem dX7_entry_28 : decode cX7_entry 28 = .ok (.iload_n 1, 1) := by decide +kernel
theorem dX7_entry_29 : decode cX7_entry 29 = .ok (.iload_n 2, 1) := by decide +kernel
theorem dX7_entry_30 : decode cX7_entry 30 = .ok (.invokestatic 164, 3) := by decide +kernel
theorem dX7_entry_33 : decode cX7_entry 33 = .ok (.iadd, 1) := by decide +kernel
theorem dX7_entry_34 : decode cX7_entry 34 = .ok (.iaload, 1) := by decide +kernel
theorem dX7_entry_35 : decode cX7_entry 35 = .ok (.ifCond .le 20, 3) := by decide +kernel
theorem dX7_entry_38 : decode cX7_entry 38 = .ok (.aload_n 0, 1) := by decide +kernel
theorem dX7_entry_39 : decode cX7_entry 39 = .ok (.getfield 7, 3) := by decide +kernel
theorem dX7_entry_42 : decode cX7_entry 42 = .ok (.sipush 293, 3) := by decide +kernel
theorem dX7_entry_45 : decode cX7_entry 45 = .ok (.iload_n 1, 1) := by decide +kernel
theorem dX7_entry_46 : decode cX7_entry 46 = .ok (.iload_n 2, 1) := by decide +kernel
theorem dX7_entry_47 : decode cX7_entry 47 = .ok (.invokestatic 164, 3) := by decide +kernel
theorem dX7_entry_50 : decode cX7_entry 50 = .ok (.iadd, 1) := by decide +kernel
theorem dX7_entry_51 : decode cX7_entry 51 = .ok (.iaload, 1) := by decide +kernel
theorem dX7_entry_52 : decode cX7_entry 52 = .ok (.goto 5, 3) := by decide +kernel
theorem dX7_entry_55 : decode cX7_entry 55 = .ok (.bipush (-9), 2) := by decide +kernel
theorem dX7_entry_57 : decode cX7_entry 57 = .ok (.ireturn, 1) := by decide +kernel
theorem dX7_count_0 : decode cX7_count 0 = .ok (.iload_n 1, 1) := by decide +kernel
theorem dX7_count_1 : decode cX7_count 1 = .ok (.iconst 0, 1) := by decide +kernel
theorem dX7_count_2 : decode cX7_count 2 = .ok (.iconst 4, 1) := by decide +kernel
theorem dX7_count_3 : decode cX7_count 3 = .ok (.invokestatic 56, 3) := by decide +kernel
theorem dX7_count_6 : decode cX7_count 6 = .ok (.ifCond .eq 12, 3) := by decide +kernel
theorem dX7_count_9 : decode cX7_count 9 = .ok (.aload_n 0, 1) := by decide +kernel
theorem dX7_count_10 : decode cX7_count 10 = .ok (.getfield 7, 3) := by decide +kernel
theorem dX7_count_13 : decode cX7_count 13 = .ok (.iload_n 1, 1) := by decide +kernel
theorem dX7_count_14 : decode cX7_count 14 = .ok (.iaload, 1) := by decide +kernel
theorem dX7_count_15 : decode cX7_count 15 = .ok (.goto 5, 3) := by decide +kernel
theorem dX7_count_18 : decode cX7_count 18 = .ok (.bipush (-5), 2) := by decide +kernel
theorem dX7_count_20 : decode cX7_count 20 = .ok (.ireturn, 1) := by decide +kernel
theorem dX7_save_0 : decode cX7_save 0 = .ok (.iload_n 1, 1) := by decide +kernel
theorem dX7_save_1 : decode cX7_save 1 = .ok (.iconst 0, 1) := by decide +kernel
theorem dX7_save_2 : decode cX7_save 2 = .ok (.iconst 1, 1) := by decide +kernel
theorem dX7_save_3 : decode cX7_save 3 = .ok (.invokestatic 56, 3) := by decide +kernel
theorem dX7_save_6 : decode cX7_save 6 = .ok (.ifCond .ne 6, 3) := by decide +kernel
theorem dX7_save_9 : decode cX7_save 9 = .ok (.bipush (-5), 2) := by decide +kernel
theorem dX7_save_11 : decode cX7_save 11 = .ok (.ireturn, 1) := by decide +kernel
theorem dX7_save_12 : decode cX7_save 12 = .ok (.iconst 0, 1) := by decide +kernel
theorem dX7_save_13 : decode cX7_save 13 = .ok (.istore_n 2, 1) := by decide +kernel
theorem dX7_save_14 : decode cX7_save 14 = .ok (.iload_n 2, 1) := by decide +kernel
theorem dX7_save_15 : decode cX7_save 15 = .ok (.sipush 431, 3) := by decide +kernel
theorem dX7_save_18 : decode cX7_save 18 = .ok (.if_icmp .ge 27, 3) := by decide +kernel
theorem dX7_save_21 : decode cX7_save 21 = .ok (.aload_n 0, 1) := by decide +kernel
theorem dX7_save_22 : decode cX7_save 22 = .ok (.getfield 13, 3) := by decide +kernel
theorem dX7_save_25 : decode cX7_save 25 = .ok (.sipush 431, 3) := by decide +kernel
theorem dX7_save_28 : decode cX7_save 28 = .ok (.iload_n 1, 1) := by decide +kernel
theorem dX7_save_29 : decode cX7_save 29 = .ok (.imul, 1) := by decide +kernel
theorem dX7_save_30 : decode cX7_save 30 = .ok (.iload_n 2, 1) := by decide +kernel
theorem dX7_save_31 : decode cX7_save 31 = .ok (.iadd, 1) := by decide +kernel
theorem dX7_save_32 : decode cX7_save 32 = .ok (.aload_n 0, 1) := by decide +kernel
theorem dX7_save_33 : decode cX7_save 33 = .ok (.getfield 7, 3) := by decide +kernel
theorem dX7_save_36 : decode cX7_save 36 = .ok (.iload_n 2, 1) := by decide +kernel
theorem dX7_save_37 : decode cX7_save 37 = .ok (.iaload, 1) := by decide +kernel
theorem dX7_save_38 : decode cX7_save 38 = .ok (.iastore, 1) := by decide +kernel
theorem dX7_save_39 : decode cX7_save 39 = .ok (.iinc 2 1, 3) := by decide +kernel
theorem dX7_save_42 : decode cX7_save 42 = .ok (.goto (-28), 3) := by decide +kernel
theorem dX7_save_45 : decode cX7_save 45 = .ok (.aload_n 0, 1) := by decide +kernel
theorem dX7_save_46 : decode cX7_save 46 = .ok (.getfield 16, 3) := by decide +kernel
theorem dX7_save_49 : decode cX7_save 49 = .ok (.iload_n 1, 1) := by decide +kernel
theorem dX7_save_50 : decode cX7_save 50 = .ok (.iconst 1, 1) := by decide +kernel
theorem dX7_save_51 : decode cX7_save 51 = .ok (.bastore, 1) := by decide +kernel
theorem dX7_save_52 : decode cX7_save 52 = .ok (.aload_n 0, 1) := by decide +kernel
theorem dX7_save_53 : decode cX7_save 53 = .ok (.getfield 7, 3) := by decide +kernel
theorem dX7_save_56 : decode cX7_save 56 = .ok (.iconst 0, 1) := by decide +kernel
theorem dX7_save_57 : decode cX7_save 57 = .ok (.iaload, 1) := by decide +kernel
theorem dX7_save_58 : decode cX7_save 58 = .ok (.ireturn, 1) := by decide +kernel
theorem dX7_restore_0 : decode cX7_restore 0 = .ok (.iload_n 1, 1) := by decide +kernel
theorem dX7_restore_1 : decode cX7_restore 1 = .ok (.iconst 0, 1) := by decide +kernel
theorem dX7_restore_2 : decode cX7_restore 2 = .ok (.iconst 1, 1) := by decide +kernel
theorem dX7_restore_3 : decode cX7_restore 3 = .ok (.invokestatic 56, 3) := by decide +kernel
theorem dX7_restore_6 : decode cX7_restore 6 = .ok (.ifCond .ne 6, 3) := by decide +kernel
theorem dX7_restore_9 : decode cX7_restore 9 = .ok (.bipush (-5), 2) := by decide +kernel
theorem dX7_restore_11 : decode cX7_restore 11 = .ok (.ireturn, 1) := by decide +kernel
theorem dX7_restore_12 : decode cX7_restore 12 = .ok (.aload_n 0, 1) := by decide +kernel
theorem dX7_restore_13 : decode cX7_restore 13 = .ok (.getfield 16, 3) := by decide +kernel
theorem dX7_restore_16 : decode cX7_restore 16 = .ok (.iload_n 1, 1) := by decide +kernel
theorem dX7_restore_17 : decode cX7_restore 17 = .ok (.baload, 1) := by decide +kernel
theorem dX7_restore_18 : decode cX7_restore 18 = .ok (.ifCond .ne 6, 3) := by decide +kernel
theorem dX7_restore_21 : decode cX7_restore 21 = .ok (.bipush (-8), 2) := by decide +kernel
theorem dX7_restore_23 : decode cX7_restore 23 = .ok (.ireturn, 1) := by decide +kernel
theorem dX7_restore_24 : decode cX7_restore 24 = .ok (.iconst 0, 1) := by decide +kernel
theorem dX7_restore_25 : decode cX7_restore 25 = .ok (.istore_n 2, 1) := by decide +kernel
theorem dX7_restore_26 : decode cX7_restore 26 = .ok (.iload_n 2, 1) := by decide +kernel
theorem dX7_restore_27 : decode cX7_restore 27 = .ok (.sipush 431, 3) := by decide +kernel
theorem dX7_restore_30 : decode cX7_restore 30 = .ok (.if_icmp .ge 27, 3) := by decide +kernel
theorem dX7_restore_33 : decode cX7_restore 33 = .ok (.aload_n 0, 1) := by decide +kernel
theorem dX7_restore_34 : decode cX7_restore 34 = .ok (.getfield 7, 3) := by decide +kernel
theorem dX7_restore_37 : decode cX7_restore 37 = .ok (.iload_n 2, 1) := by decide +kernel
theorem dX7_restore_38 : decode cX7_restore 38 = .ok (.aload_n 0, 1) := by decide +kernel
theorem dX7_restore_39 : decode cX7_restore 39 = .ok (.getfield 13, 3) := by decide +kernel
theorem dX7_restore_42 : decode cX7_restore 42 = .ok (.sipush 431, 3) := by decide +kernel
theorem dX7_restore_45 : decode cX7_restore 45 = .ok (.iload_n 1, 1) := by decide +kernel
theorem dX7_restore_46 : decode cX7_restore 46 = .ok (.imul, 1) := by decide +kernel
theorem dX7_restore_47 : decode cX7_restore 47 = .ok (.iload_n 2, 1) := by decide +kernel
theorem dX7_restore_48 : decode cX7_restore 48 = .ok (.iadd, 1) := by decide +kernel
theorem dX7_restore_49 : decode cX7_restore 49 = .ok (.iaload, 1) := by decide +kernel
theorem dX7_restore_50 : decode cX7_restore 50 = .ok (.iastore, 1) := by decide +kernel
theorem dX7_restore_51 : decode cX7_restore 51 = .ok (.iinc 2 1, 3) := by decide +kernel
theorem dX7_restore_54 : decode cX7_restore 54 = .ok (.goto (-28), 3) := by decide +kernel
theorem dX7_restore_57 : decode cX7_restore 57 = .ok (.aload_n 0, 1) := by decide +kernel
theorem dX7_restore_58 : decode cX7_restore 58 = .ok (.getfield 7, 3) := by decide +kernel
theorem dX7_restore_61 : decode cX7_restore 61 = .ok (.iconst 0, 1) := by decide +kernel
theorem dX7_restore_62 : decode cX7_restore 62 = .ok (.iaload, 1) := by decide +kernel
theorem dX7_restore_63 : decode cX7_restore 63 = .ok (.ireturn, 1) := by decide +kernel
theorem dJ9_min_7cf53_0 : decode cJ9_min_7cf53 0 = .ok (.iload_n 0, 1) := by decide +kernel
theorem dJ9_min_7cf53_1 : decode cJ9_min_7cf53 1 = .ok (.iload_n 1, 1) := by decide +kernel
theorem dJ9_min_7cf53_2 : decode cJ9_min_7cf53 2 = .ok (.if_icmp .gt 7, 3) := by decide +kernel
theorem dJ9_min_7cf53_5 : decode cJ9_min_7cf53 5 = .ok (.iload_n 0, 1) := by decide +kernel
theorem dJ9_min_7cf53_6 : decode cJ9_min_7cf53 6 = .ok (.goto 4, 3) := by decide +kernel
theorem dJ9_min_7cf53_9 : decode cJ9_min_7cf53 9 = .ok (.iload_n 1, 1) := by decide +kernel
theorem dJ9_min_7cf53_10 : decode cJ9_min_7cf53 10 = .ok (.ireturn, 1) := by decide +kernel
end
section
def xw : List Cond := lw_tbl.filter goodWord
theorem xw_in {w : Cond} (h : w ∈ lw_tbl) (hg : goodWord w = true) : w ∈ xw := List.mem_filter.mpr ⟨h, hg⟩
set_option maxRecDepth 20000 in
theorem mq_0 : Cond.selects RX3 yX3_resetPort yX3_resetPort ∈ xw := xw_in (List.mem_of_getElem? (i := 0) (by decide +kernel)) rfl
set_option maxRecDepth 20000 in
theorem mq_1 : Cond.selects RX3 yX3_forgetEntriesWith yX3_forgetEntriesWith ∈ xw := xw_in (List.mem_of_getElem? (i := 1) (by decide +kernel)) rfl
set_option maxRecDepth 20000 in
theorem mq_2 : Cond.selects RX0 yX0_findBestOffers yX0_findBestOffers ∈ xw := xw_in (List.mem_of_getElem? (i := 2) (by decide +kernel)) rfl
set_option maxRecDepth 20000 in
theorem mq_3 : Cond.selects RX0 yX0_hasOffer yX0_hasOffer ∈ xw := xw_in (List.mem_of_getElem? (i := 3) (by decide +kernel)) rfl
set_option maxRecDepth 20000 in
theorem mq_4 : Cond.selects RX0 yX0_isFromOwnBridge yX0_isFromOwnBridge ∈ xw := xw_in (List.mem_of_getElem? (i := 4) (by decide +kernel)) rfl
set_option maxRecDepth 20000 in
theorem mq_5 : Cond.selects RX0 yX0_considerOffer yX0_considerOffer ∈ xw := xw_in (List.mem_of_getElem? (i := 5) (by decide +kernel)) rfl
set_option maxRecDepth 20000 in
theorem mq_6 : Cond.selects RX0 yX0_chooseRoot yX0_chooseRoot ∈ xw := xw_in (List.mem_of_getElem? (i := 6) (by decide +kernel)) rfl
set_option maxRecDepth 20000 in
theorem mq_7 : Cond.selects RX0 yX0_roleFor yX0_roleFor ∈ xw := xw_in (List.mem_of_getElem? (i := 7) (by decide +kernel)) rfl
set_option maxRecDepth 20000 in
theorem mq_8 : Cond.selects RX4 yX4_sendMessages yX4_sendMessages ∈ xw := xw_in (List.mem_of_getElem? (i := 8) (by decide +kernel)) rfl
set_option maxRecDepth 20000 in
theorem mq_9 : Cond.selects RX4 yX4_ageToSend yX4_ageToSend ∈ xw := xw_in (List.mem_of_getElem? (i := 9) (by decide +kernel)) rfl
set_option maxRecDepth 20000 in
theorem mq_10 : Cond.selects RX4 yX4_rankSender yX4_rankSender ∈ xw := xw_in (List.mem_of_getElem? (i := 10) (by decide +kernel)) rfl
set_option maxRecDepth 20000 in
theorem mq_11 : Cond.selects RX4 yX4_isBetterSender yX4_isBetterSender ∈ xw := xw_in (List.mem_of_getElem? (i := 11) (by decide +kernel)) rfl
set_option maxRecDepth 20000 in
theorem mq_12 : Cond.selects RX4 yX4_takesMessage yX4_takesMessage ∈ xw := xw_in (List.mem_of_getElem? (i := 12) (by decide +kernel)) rfl
set_option maxRecDepth 20000 in
theorem mq_13 : Cond.selects RX4 yX4_accepts yX4_accepts ∈ xw := xw_in (List.mem_of_getElem? (i := 13) (by decide +kernel)) rfl
set_option maxRecDepth 20000 in
theorem mq_14 : Cond.selects RX4 yX4_moveStates yX4_moveStates ∈ xw := xw_in (List.mem_of_getElem? (i := 14) (by decide +kernel)) rfl
set_option maxRecDepth 20000 in
theorem mq_15 : Cond.selects RX4 yX4_moveState yX4_moveState ∈ xw := xw_in (List.mem_of_getElem? (i := 15) (by decide +kernel)) rfl
set_option maxRecDepth 20000 in
theorem mq_16 : Cond.selects RX4 yX4_enterState yX4_enterState ∈ xw := xw_in (List.mem_of_getElem? (i := 16) (by decide +kernel)) rfl
set_option maxRecDepth 20000 in
theorem mq_17 : Cond.selects RX4 yX4_moveTowardsForwarding yX4_moveTowardsForwarding ∈ xw := xw_in (List.mem_of_getElem? (i := 17) (by decide +kernel)) rfl
set_option maxRecDepth 20000 in
theorem mq_18 : Cond.selects RX5 yX5_countVertices yX5_countVertices ∈ xw := xw_in (List.mem_of_getElem? (i := 18) (by decide +kernel)) rfl
set_option maxRecDepth 20000 in
theorem mq_19 : Cond.selects RX5 yX5_join yX5_join ∈ xw := xw_in (List.mem_of_getElem? (i := 19) (by decide +kernel)) rfl
set_option maxRecDepth 20000 in
theorem mq_20 : Cond.selects RX1 yX1_transmit yX1_transmit ∈ xw := xw_in (List.mem_of_getElem? (i := 20) (by decide +kernel)) rfl
set_option maxRecDepth 20000 in
theorem mq_21 : Cond.selects RX1 yX1_visitPorts yX1_visitPorts ∈ xw := xw_in (List.mem_of_getElem? (i := 21) (by decide +kernel)) rfl
set_option maxRecDepth 20000 in
theorem mq_22 : Cond.selects RX1 yX1_visitPort yX1_visitPort ∈ xw := xw_in (List.mem_of_getElem? (i := 22) (by decide +kernel)) rfl
set_option maxRecDepth 20000 in
theorem mq_23 : Cond.selects RX1 yX1_passOn yX1_passOn ∈ xw := xw_in (List.mem_of_getElem? (i := 23) (by decide +kernel)) rfl
set_option maxRecDepth 20000 in
theorem mq_24 : Cond.selects RX1 yX1_flood yX1_flood ∈ xw := xw_in (List.mem_of_getElem? (i := 24) (by decide +kernel)) rfl
set_option maxRecDepth 20000 in
theorem mq_25 : Cond.selects RX7 yX7_isBridge yX7_isBridge ∈ xw := xw_in (List.mem_of_getElem? (i := 25) (by decide +kernel)) rfl
set_option maxRecDepth 20000 in
theorem mq_26 : Cond.selects RX7 yX7_isSegment yX7_isSegment ∈ xw := xw_in (List.mem_of_getElem? (i := 26) (by decide +kernel)) rfl
set_option maxRecDepth 20000 in
theorem mq_27 : Cond.selects RX7 yX7_ports yX7_ports ∈ xw := xw_in (List.mem_of_getElem? (i := 27) (by decide +kernel)) rfl
set_option maxRecDepth 20000 in
theorem mq_28 : Cond.selects RX7 yX7_isActive yX7_isActive ∈ xw := xw_in (List.mem_of_getElem? (i := 28) (by decide +kernel)) rfl
set_option maxRecDepth 20000 in
theorem mq_29 : Cond.selects RX7 yX7_bridgeOf yX7_bridgeOf ∈ xw := xw_in (List.mem_of_getElem? (i := 29) (by decide +kernel)) rfl
set_option maxRecDepth 20000 in
theorem mq_30 : Cond.selects RX7 yX7_set yX7_set ∈ xw := xw_in (List.mem_of_getElem? (i := 30) (by decide +kernel)) rfl
set_option maxRecDepth 20000 in
theorem mq_31 : Cond.selects RX7 yX7_isPort yX7_isPort ∈ xw := xw_in (List.mem_of_getElem? (i := 31) (by decide +kernel)) rfl
set_option maxRecDepth 20000 in
theorem mq_32 : Cond.selects RX7 yX7_turnAll yX7_turnAll ∈ xw := xw_in (List.mem_of_getElem? (i := 32) (by decide +kernel)) rfl
set_option maxRecDepth 20000 in
theorem mq_33 : Cond.selects RX7 yX7_turn yX7_turn ∈ xw := xw_in (List.mem_of_getElem? (i := 33) (by decide +kernel)) rfl
set_option maxRecDepth 20000 in
theorem mq_34 : Cond.selects RX7 yX7_isStation yX7_isStation ∈ xw := xw_in (List.mem_of_getElem? (i := 34) (by decide +kernel)) rfl
set_option maxRecDepth 20000 in
theorem mq_35 : Cond.selects RX7 yX7_tickOnce yX7_tickOnce ∈ xw := xw_in (List.mem_of_getElem? (i := 35) (by decide +kernel)) rfl
set_option maxRecDepth 20000 in
theorem mq_36 : Cond.selects RX7 yX7_layRoles yX7_layRoles ∈ xw := xw_in (List.mem_of_getElem? (i := 36) (by decide +kernel)) rfl
set_option maxRecDepth 20000 in
theorem mq_37 : Cond.selects RX7 yX7_layRoot yX7_layRoot ∈ xw := xw_in (List.mem_of_getElem? (i := 37) (by decide +kernel)) rfl
set_option maxRecDepth 20000 in
theorem mq_38 : Cond.selects RX7 yX7_stores yX7_stores ∈ xw := xw_in (List.mem_of_getElem? (i := 38) (by decide +kernel)) rfl
set_option maxRecDepth 20000 in
theorem mq_39 : Cond.selects RX7 yX7_message yX7_message ∈ xw := xw_in (List.mem_of_getElem? (i := 39) (by decide +kernel)) rfl
set_option maxRecDepth 20000 in
theorem mq_40 : Cond.selects RX7 yX7_idOf yX7_idOf ∈ xw := xw_in (List.mem_of_getElem? (i := 40) (by decide +kernel)) rfl
set_option maxRecDepth 20000 in
theorem mq_41 : Cond.selects RX7 yX7_isBetterOffer yX7_isBetterOffer ∈ xw := xw_in (List.mem_of_getElem? (i := 41) (by decide +kernel)) rfl
set_option maxRecDepth 20000 in
theorem mq_42 : Cond.selects RX7 yX7_roleOf yX7_roleOf ∈ xw := xw_in (List.mem_of_getElem? (i := 42) (by decide +kernel)) rfl
set_option maxRecDepth 20000 in
theorem mq_43 : Cond.selects RX7 yX7_isOwnBetter yX7_isOwnBetter ∈ xw := xw_in (List.mem_of_getElem? (i := 43) (by decide +kernel)) rfl
set_option maxRecDepth 20000 in
theorem mq_44 : Cond.selects RX7 yX7_sendAll yX7_sendAll ∈ xw := xw_in (List.mem_of_getElem? (i := 44) (by decide +kernel)) rfl
set_option maxRecDepth 20000 in
theorem mq_45 : Cond.selects RX7 yX7_hear yX7_hear ∈ xw := xw_in (List.mem_of_getElem? (i := 45) (by decide +kernel)) rfl
set_option maxRecDepth 20000 in
theorem mq_46 : Cond.selects RX7 yX7_heardBy yX7_heardBy ∈ xw := xw_in (List.mem_of_getElem? (i := 46) (by decide +kernel)) rfl
set_option maxRecDepth 20000 in
theorem mq_47 : Cond.selects RX7 yX7_isBetterSent yX7_isBetterSent ∈ xw := xw_in (List.mem_of_getElem? (i := 47) (by decide +kernel)) rfl
set_option maxRecDepth 20000 in
theorem mq_48 : Cond.selects RX7 yX7_goOn yX7_goOn ∈ xw := xw_in (List.mem_of_getElem? (i := 48) (by decide +kernel)) rfl
set_option maxRecDepth 20000 in
theorem mq_49 : Cond.selects RX7 yX7_isUp yX7_isUp ∈ xw := xw_in (List.mem_of_getElem? (i := 49) (by decide +kernel)) rfl
set_option maxRecDepth 20000 in
theorem mq_50 : Cond.selects RX7 yX7_joinAll yX7_joinAll ∈ xw := xw_in (List.mem_of_getElem? (i := 50) (by decide +kernel)) rfl
set_option maxRecDepth 20000 in
theorem mq_51 : Cond.selects RX7 yX7_partsNow yX7_partsNow ∈ xw := xw_in (List.mem_of_getElem? (i := 51) (by decide +kernel)) rfl
set_option maxRecDepth 20000 in
theorem mq_52 : Cond.selects RX7 yX7_isVertex yX7_isVertex ∈ xw := xw_in (List.mem_of_getElem? (i := 52) (by decide +kernel)) rfl
set_option maxRecDepth 20000 in
theorem mq_53 : Cond.selects RX7 yX7_vertices yX7_vertices ∈ xw := xw_in (List.mem_of_getElem? (i := 53) (by decide +kernel)) rfl
set_option maxRecDepth 20000 in
theorem mq_54 : Cond.selects RX7 yX7_transmit yX7_transmit ∈ xw := xw_in (List.mem_of_getElem? (i := 54) (by decide +kernel)) rfl
set_option maxRecDepth 20000 in
theorem mq_55 : Cond.selects RX7 yX7_receive yX7_receive ∈ xw := xw_in (List.mem_of_getElem? (i := 55) (by decide +kernel)) rfl
set_option maxRecDepth 20000 in
theorem mq_56 : Cond.initialized RL ∈ xw := xw_in (List.mem_of_getElem? (i := 56) (by decide +kernel)) rfl
set_option maxRecDepth 20000 in
theorem mq_57 : Cond.initialized RX6 ∈ xw := xw_in (List.mem_of_getElem? (i := 57) (by decide +kernel)) rfl
set_option maxRecDepth 20000 in
theorem mq_58 : Cond.initialized RX3 ∈ xw := xw_in (List.mem_of_getElem? (i := 58) (by decide +kernel)) rfl
set_option maxRecDepth 20000 in
theorem mq_59 : Cond.initialized RX0 ∈ xw := xw_in (List.mem_of_getElem? (i := 59) (by decide +kernel)) rfl
set_option maxRecDepth 20000 in
theorem mq_60 : Cond.initialized RX4 ∈ xw := xw_in (List.mem_of_getElem? (i := 60) (by decide +kernel)) rfl
set_option maxRecDepth 20000 in
theorem mq_61 : Cond.initialized RX1 ∈ xw := xw_in (List.mem_of_getElem? (i := 61) (by decide +kernel)) rfl
set_option maxRecDepth 20000 in
theorem mq_62 : Cond.initialized RX5 ∈ xw := xw_in (List.mem_of_getElem? (i := 62) (by decide +kernel)) rfl
set_option maxRecDepth 20000 in
theorem mq_63 : Cond.initialized RX7 ∈ xw := xw_in (List.mem_of_getElem? (i := 63) (by decide +kernel)) rfl
set_option maxRecDepth 20000 in
theorem mq_64 : Cond.initialized RX2 ∈ xw := xw_in (List.mem_of_getElem? (i := 64) (by decide +kernel)) rfl
set_option maxRecDepth 20000 in
theorem mq_65 : Cond.initialized RJ9 ∈ xw := xw_in (List.mem_of_getElem? (i := 65) (by decide +kernel)) rfl
set_option maxRecDepth 20000 in
theorem mq_66 : Cond.initialized RJ10 ∈ xw := xw_in (List.mem_of_getElem? (i := 66) (by decide +kernel)) rfl
set_option maxRecDepth 20000 in
theorem mq_67 : Cond.classLink RL 7 RX6 ∈ xw := xw_in (List.mem_of_getElem? (i := 67) (by decide +kernel)) rfl
set_option maxRecDepth 20000 in
theorem mq_68 : Cond.instantiable RX6 6 ∈ xw := xw_in (List.mem_of_getElem? (i := 68) (by decide +kernel)) rfl
set_option maxRecDepth 20000 in
theorem mq_69 : Cond.methodLink RL 9 yX6_init ∈ xw := xw_in (List.mem_of_getElem? (i := 69) (by decide +kernel)) rfl
set_option maxRecDepth 20000 in
theorem mq_70 : Cond.instanceMethod yX6_init ∈ xw := xw_in (List.mem_of_getElem? (i := 70) (by decide +kernel)) rfl
set_option maxRecDepth 20000 in
theorem mq_71 : Cond.code yX6_init cX6_init 3 none ∈ xw := xw_in (List.mem_of_getElem? (i := 71) (by decide +kernel)) rfl
set_option maxRecDepth 20000 in
theorem mq_72 : Cond.methodLink RX6 1 objectInit ∈ xw := xw_in (List.mem_of_getElem? (i := 72) (by decide +kernel)) rfl
set_option maxRecDepth 20000 in
theorem mq_73 : Cond.instanceMethod objectInit ∈ xw := xw_in (List.mem_of_getElem? (i := 73) (by decide +kernel)) rfl
set_option maxRecDepth 20000 in
theorem mq_74 : Cond.code objectInit object_method_1_code 1 none ∈ xw := xw_in (List.mem_of_getElem? (i := 74) (by decide +kernel)) rfl
set_option maxRecDepth 20000 in
theorem mq_75 : Cond.classLink RX6 7 RX3 ∈ xw := xw_in (List.mem_of_getElem? (i := 75) (by decide +kernel)) rfl
set_option maxRecDepth 20000 in
theorem mq_76 : Cond.instantiable RX3 19 ∈ xw := xw_in (List.mem_of_getElem? (i := 76) (by decide +kernel)) rfl
set_option maxRecDepth 20000 in
theorem mq_77 : Cond.methodLink RX6 9 yX3_init ∈ xw := xw_in (List.mem_of_getElem? (i := 77) (by decide +kernel)) rfl
set_option maxRecDepth 20000 in
theorem mq_78 : Cond.instanceMethod yX3_init ∈ xw := xw_in (List.mem_of_getElem? (i := 78) (by decide +kernel)) rfl
set_option maxRecDepth 20000 in
theorem mq_79 : Cond.code yX3_init cX3_init 1 none ∈ xw := xw_in (List.mem_of_getElem? (i := 79) (by decide +kernel)) rfl
set_option maxRecDepth 20000 in
theorem mq_80 : Cond.methodLink RX3 3 objectInit ∈ xw := xw_in (List.mem_of_getElem? (i := 80) (by decide +kernel)) rfl
set_option maxRecDepth 20000 in
theorem mq_81 : Cond.fieldLink RX3 55 "SpanningTreeProtocol$Network" "bridgeCount" "I" ∈ xw := xw_in (List.mem_of_getElem? (i := 81) (by decide +kernel)) rfl
set_option maxRecDepth 20000 in
theorem mq_82 : Cond.fieldLink RX0 38 "SpanningTreeProtocol$Network" "bridgeCount" "I" ∈ xw := xw_in (List.mem_of_getElem? (i := 82) (by decide +kernel)) rfl
set_option maxRecDepth 20000 in
theorem mq_83 : Cond.fieldLink RX6 56 "SpanningTreeProtocol$Network" "bridgeCount" "I" ∈ xw := xw_in (List.mem_of_getElem? (i := 83) (by decide +kernel)) rfl
set_option maxRecDepth 20000 in
theorem mq_84 : Cond.fieldLink RX5 42 "SpanningTreeProtocol$Network" "bridgeCount" "I" ∈ xw := xw_in (List.mem_of_getElem? (i := 84) (by decide +kernel)) rfl
set_option maxRecDepth 20000 in
theorem mq_85 : Cond.fieldLink RX3 59 "SpanningTreeProtocol$Network" "segmentCount" "I" ∈ xw := xw_in (List.mem_of_getElem? (i := 85) (by decide +kernel)) rfl
set_option maxRecDepth 20000 in
theorem mq_86 : Cond.fieldLink RX6 64 "SpanningTreeProtocol$Network" "segmentCount" "I" ∈ xw := xw_in (List.mem_of_getElem? (i := 86) (by decide +kernel)) rfl
set_option maxRecDepth 20000 in
theorem mq_87 : Cond.fieldLink RX4 65 "SpanningTreeProtocol$Network" "segmentCount" "I" ∈ xw := xw_in (List.mem_of_getElem? (i := 87) (by decide +kernel)) rfl
set_option maxRecDepth 20000 in
theorem mq_88 : Cond.fieldLink RX5 39 "SpanningTreeProtocol$Network" "segmentCount" "I" ∈ xw := xw_in (List.mem_of_getElem? (i := 88) (by decide +kernel)) rfl
set_option maxRecDepth 20000 in
theorem mq_89 : Cond.fieldLink RX4 36 "SpanningTreeProtocol$Network" "portCount" "I" ∈ xw := xw_in (List.mem_of_getElem? (i := 89) (by decide +kernel)) rfl
set_option maxRecDepth 20000 in
theorem mq_90 : Cond.fieldLink RX3 62 "SpanningTreeProtocol$Network" "portCount" "I" ∈ xw := xw_in (List.mem_of_getElem? (i := 90) (by decide +kernel)) rfl
set_option maxRecDepth 20000 in
theorem mq_91 : Cond.fieldLink RX5 23 "SpanningTreeProtocol$Network" "portCount" "I" ∈ xw := xw_in (List.mem_of_getElem? (i := 91) (by decide +kernel)) rfl
set_option maxRecDepth 20000 in
theorem mq_92 : Cond.fieldLink RX0 48 "SpanningTreeProtocol$Network" "portCount" "I" ∈ xw := xw_in (List.mem_of_getElem? (i := 92) (by decide +kernel)) rfl
set_option maxRecDepth 20000 in
theorem mq_93 : Cond.fieldLink RX1 42 "SpanningTreeProtocol$Network" "portCount" "I" ∈ xw := xw_in (List.mem_of_getElem? (i := 93) (by decide +kernel)) rfl
set_option maxRecDepth 20000 in
theorem mq_94 : Cond.fieldLink RX6 80 "SpanningTreeProtocol$Network" "portCount" "I" ∈ xw := xw_in (List.mem_of_getElem? (i := 94) (by decide +kernel)) rfl
set_option maxRecDepth 20000 in
theorem mq_95 : Cond.fieldLink RX3 65 "SpanningTreeProtocol$Network" "stationCount" "I" ∈ xw := xw_in (List.mem_of_getElem? (i := 95) (by decide +kernel)) rfl
set_option maxRecDepth 20000 in
theorem mq_96 : Cond.fieldLink RX6 87 "SpanningTreeProtocol$Network" "stationCount" "I" ∈ xw := xw_in (List.mem_of_getElem? (i := 96) (by decide +kernel)) rfl
set_option maxRecDepth 20000 in
theorem mq_97 : Cond.fieldLink RX3 68 "SpanningTreeProtocol$Network" "time" "I" ∈ xw := xw_in (List.mem_of_getElem? (i := 97) (by decide +kernel)) rfl
set_option maxRecDepth 20000 in
theorem mq_98 : Cond.fieldLink RX4 62 "SpanningTreeProtocol$Network" "time" "I" ∈ xw := xw_in (List.mem_of_getElem? (i := 98) (by decide +kernel)) rfl
set_option maxRecDepth 20000 in
theorem mq_99 : Cond.fieldLink RX6 123 "SpanningTreeProtocol$Network" "time" "I" ∈ xw := xw_in (List.mem_of_getElem? (i := 99) (by decide +kernel)) rfl
set_option maxRecDepth 20000 in
theorem mq_100 : Cond.fieldLink RX3 9 "SpanningTreeProtocol$Network" "priority" "[I" ∈ xw := xw_in (List.mem_of_getElem? (i := 100) (by decide +kernel)) rfl
set_option maxRecDepth 20000 in
theorem mq_101 : Cond.fieldLink RX6 93 "SpanningTreeProtocol$Network" "priority" "[I" ∈ xw := xw_in (List.mem_of_getElem? (i := 101) (by decide +kernel)) rfl
set_option maxRecDepth 20000 in
theorem mq_102 : Cond.fieldLink RX3 15 "SpanningTreeProtocol$Network" "bridgePower" "[I" ∈ xw := xw_in (List.mem_of_getElem? (i := 102) (by decide +kernel)) rfl
set_option maxRecDepth 20000 in
theorem mq_103 : Cond.fieldLink RX3 18 "SpanningTreeProtocol$Network" "portBridge" "[I" ∈ xw := xw_in (List.mem_of_getElem? (i := 103) (by decide +kernel)) rfl
set_option maxRecDepth 20000 in
theorem mq_104 : Cond.fieldLink RX4 85 "SpanningTreeProtocol$Network" "portBridge" "[I" ∈ xw := xw_in (List.mem_of_getElem? (i := 104) (by decide +kernel)) rfl
set_option maxRecDepth 20000 in
theorem mq_105 : Cond.fieldLink RX0 80 "SpanningTreeProtocol$Network" "portBridge" "[I" ∈ xw := xw_in (List.mem_of_getElem? (i := 105) (by decide +kernel)) rfl
set_option maxRecDepth 20000 in
theorem mq_106 : Cond.fieldLink RX5 51 "SpanningTreeProtocol$Network" "portBridge" "[I" ∈ xw := xw_in (List.mem_of_getElem? (i := 106) (by decide +kernel)) rfl
set_option maxRecDepth 20000 in
theorem mq_107 : Cond.fieldLink RX1 65 "SpanningTreeProtocol$Network" "portBridge" "[I" ∈ xw := xw_in (List.mem_of_getElem? (i := 107) (by decide +kernel)) rfl
set_option maxRecDepth 20000 in
theorem mq_108 : Cond.fieldLink RX3 21 "SpanningTreeProtocol$Network" "portSegment" "[I" ∈ xw := xw_in (List.mem_of_getElem? (i := 108) (by decide +kernel)) rfl
set_option maxRecDepth 20000 in
theorem mq_109 : Cond.fieldLink RX1 45 "SpanningTreeProtocol$Network" "portSegment" "[I" ∈ xw := xw_in (List.mem_of_getElem? (i := 109) (by decide +kernel)) rfl
set_option maxRecDepth 20000 in
theorem mq_110 : Cond.fieldLink RX4 91 "SpanningTreeProtocol$Network" "portSegment" "[I" ∈ xw := xw_in (List.mem_of_getElem? (i := 110) (by decide +kernel)) rfl
set_option maxRecDepth 20000 in
theorem mq_111 : Cond.fieldLink RX5 48 "SpanningTreeProtocol$Network" "portSegment" "[I" ∈ xw := xw_in (List.mem_of_getElem? (i := 111) (by decide +kernel)) rfl
set_option maxRecDepth 20000 in
theorem mq_112 : Cond.fieldLink RX3 24 "SpanningTreeProtocol$Network" "portCost" "[I" ∈ xw := xw_in (List.mem_of_getElem? (i := 112) (by decide +kernel)) rfl
set_option maxRecDepth 20000 in
theorem mq_113 : Cond.fieldLink RX0 86 "SpanningTreeProtocol$Network" "portCost" "[I" ∈ xw := xw_in (List.mem_of_getElem? (i := 113) (by decide +kernel)) rfl
set_option maxRecDepth 20000 in
theorem mq_114 : Cond.fieldLink RX6 100 "SpanningTreeProtocol$Network" "portCost" "[I" ∈ xw := xw_in (List.mem_of_getElem? (i := 114) (by decide +kernel)) rfl
set_option maxRecDepth 20000 in
theorem mq_115 : Cond.fieldLink RX3 27 "SpanningTreeProtocol$Network" "portPower" "[I" ∈ xw := xw_in (List.mem_of_getElem? (i := 115) (by decide +kernel)) rfl
set_option maxRecDepth 20000 in
theorem mq_116 : Cond.fieldLink RX3 30 "SpanningTreeProtocol$Network" "portState" "[I" ∈ xw := xw_in (List.mem_of_getElem? (i := 116) (by decide +kernel)) rfl
set_option maxRecDepth 20000 in
theorem mq_117 : Cond.fieldLink RX1 56 "SpanningTreeProtocol$Network" "portState" "[I" ∈ xw := xw_in (List.mem_of_getElem? (i := 117) (by decide +kernel)) rfl
set_option maxRecDepth 20000 in
theorem mq_118 : Cond.fieldLink RX4 117 "SpanningTreeProtocol$Network" "portState" "[I" ∈ xw := xw_in (List.mem_of_getElem? (i := 118) (by decide +kernel)) rfl
set_option maxRecDepth 20000 in
theorem mq_119 : Cond.fieldLink RX6 144 "SpanningTreeProtocol$Network" "portState" "[I" ∈ xw := xw_in (List.mem_of_getElem? (i := 119) (by decide +kernel)) rfl
set_option maxRecDepth 20000 in
theorem mq_120 : Cond.fieldLink RX3 33 "SpanningTreeProtocol$Network" "stateCounter" "[I" ∈ xw := xw_in (List.mem_of_getElem? (i := 120) (by decide +kernel)) rfl
set_option maxRecDepth 20000 in
theorem mq_121 : Cond.fieldLink RX4 131 "SpanningTreeProtocol$Network" "stateCounter" "[I" ∈ xw := xw_in (List.mem_of_getElem? (i := 121) (by decide +kernel)) rfl
set_option maxRecDepth 20000 in
theorem mq_122 : Cond.fieldLink RX3 36 "SpanningTreeProtocol$Network" "message" "[J" ∈ xw := xw_in (List.mem_of_getElem? (i := 122) (by decide +kernel)) rfl
set_option maxRecDepth 20000 in
theorem mq_123 : Cond.fieldLink RX0 71 "SpanningTreeProtocol$Network" "message" "[J" ∈ xw := xw_in (List.mem_of_getElem? (i := 123) (by decide +kernel)) rfl
set_option maxRecDepth 20000 in
theorem mq_124 : Cond.fieldLink RX4 105 "SpanningTreeProtocol$Network" "message" "[J" ∈ xw := xw_in (List.mem_of_getElem? (i := 124) (by decide +kernel)) rfl
set_option maxRecDepth 20000 in
theorem mq_125 : Cond.fieldLink RX6 150 "SpanningTreeProtocol$Network" "message" "[J" ∈ xw := xw_in (List.mem_of_getElem? (i := 125) (by decide +kernel)) rfl
set_option maxRecDepth 20000 in
theorem mq_126 : Cond.fieldLink RX3 40 "SpanningTreeProtocol$Network" "messageLifetime" "[I" ∈ xw := xw_in (List.mem_of_getElem? (i := 126) (by decide +kernel)) rfl
set_option maxRecDepth 20000 in
theorem mq_127 : Cond.fieldLink RX4 88 "SpanningTreeProtocol$Network" "messageLifetime" "[I" ∈ xw := xw_in (List.mem_of_getElem? (i := 127) (by decide +kernel)) rfl
set_option maxRecDepth 20000 in
theorem mq_128 : Cond.fieldLink RX6 169 "SpanningTreeProtocol$Network" "messageLifetime" "[I" ∈ xw := xw_in (List.mem_of_getElem? (i := 128) (by decide +kernel)) rfl
set_option maxRecDepth 20000 in
theorem mq_129 : Cond.fieldLink RX3 43 "SpanningTreeProtocol$Network" "stationSegment" "[I" ∈ xw := xw_in (List.mem_of_getElem? (i := 129) (by decide +kernel)) rfl
set_option maxRecDepth 20000 in
theorem mq_130 : Cond.fieldLink RX1 31 "SpanningTreeProtocol$Network" "stationSegment" "[I" ∈ xw := xw_in (List.mem_of_getElem? (i := 130) (by decide +kernel)) rfl
set_option maxRecDepth 20000 in
theorem mq_131 : Cond.fieldLink RX6 113 "SpanningTreeProtocol$Network" "stationSegment" "[I" ∈ xw := xw_in (List.mem_of_getElem? (i := 131) (by decide +kernel)) rfl
set_option maxRecDepth 20000 in
theorem mq_132 : Cond.fieldLink RX3 46 "SpanningTreeProtocol$Network" "entryPort" "[I" ∈ xw := xw_in (List.mem_of_getElem? (i := 132) (by decide +kernel)) rfl
set_option maxRecDepth 20000 in
theorem mq_133 : Cond.fieldLink RX3 49 "SpanningTreeProtocol$Network" "entryLifetime" "[I" ∈ xw := xw_in (List.mem_of_getElem? (i := 133) (by decide +kernel)) rfl
set_option maxRecDepth 20000 in
theorem mq_134 : Cond.fieldLink RX3 52 "SpanningTreeProtocol$Network" "transmitted" "[I" ∈ xw := xw_in (List.mem_of_getElem? (i := 134) (by decide +kernel)) rfl
set_option maxRecDepth 20000 in
theorem mq_135 : Cond.fieldLink RX1 26 "SpanningTreeProtocol$Network" "transmitted" "[I" ∈ xw := xw_in (List.mem_of_getElem? (i := 135) (by decide +kernel)) rfl
set_option maxRecDepth 20000 in
theorem mq_136 : Cond.fieldLink RX6 181 "SpanningTreeProtocol$Network" "transmitted" "[I" ∈ xw := xw_in (List.mem_of_getElem? (i := 136) (by decide +kernel)) rfl
set_option maxRecDepth 20000 in
theorem mq_176 : Cond.arrayClass .int ∈ xw := xw_in (List.mem_of_getElem? (i := 176) (by decide +kernel)) rfl
set_option maxRecDepth 20000 in
theorem mq_177 : Cond.arrayClass .long ∈ xw := xw_in (List.mem_of_getElem? (i := 177) (by decide +kernel)) rfl
set_option maxRecDepth 20000 in
theorem mq_178 : Cond.classLink RX6 10 RX0 ∈ xw := xw_in (List.mem_of_getElem? (i := 178) (by decide +kernel)) rfl
set_option maxRecDepth 20000 in
theorem mq_179 : Cond.instantiable RX0 7 ∈ xw := xw_in (List.mem_of_getElem? (i := 179) (by decide +kernel)) rfl
set_option maxRecDepth 20000 in
theorem mq_180 : Cond.methodLink RX6 12 yX0_init ∈ xw := xw_in (List.mem_of_getElem? (i := 180) (by decide +kernel)) rfl
set_option maxRecDepth 20000 in
theorem mq_181 : Cond.instanceMethod yX0_init ∈ xw := xw_in (List.mem_of_getElem? (i := 181) (by decide +kernel)) rfl
set_option maxRecDepth 20000 in
theorem mq_182 : Cond.code yX0_init cX0_init 2 none ∈ xw := xw_in (List.mem_of_getElem? (i := 182) (by decide +kernel)) rfl
set_option maxRecDepth 20000 in
theorem mq_183 : Cond.methodLink RX0 3 objectInit ∈ xw := xw_in (List.mem_of_getElem? (i := 183) (by decide +kernel)) rfl
set_option maxRecDepth 20000 in
theorem mq_184 : Cond.fieldLink RX0 31 "SpanningTreeProtocol$Election" "net" "LSpanningTreeProtocol$Network;" ∈ xw := xw_in (List.mem_of_getElem? (i := 184) (by decide +kernel)) rfl
set_option maxRecDepth 20000 in
theorem mq_185 : Cond.fieldLink RX0 9 "SpanningTreeProtocol$Election" "bridgeRoot" "[I" ∈ xw := xw_in (List.mem_of_getElem? (i := 185) (by decide +kernel)) rfl
set_option maxRecDepth 20000 in
theorem mq_186 : Cond.fieldLink RX6 132 "SpanningTreeProtocol$Election" "bridgeRoot" "[I" ∈ xw := xw_in (List.mem_of_getElem? (i := 186) (by decide +kernel)) rfl
set_option maxRecDepth 20000 in
theorem mq_187 : Cond.fieldLink RX0 15 "SpanningTreeProtocol$Election" "bridgeRootCost" "[I" ∈ xw := xw_in (List.mem_of_getElem? (i := 187) (by decide +kernel)) rfl
set_option maxRecDepth 20000 in
theorem mq_188 : Cond.fieldLink RX6 135 "SpanningTreeProtocol$Election" "bridgeRootCost" "[I" ∈ xw := xw_in (List.mem_of_getElem? (i := 188) (by decide +kernel)) rfl
set_option maxRecDepth 20000 in
theorem mq_189 : Cond.fieldLink RX0 18 "SpanningTreeProtocol$Election" "bridgeRootPort" "[I" ∈ xw := xw_in (List.mem_of_getElem? (i := 189) (by decide +kernel)) rfl
set_option maxRecDepth 20000 in
theorem mq_190 : Cond.fieldLink RX4 82 "SpanningTreeProtocol$Election" "bridgeRootPort" "[I" ∈ xw := xw_in (List.mem_of_getElem? (i := 190) (by decide +kernel)) rfl
set_option maxRecDepth 20000 in
theorem mq_191 : Cond.fieldLink RX6 138 "SpanningTreeProtocol$Election" "bridgeRootPort" "[I" ∈ xw := xw_in (List.mem_of_getElem? (i := 191) (by decide +kernel)) rfl
set_option maxRecDepth 20000 in
theorem mq_192 : Cond.fieldLink RX0 21 "SpanningTreeProtocol$Election" "portRole" "[I" ∈ xw := xw_in (List.mem_of_getElem? (i := 192) (by decide +kernel)) rfl
set_option maxRecDepth 20000 in
theorem mq_193 : Cond.fieldLink RX4 72 "SpanningTreeProtocol$Election" "portRole" "[I" ∈ xw := xw_in (List.mem_of_getElem? (i := 193) (by decide +kernel)) rfl
set_option maxRecDepth 20000 in
theorem mq_194 : Cond.fieldLink RX6 141 "SpanningTreeProtocol$Election" "portRole" "[I" ∈ xw := xw_in (List.mem_of_getElem? (i := 194) (by decide +kernel)) rfl
set_option maxRecDepth 20000 in
theorem mq_195 : Cond.fieldLink RX0 24 "SpanningTreeProtocol$Election" "bestOffer" "[J" ∈ xw := xw_in (List.mem_of_getElem? (i := 195) (by decide +kernel)) rfl
set_option maxRecDepth 20000 in
theorem mq_196 : Cond.fieldLink RX0 28 "SpanningTreeProtocol$Election" "bestOfferPort" "[I" ∈ xw := xw_in (List.mem_of_getElem? (i := 196) (by decide +kernel)) rfl
set_option maxRecDepth 20000 in
theorem mq_212 : Cond.classLink RX6 25 RX4 ∈ xw := xw_in (List.mem_of_getElem? (i := 212) (by decide +kernel)) rfl
set_option maxRecDepth 20000 in
theorem mq_213 : Cond.instantiable RX4 6 ∈ xw := xw_in (List.mem_of_getElem? (i := 213) (by decide +kernel)) rfl
set_option maxRecDepth 20000 in
theorem mq_214 : Cond.methodLink RX6 27 yX4_init ∈ xw := xw_in (List.mem_of_getElem? (i := 214) (by decide +kernel)) rfl
set_option maxRecDepth 20000 in
theorem mq_215 : Cond.instanceMethod yX4_init ∈ xw := xw_in (List.mem_of_getElem? (i := 215) (by decide +kernel)) rfl
set_option maxRecDepth 20000 in
theorem mq_216 : Cond.code yX4_init cX4_init 3 none ∈ xw := xw_in (List.mem_of_getElem? (i := 216) (by decide +kernel)) rfl
set_option maxRecDepth 20000 in
theorem mq_217 : Cond.methodLink RX4 3 objectInit ∈ xw := xw_in (List.mem_of_getElem? (i := 217) (by decide +kernel)) rfl
set_option maxRecDepth 20000 in
theorem mq_218 : Cond.fieldLink RX4 25 "SpanningTreeProtocol$Ticker" "net" "LSpanningTreeProtocol$Network;" ∈ xw := xw_in (List.mem_of_getElem? (i := 218) (by decide +kernel)) rfl
set_option maxRecDepth 20000 in
theorem mq_219 : Cond.fieldLink RX4 29 "SpanningTreeProtocol$Ticker" "election" "LSpanningTreeProtocol$Election;" ∈ xw := xw_in (List.mem_of_getElem? (i := 219) (by decide +kernel)) rfl
set_option maxRecDepth 20000 in
theorem mq_220 : Cond.fieldLink RX4 9 "SpanningTreeProtocol$Ticker" "sentMessage" "[J" ∈ xw := xw_in (List.mem_of_getElem? (i := 220) (by decide +kernel)) rfl
set_option maxRecDepth 20000 in
theorem mq_221 : Cond.fieldLink RX4 15 "SpanningTreeProtocol$Ticker" "sentAge" "[I" ∈ xw := xw_in (List.mem_of_getElem? (i := 221) (by decide +kernel)) rfl
set_option maxRecDepth 20000 in
theorem mq_222 : Cond.fieldLink RX4 19 "SpanningTreeProtocol$Ticker" "bestSender" "[I" ∈ xw := xw_in (List.mem_of_getElem? (i := 222) (by decide +kernel)) rfl
set_option maxRecDepth 20000 in
theorem mq_223 : Cond.fieldLink RX4 22 "SpanningTreeProtocol$Ticker" "nextBestSender" "[I" ∈ xw := xw_in (List.mem_of_getElem? (i := 223) (by decide +kernel)) rfl
set_option maxRecDepth 20000 in
theorem mq_237 : Cond.classLink RX6 34 RX1 ∈ xw := xw_in (List.mem_of_getElem? (i := 237) (by decide +kernel)) rfl
set_option maxRecDepth 20000 in
theorem mq_238 : Cond.instantiable RX1 4 ∈ xw := xw_in (List.mem_of_getElem? (i := 238) (by decide +kernel)) rfl
set_option maxRecDepth 20000 in
theorem mq_239 : Cond.methodLink RX6 36 yX1_init ∈ xw := xw_in (List.mem_of_getElem? (i := 239) (by decide +kernel)) rfl
set_option maxRecDepth 20000 in
theorem mq_240 : Cond.instanceMethod yX1_init ∈ xw := xw_in (List.mem_of_getElem? (i := 240) (by decide +kernel)) rfl
set_option maxRecDepth 20000 in
theorem mq_241 : Cond.code yX1_init cX1_init 2 none ∈ xw := xw_in (List.mem_of_getElem? (i := 241) (by decide +kernel)) rfl
set_option maxRecDepth 20000 in
theorem mq_242 : Cond.methodLink RX1 3 objectInit ∈ xw := xw_in (List.mem_of_getElem? (i := 242) (by decide +kernel)) rfl
set_option maxRecDepth 20000 in
theorem mq_243 : Cond.fieldLink RX1 18 "SpanningTreeProtocol$Frame" "net" "LSpanningTreeProtocol$Network;" ∈ xw := xw_in (List.mem_of_getElem? (i := 243) (by decide +kernel)) rfl
set_option maxRecDepth 20000 in
theorem mq_244 : Cond.fieldLink RX1 9 "SpanningTreeProtocol$Frame" "queueSegment" "[I" ∈ xw := xw_in (List.mem_of_getElem? (i := 244) (by decide +kernel)) rfl
set_option maxRecDepth 20000 in
theorem mq_245 : Cond.fieldLink RX1 15 "SpanningTreeProtocol$Frame" "queuePort" "[I" ∈ xw := xw_in (List.mem_of_getElem? (i := 245) (by decide +kernel)) rfl
set_option maxRecDepth 20000 in
theorem mq_246 : Cond.fieldLink RX1 22 "SpanningTreeProtocol$Frame" "made" "I" ∈ xw := xw_in (List.mem_of_getElem? (i := 246) (by decide +kernel)) rfl
set_option maxRecDepth 20000 in
theorem mq_256 : Cond.classLink RX6 41 RX5 ∈ xw := xw_in (List.mem_of_getElem? (i := 256) (by decide +kernel)) rfl
set_option maxRecDepth 20000 in
theorem mq_257 : Cond.instantiable RX5 2 ∈ xw := xw_in (List.mem_of_getElem? (i := 257) (by decide +kernel)) rfl
set_option maxRecDepth 20000 in
theorem mq_258 : Cond.methodLink RX6 43 yX5_init ∈ xw := xw_in (List.mem_of_getElem? (i := 258) (by decide +kernel)) rfl
set_option maxRecDepth 20000 in
theorem mq_259 : Cond.instanceMethod yX5_init ∈ xw := xw_in (List.mem_of_getElem? (i := 259) (by decide +kernel)) rfl
set_option maxRecDepth 20000 in
theorem mq_260 : Cond.code yX5_init cX5_init 2 none ∈ xw := xw_in (List.mem_of_getElem? (i := 260) (by decide +kernel)) rfl
set_option maxRecDepth 20000 in
theorem mq_261 : Cond.methodLink RX5 3 objectInit ∈ xw := xw_in (List.mem_of_getElem? (i := 261) (by decide +kernel)) rfl
set_option maxRecDepth 20000 in
theorem mq_262 : Cond.fieldLink RX5 15 "SpanningTreeProtocol$Topology" "net" "LSpanningTreeProtocol$Network;" ∈ xw := xw_in (List.mem_of_getElem? (i := 262) (by decide +kernel)) rfl
set_option maxRecDepth 20000 in
theorem mq_263 : Cond.fieldLink RX5 9 "SpanningTreeProtocol$Topology" "label" "[I" ∈ xw := xw_in (List.mem_of_getElem? (i := 263) (by decide +kernel)) rfl
set_option maxRecDepth 20000 in
theorem mq_270 : Cond.fieldLink RX6 15 "SpanningTreeProtocol" "network" "LSpanningTreeProtocol$Network;" ∈ xw := xw_in (List.mem_of_getElem? (i := 270) (by decide +kernel)) rfl
set_option maxRecDepth 20000 in
theorem mq_271 : Cond.fieldLink RX6 21 "SpanningTreeProtocol" "election" "LSpanningTreeProtocol$Election;" ∈ xw := xw_in (List.mem_of_getElem? (i := 271) (by decide +kernel)) rfl
set_option maxRecDepth 20000 in
theorem mq_272 : Cond.fieldLink RX6 30 "SpanningTreeProtocol" "ticker" "LSpanningTreeProtocol$Ticker;" ∈ xw := xw_in (List.mem_of_getElem? (i := 272) (by decide +kernel)) rfl
set_option maxRecDepth 20000 in
theorem mq_273 : Cond.fieldLink RX6 37 "SpanningTreeProtocol" "frame" "LSpanningTreeProtocol$Frame;" ∈ xw := xw_in (List.mem_of_getElem? (i := 273) (by decide +kernel)) rfl
set_option maxRecDepth 20000 in
theorem mq_274 : Cond.fieldLink RX6 44 "SpanningTreeProtocol" "topology" "LSpanningTreeProtocol$Topology;" ∈ xw := xw_in (List.mem_of_getElem? (i := 274) (by decide +kernel)) rfl
set_option maxRecDepth 20000 in
theorem mq_275 : Cond.fieldLink RX6 48 "SpanningTreeProtocol" "saved" "[LSpanningTreeProtocol$Network;" ∈ xw := xw_in (List.mem_of_getElem? (i := 275) (by decide +kernel)) rfl
set_option maxRecDepth 20000 in
theorem mq_289 : Cond.methodLink RL 13 yX6_addBridge ∈ xw := xw_in (List.mem_of_getElem? (i := 289) (by decide +kernel)) rfl
set_option maxRecDepth 20000 in
theorem mq_290 : Cond.instanceMethod yX6_addBridge ∈ xw := xw_in (List.mem_of_getElem? (i := 290) (by decide +kernel)) rfl
set_option maxRecDepth 20000 in
theorem mq_291 : Cond.selects RX6 yX6_addBridge yX6_addBridge ∈ xw := xw_in (List.mem_of_getElem? (i := 291) (by decide +kernel)) rfl
set_option maxRecDepth 20000 in
theorem mq_292 : Cond.code yX6_addBridge cX6_addBridge 2 (some .int) ∈ xw := xw_in (List.mem_of_getElem? (i := 292) (by decide +kernel)) rfl
set_option maxRecDepth 20000 in
theorem mq_293 : Cond.methodLink RX6 52 yX6_isPriority ∈ xw := xw_in (List.mem_of_getElem? (i := 293) (by decide +kernel)) rfl
set_option maxRecDepth 20000 in
theorem mq_294 : Cond.static yX6_isPriority ∈ xw := xw_in (List.mem_of_getElem? (i := 294) (by decide +kernel)) rfl
set_option maxRecDepth 20000 in
theorem mq_295 : Cond.code yX6_isPriority cX6_isPriority 1 (some .boolean) ∈ xw := xw_in (List.mem_of_getElem? (i := 295) (by decide +kernel)) rfl
set_option maxRecDepth 20000 in
theorem mq_296 : Cond.methodLink RX6 60 yX3_appendBridge ∈ xw := xw_in (List.mem_of_getElem? (i := 296) (by decide +kernel)) rfl
set_option maxRecDepth 20000 in
theorem mq_297 : Cond.instanceMethod yX3_appendBridge ∈ xw := xw_in (List.mem_of_getElem? (i := 297) (by decide +kernel)) rfl
set_option maxRecDepth 20000 in
theorem mq_298 : Cond.selects RX3 yX3_appendBridge yX3_appendBridge ∈ xw := xw_in (List.mem_of_getElem? (i := 298) (by decide +kernel)) rfl
set_option maxRecDepth 20000 in
theorem mq_299 : Cond.code yX3_appendBridge cX3_appendBridge 3 (some .int) ∈ xw := xw_in (List.mem_of_getElem? (i := 299) (by decide +kernel)) rfl
set_option maxRecDepth 20000 in
theorem mq_300 : Cond.methodLink RL 18 yX6_addSegment ∈ xw := xw_in (List.mem_of_getElem? (i := 300) (by decide +kernel)) rfl
set_option maxRecDepth 20000 in
theorem mq_301 : Cond.instanceMethod yX6_addSegment ∈ xw := xw_in (List.mem_of_getElem? (i := 301) (by decide +kernel)) rfl
set_option maxRecDepth 20000 in
theorem mq_302 : Cond.selects RX6 yX6_addSegment yX6_addSegment ∈ xw := xw_in (List.mem_of_getElem? (i := 302) (by decide +kernel)) rfl
set_option maxRecDepth 20000 in
theorem mq_303 : Cond.code yX6_addSegment cX6_addSegment 1 (some .int) ∈ xw := xw_in (List.mem_of_getElem? (i := 303) (by decide +kernel)) rfl
set_option maxRecDepth 20000 in
theorem mq_304 : Cond.methodLink RX6 67 yX3_appendSegment ∈ xw := xw_in (List.mem_of_getElem? (i := 304) (by decide +kernel)) rfl
set_option maxRecDepth 20000 in
theorem mq_305 : Cond.instanceMethod yX3_appendSegment ∈ xw := xw_in (List.mem_of_getElem? (i := 305) (by decide +kernel)) rfl
set_option maxRecDepth 20000 in
theorem mq_306 : Cond.selects RX3 yX3_appendSegment yX3_appendSegment ∈ xw := xw_in (List.mem_of_getElem? (i := 306) (by decide +kernel)) rfl
set_option maxRecDepth 20000 in
theorem mq_307 : Cond.code yX3_appendSegment cX3_appendSegment 2 (some .int) ∈ xw := xw_in (List.mem_of_getElem? (i := 307) (by decide +kernel)) rfl
set_option maxRecDepth 20000 in
theorem mq_308 : Cond.methodLink RL 23 yX6_addPort ∈ xw := xw_in (List.mem_of_getElem? (i := 308) (by decide +kernel)) rfl
set_option maxRecDepth 20000 in
theorem mq_309 : Cond.instanceMethod yX6_addPort ∈ xw := xw_in (List.mem_of_getElem? (i := 309) (by decide +kernel)) rfl
set_option maxRecDepth 20000 in
theorem mq_310 : Cond.selects RX6 yX6_addPort yX6_addPort ∈ xw := xw_in (List.mem_of_getElem? (i := 310) (by decide +kernel)) rfl
set_option maxRecDepth 20000 in
theorem mq_311 : Cond.code yX6_addPort cX6_addPort 4 (some .int) ∈ xw := xw_in (List.mem_of_getElem? (i := 311) (by decide +kernel)) rfl
set_option maxRecDepth 20000 in
theorem mq_312 : Cond.methodLink RX6 71 yX3_hasBridge ∈ xw := xw_in (List.mem_of_getElem? (i := 312) (by decide +kernel)) rfl
set_option maxRecDepth 20000 in
theorem mq_313 : Cond.instanceMethod yX3_hasBridge ∈ xw := xw_in (List.mem_of_getElem? (i := 313) (by decide +kernel)) rfl
set_option maxRecDepth 20000 in
theorem mq_314 : Cond.selects RX3 yX3_hasBridge yX3_hasBridge ∈ xw := xw_in (List.mem_of_getElem? (i := 314) (by decide +kernel)) rfl
set_option maxRecDepth 20000 in
theorem mq_315 : Cond.code yX3_hasBridge cX3_hasBridge 2 (some .boolean) ∈ xw := xw_in (List.mem_of_getElem? (i := 315) (by decide +kernel)) rfl
set_option maxRecDepth 20000 in
theorem mq_316 : Cond.methodLink RX6 74 yX3_hasSegment ∈ xw := xw_in (List.mem_of_getElem? (i := 316) (by decide +kernel)) rfl
set_option maxRecDepth 20000 in
theorem mq_317 : Cond.instanceMethod yX3_hasSegment ∈ xw := xw_in (List.mem_of_getElem? (i := 317) (by decide +kernel)) rfl
set_option maxRecDepth 20000 in
theorem mq_318 : Cond.selects RX3 yX3_hasSegment yX3_hasSegment ∈ xw := xw_in (List.mem_of_getElem? (i := 318) (by decide +kernel)) rfl
set_option maxRecDepth 20000 in
theorem mq_319 : Cond.code yX3_hasSegment cX3_hasSegment 2 (some .boolean) ∈ xw := xw_in (List.mem_of_getElem? (i := 319) (by decide +kernel)) rfl
set_option maxRecDepth 20000 in
theorem mq_320 : Cond.methodLink RX6 77 yX6_isCost ∈ xw := xw_in (List.mem_of_getElem? (i := 320) (by decide +kernel)) rfl
set_option maxRecDepth 20000 in
theorem mq_321 : Cond.static yX6_isCost ∈ xw := xw_in (List.mem_of_getElem? (i := 321) (by decide +kernel)) rfl
set_option maxRecDepth 20000 in
theorem mq_322 : Cond.code yX6_isCost cX6_isCost 1 (some .boolean) ∈ xw := xw_in (List.mem_of_getElem? (i := 322) (by decide +kernel)) rfl
set_option maxRecDepth 20000 in
theorem mq_323 : Cond.methodLink RX6 83 yX3_appendPort ∈ xw := xw_in (List.mem_of_getElem? (i := 323) (by decide +kernel)) rfl
set_option maxRecDepth 20000 in
theorem mq_324 : Cond.instanceMethod yX3_appendPort ∈ xw := xw_in (List.mem_of_getElem? (i := 324) (by decide +kernel)) rfl
set_option maxRecDepth 20000 in
theorem mq_325 : Cond.selects RX3 yX3_appendPort yX3_appendPort ∈ xw := xw_in (List.mem_of_getElem? (i := 325) (by decide +kernel)) rfl
set_option maxRecDepth 20000 in
theorem mq_326 : Cond.code yX3_appendPort cX3_appendPort 5 (some .int) ∈ xw := xw_in (List.mem_of_getElem? (i := 326) (by decide +kernel)) rfl
set_option maxRecDepth 20000 in
theorem mq_327 : Cond.methodLink RX3 87 yX3_isBridgeUp ∈ xw := xw_in (List.mem_of_getElem? (i := 327) (by decide +kernel)) rfl
set_option maxRecDepth 20000 in
theorem mq_328 : Cond.instanceMethod yX3_isBridgeUp ∈ xw := xw_in (List.mem_of_getElem? (i := 328) (by decide +kernel)) rfl
set_option maxRecDepth 20000 in
theorem mq_329 : Cond.selects RX3 yX3_isBridgeUp yX3_isBridgeUp ∈ xw := xw_in (List.mem_of_getElem? (i := 329) (by decide +kernel)) rfl
set_option maxRecDepth 20000 in
theorem mq_330 : Cond.code yX3_isBridgeUp cX3_isBridgeUp 2 (some .boolean) ∈ xw := xw_in (List.mem_of_getElem? (i := 330) (by decide +kernel)) rfl
set_option maxRecDepth 20000 in
theorem mq_331 : Cond.methodLink RL 28 yX6_addStation ∈ xw := xw_in (List.mem_of_getElem? (i := 331) (by decide +kernel)) rfl
set_option maxRecDepth 20000 in
theorem mq_332 : Cond.instanceMethod yX6_addStation ∈ xw := xw_in (List.mem_of_getElem? (i := 332) (by decide +kernel)) rfl
set_option maxRecDepth 20000 in
theorem mq_333 : Cond.selects RX6 yX6_addStation yX6_addStation ∈ xw := xw_in (List.mem_of_getElem? (i := 333) (by decide +kernel)) rfl
set_option maxRecDepth 20000 in
theorem mq_334 : Cond.code yX6_addStation cX6_addStation 2 (some .int) ∈ xw := xw_in (List.mem_of_getElem? (i := 334) (by decide +kernel)) rfl
set_option maxRecDepth 20000 in
theorem mq_335 : Cond.methodLink RX6 90 yX3_appendStation ∈ xw := xw_in (List.mem_of_getElem? (i := 335) (by decide +kernel)) rfl
set_option maxRecDepth 20000 in
theorem mq_336 : Cond.instanceMethod yX3_appendStation ∈ xw := xw_in (List.mem_of_getElem? (i := 336) (by decide +kernel)) rfl
set_option maxRecDepth 20000 in
theorem mq_337 : Cond.selects RX3 yX3_appendStation yX3_appendStation ∈ xw := xw_in (List.mem_of_getElem? (i := 337) (by decide +kernel)) rfl
set_option maxRecDepth 20000 in
theorem mq_338 : Cond.code yX3_appendStation cX3_appendStation 3 (some .int) ∈ xw := xw_in (List.mem_of_getElem? (i := 338) (by decide +kernel)) rfl
set_option maxRecDepth 20000 in
theorem mq_339 : Cond.methodLink RL 32 yX6_setPriority ∈ xw := xw_in (List.mem_of_getElem? (i := 339) (by decide +kernel)) rfl
set_option maxRecDepth 20000 in
theorem mq_340 : Cond.instanceMethod yX6_setPriority ∈ xw := xw_in (List.mem_of_getElem? (i := 340) (by decide +kernel)) rfl
set_option maxRecDepth 20000 in
theorem mq_341 : Cond.selects RX6 yX6_setPriority yX6_setPriority ∈ xw := xw_in (List.mem_of_getElem? (i := 341) (by decide +kernel)) rfl
set_option maxRecDepth 20000 in
theorem mq_342 : Cond.code yX6_setPriority cX6_setPriority 4 (some .int) ∈ xw := xw_in (List.mem_of_getElem? (i := 342) (by decide +kernel)) rfl
set_option maxRecDepth 20000 in
theorem mq_343 : Cond.methodLink RL 37 yX6_setCost ∈ xw := xw_in (List.mem_of_getElem? (i := 343) (by decide +kernel)) rfl
set_option maxRecDepth 20000 in
theorem mq_344 : Cond.instanceMethod yX6_setCost ∈ xw := xw_in (List.mem_of_getElem? (i := 344) (by decide +kernel)) rfl
set_option maxRecDepth 20000 in
theorem mq_345 : Cond.selects RX6 yX6_setCost yX6_setCost ∈ xw := xw_in (List.mem_of_getElem? (i := 345) (by decide +kernel)) rfl
set_option maxRecDepth 20000 in
theorem mq_346 : Cond.code yX6_setCost cX6_setCost 4 (some .int) ∈ xw := xw_in (List.mem_of_getElem? (i := 346) (by decide +kernel)) rfl
set_option maxRecDepth 20000 in
theorem mq_347 : Cond.methodLink RX6 97 yX3_hasPort ∈ xw := xw_in (List.mem_of_getElem? (i := 347) (by decide +kernel)) rfl
set_option maxRecDepth 20000 in
theorem mq_348 : Cond.instanceMethod yX3_hasPort ∈ xw := xw_in (List.mem_of_getElem? (i := 348) (by decide +kernel)) rfl
set_option maxRecDepth 20000 in
theorem mq_349 : Cond.selects RX3 yX3_hasPort yX3_hasPort ∈ xw := xw_in (List.mem_of_getElem? (i := 349) (by decide +kernel)) rfl
set_option maxRecDepth 20000 in
theorem mq_350 : Cond.code yX3_hasPort cX3_hasPort 2 (some .boolean) ∈ xw := xw_in (List.mem_of_getElem? (i := 350) (by decide +kernel)) rfl
set_option maxRecDepth 20000 in
theorem mq_351 : Cond.methodLink RL 41 yX6_setBridge ∈ xw := xw_in (List.mem_of_getElem? (i := 351) (by decide +kernel)) rfl
set_option maxRecDepth 20000 in
theorem mq_352 : Cond.instanceMethod yX6_setBridge ∈ xw := xw_in (List.mem_of_getElem? (i := 352) (by decide +kernel)) rfl
set_option maxRecDepth 20000 in
theorem mq_353 : Cond.selects RX6 yX6_setBridge yX6_setBridge ∈ xw := xw_in (List.mem_of_getElem? (i := 353) (by decide +kernel)) rfl
set_option maxRecDepth 20000 in
theorem mq_354 : Cond.code yX6_setBridge cX6_setBridge 3 (some .int) ∈ xw := xw_in (List.mem_of_getElem? (i := 354) (by decide +kernel)) rfl
set_option maxRecDepth 20000 in
theorem mq_355 : Cond.methodLink RX6 103 yX3_switchBridge ∈ xw := xw_in (List.mem_of_getElem? (i := 355) (by decide +kernel)) rfl
set_option maxRecDepth 20000 in
theorem mq_356 : Cond.instanceMethod yX3_switchBridge ∈ xw := xw_in (List.mem_of_getElem? (i := 356) (by decide +kernel)) rfl
set_option maxRecDepth 20000 in
theorem mq_357 : Cond.selects RX3 yX3_switchBridge yX3_switchBridge ∈ xw := xw_in (List.mem_of_getElem? (i := 357) (by decide +kernel)) rfl
set_option maxRecDepth 20000 in
theorem mq_358 : Cond.code yX3_switchBridge cX3_switchBridge 5 (some .int) ∈ xw := xw_in (List.mem_of_getElem? (i := 358) (by decide +kernel)) rfl
set_option maxRecDepth 20000 in
theorem mq_359 : Cond.methodLink RX3 91 yX3_resetPort ∈ xw := xw_in (List.mem_of_getElem? (i := 359) (by decide +kernel)) rfl
set_option maxRecDepth 20000 in
theorem mq_361 : Cond.instanceMethod yX3_resetPort ∈ xw := xw_in (List.mem_of_getElem? (i := 361) (by decide +kernel)) rfl
set_option maxRecDepth 20000 in
theorem mq_362 : Cond.code yX3_resetPort cX3_resetPort 2 none ∈ xw := xw_in (List.mem_of_getElem? (i := 362) (by decide +kernel)) rfl
set_option maxRecDepth 20000 in
theorem mq_363 : Cond.methodLink RX3 95 yX3_isActive ∈ xw := xw_in (List.mem_of_getElem? (i := 363) (by decide +kernel)) rfl
set_option maxRecDepth 20000 in
theorem mq_364 : Cond.instanceMethod yX3_isActive ∈ xw := xw_in (List.mem_of_getElem? (i := 364) (by decide +kernel)) rfl
set_option maxRecDepth 20000 in
theorem mq_365 : Cond.selects RX3 yX3_isActive yX3_isActive ∈ xw := xw_in (List.mem_of_getElem? (i := 365) (by decide +kernel)) rfl
set_option maxRecDepth 20000 in
theorem mq_366 : Cond.code yX3_isActive cX3_isActive 2 (some .boolean) ∈ xw := xw_in (List.mem_of_getElem? (i := 366) (by decide +kernel)) rfl
set_option maxRecDepth 20000 in
theorem mq_367 : Cond.methodLink RX3 98 yX3_forgetEntriesWith ∈ xw := xw_in (List.mem_of_getElem? (i := 367) (by decide +kernel)) rfl
set_option maxRecDepth 20000 in
theorem mq_369 : Cond.instanceMethod yX3_forgetEntriesWith ∈ xw := xw_in (List.mem_of_getElem? (i := 369) (by decide +kernel)) rfl
set_option maxRecDepth 20000 in
theorem mq_370 : Cond.code yX3_forgetEntriesWith cX3_forgetEntriesWith 3 none ∈ xw := xw_in (List.mem_of_getElem? (i := 370) (by decide +kernel)) rfl
set_option maxRecDepth 20000 in
theorem mq_371 : Cond.methodLink RL 46 yX6_setPort ∈ xw := xw_in (List.mem_of_getElem? (i := 371) (by decide +kernel)) rfl
set_option maxRecDepth 20000 in
theorem mq_372 : Cond.instanceMethod yX6_setPort ∈ xw := xw_in (List.mem_of_getElem? (i := 372) (by decide +kernel)) rfl
set_option maxRecDepth 20000 in
theorem mq_373 : Cond.selects RX6 yX6_setPort yX6_setPort ∈ xw := xw_in (List.mem_of_getElem? (i := 373) (by decide +kernel)) rfl
set_option maxRecDepth 20000 in
theorem mq_374 : Cond.code yX6_setPort cX6_setPort 3 (some .int) ∈ xw := xw_in (List.mem_of_getElem? (i := 374) (by decide +kernel)) rfl
set_option maxRecDepth 20000 in
theorem mq_375 : Cond.methodLink RX6 107 yX3_switchPort ∈ xw := xw_in (List.mem_of_getElem? (i := 375) (by decide +kernel)) rfl
set_option maxRecDepth 20000 in
theorem mq_376 : Cond.instanceMethod yX3_switchPort ∈ xw := xw_in (List.mem_of_getElem? (i := 376) (by decide +kernel)) rfl
set_option maxRecDepth 20000 in
theorem mq_377 : Cond.selects RX3 yX3_switchPort yX3_switchPort ∈ xw := xw_in (List.mem_of_getElem? (i := 377) (by decide +kernel)) rfl
set_option maxRecDepth 20000 in
theorem mq_378 : Cond.code yX3_switchPort cX3_switchPort 4 (some .int) ∈ xw := xw_in (List.mem_of_getElem? (i := 378) (by decide +kernel)) rfl
set_option maxRecDepth 20000 in
theorem mq_379 : Cond.methodLink RL 50 yX6_moveStation ∈ xw := xw_in (List.mem_of_getElem? (i := 379) (by decide +kernel)) rfl
set_option maxRecDepth 20000 in
theorem mq_380 : Cond.instanceMethod yX6_moveStation ∈ xw := xw_in (List.mem_of_getElem? (i := 380) (by decide +kernel)) rfl
set_option maxRecDepth 20000 in
theorem mq_381 : Cond.selects RX6 yX6_moveStation yX6_moveStation ∈ xw := xw_in (List.mem_of_getElem? (i := 381) (by decide +kernel)) rfl
set_option maxRecDepth 20000 in
theorem mq_382 : Cond.code yX6_moveStation cX6_moveStation 4 (some .int) ∈ xw := xw_in (List.mem_of_getElem? (i := 382) (by decide +kernel)) rfl
set_option maxRecDepth 20000 in
theorem mq_383 : Cond.methodLink RX6 110 yX3_hasStation ∈ xw := xw_in (List.mem_of_getElem? (i := 383) (by decide +kernel)) rfl
set_option maxRecDepth 20000 in
theorem mq_384 : Cond.instanceMethod yX3_hasStation ∈ xw := xw_in (List.mem_of_getElem? (i := 384) (by decide +kernel)) rfl
set_option maxRecDepth 20000 in
theorem mq_385 : Cond.selects RX3 yX3_hasStation yX3_hasStation ∈ xw := xw_in (List.mem_of_getElem? (i := 385) (by decide +kernel)) rfl
set_option maxRecDepth 20000 in
theorem mq_386 : Cond.code yX3_hasStation cX3_hasStation 2 (some .boolean) ∈ xw := xw_in (List.mem_of_getElem? (i := 386) (by decide +kernel)) rfl
set_option maxRecDepth 20000 in
theorem mq_387 : Cond.methodLink RL 54 yX6_tick ∈ xw := xw_in (List.mem_of_getElem? (i := 387) (by decide +kernel)) rfl
set_option maxRecDepth 20000 in
theorem mq_388 : Cond.instanceMethod yX6_tick ∈ xw := xw_in (List.mem_of_getElem? (i := 388) (by decide +kernel)) rfl
set_option maxRecDepth 20000 in
theorem mq_389 : Cond.selects RX6 yX6_tick yX6_tick ∈ xw := xw_in (List.mem_of_getElem? (i := 389) (by decide +kernel)) rfl
set_option maxRecDepth 20000 in
theorem mq_390 : Cond.code yX6_tick cX6_tick 3 (some .int) ∈ xw := xw_in (List.mem_of_getElem? (i := 390) (by decide +kernel)) rfl
set_option maxRecDepth 20000 in
theorem mq_391 : Cond.methodLink RX6 116 yX0_elect ∈ xw := xw_in (List.mem_of_getElem? (i := 391) (by decide +kernel)) rfl
set_option maxRecDepth 20000 in
theorem mq_392 : Cond.instanceMethod yX0_elect ∈ xw := xw_in (List.mem_of_getElem? (i := 392) (by decide +kernel)) rfl
set_option maxRecDepth 20000 in
theorem mq_393 : Cond.selects RX0 yX0_elect yX0_elect ∈ xw := xw_in (List.mem_of_getElem? (i := 393) (by decide +kernel)) rfl
set_option maxRecDepth 20000 in
theorem mq_394 : Cond.code yX0_elect cX0_elect 4 (some .boolean) ∈ xw := xw_in (List.mem_of_getElem? (i := 394) (by decide +kernel)) rfl
set_option maxRecDepth 20000 in
theorem mq_395 : Cond.methodLink RX0 35 yX0_findBestOffers ∈ xw := xw_in (List.mem_of_getElem? (i := 395) (by decide +kernel)) rfl
set_option maxRecDepth 20000 in
theorem mq_397 : Cond.instanceMethod yX0_findBestOffers ∈ xw := xw_in (List.mem_of_getElem? (i := 397) (by decide +kernel)) rfl
set_option maxRecDepth 20000 in
theorem mq_398 : Cond.code yX0_findBestOffers cX0_findBestOffers 2 none ∈ xw := xw_in (List.mem_of_getElem? (i := 398) (by decide +kernel)) rfl
set_option maxRecDepth 20000 in
theorem mq_399 : Cond.methodLink RX0 55 yX0_hasOffer ∈ xw := xw_in (List.mem_of_getElem? (i := 399) (by decide +kernel)) rfl
set_option maxRecDepth 20000 in
theorem mq_401 : Cond.instanceMethod yX0_hasOffer ∈ xw := xw_in (List.mem_of_getElem? (i := 401) (by decide +kernel)) rfl
set_option maxRecDepth 20000 in
theorem mq_402 : Cond.code yX0_hasOffer cX0_hasOffer 2 (some .boolean) ∈ xw := xw_in (List.mem_of_getElem? (i := 402) (by decide +kernel)) rfl
set_option maxRecDepth 20000 in
theorem mq_403 : Cond.methodLink RX0 62 yX3_isActive ∈ xw := xw_in (List.mem_of_getElem? (i := 403) (by decide +kernel)) rfl
set_option maxRecDepth 20000 in
theorem mq_404 : Cond.methodLink RX0 65 yX3_storesMessage ∈ xw := xw_in (List.mem_of_getElem? (i := 404) (by decide +kernel)) rfl
set_option maxRecDepth 20000 in
theorem mq_405 : Cond.instanceMethod yX3_storesMessage ∈ xw := xw_in (List.mem_of_getElem? (i := 405) (by decide +kernel)) rfl
set_option maxRecDepth 20000 in
theorem mq_406 : Cond.selects RX3 yX3_storesMessage yX3_storesMessage ∈ xw := xw_in (List.mem_of_getElem? (i := 406) (by decide +kernel)) rfl
set_option maxRecDepth 20000 in
theorem mq_407 : Cond.code yX3_storesMessage cX3_storesMessage 2 (some .boolean) ∈ xw := xw_in (List.mem_of_getElem? (i := 407) (by decide +kernel)) rfl
set_option maxRecDepth 20000 in
theorem mq_408 : Cond.methodLink RX0 68 yX0_isFromOwnBridge ∈ xw := xw_in (List.mem_of_getElem? (i := 408) (by decide +kernel)) rfl
set_option maxRecDepth 20000 in
theorem mq_410 : Cond.instanceMethod yX0_isFromOwnBridge ∈ xw := xw_in (List.mem_of_getElem? (i := 410) (by decide +kernel)) rfl
set_option maxRecDepth 20000 in
theorem mq_411 : Cond.code yX0_isFromOwnBridge cX0_isFromOwnBridge 2 (some .boolean) ∈ xw := xw_in (List.mem_of_getElem? (i := 411) (by decide +kernel)) rfl
set_option maxRecDepth 20000 in
theorem mq_412 : Cond.methodLink RX0 74 yX2_senderOf ∈ xw := xw_in (List.mem_of_getElem? (i := 412) (by decide +kernel)) rfl
set_option maxRecDepth 20000 in
theorem mq_413 : Cond.static yX2_senderOf ∈ xw := xw_in (List.mem_of_getElem? (i := 413) (by decide +kernel)) rfl
set_option maxRecDepth 20000 in
theorem mq_414 : Cond.code yX2_senderOf cX2_senderOf 2 (some .int) ∈ xw := xw_in (List.mem_of_getElem? (i := 414) (by decide +kernel)) rfl
set_option maxRecDepth 20000 in
theorem mq_415 : Cond.constantLong RX2 11 (255) ∈ xw := xw_in (List.mem_of_getElem? (i := 415) (by decide +kernel)) rfl
set_option maxRecDepth 20000 in
theorem mq_416 : Cond.methodLink RX0 83 yX3_identifierOf ∈ xw := xw_in (List.mem_of_getElem? (i := 416) (by decide +kernel)) rfl
set_option maxRecDepth 20000 in
theorem mq_417 : Cond.instanceMethod yX3_identifierOf ∈ xw := xw_in (List.mem_of_getElem? (i := 417) (by decide +kernel)) rfl
set_option maxRecDepth 20000 in
theorem mq_418 : Cond.selects RX3 yX3_identifierOf yX3_identifierOf ∈ xw := xw_in (List.mem_of_getElem? (i := 418) (by decide +kernel)) rfl
set_option maxRecDepth 20000 in
theorem mq_419 : Cond.code yX3_identifierOf cX3_identifierOf 2 (some .int) ∈ xw := xw_in (List.mem_of_getElem? (i := 419) (by decide +kernel)) rfl
set_option maxRecDepth 20000 in
theorem mq_420 : Cond.methodLink RX0 59 yX0_considerOffer ∈ xw := xw_in (List.mem_of_getElem? (i := 420) (by decide +kernel)) rfl
set_option maxRecDepth 20000 in
theorem mq_422 : Cond.instanceMethod yX0_considerOffer ∈ xw := xw_in (List.mem_of_getElem? (i := 422) (by decide +kernel)) rfl
set_option maxRecDepth 20000 in
theorem mq_423 : Cond.code yX0_considerOffer cX0_considerOffer 5 none ∈ xw := xw_in (List.mem_of_getElem? (i := 423) (by decide +kernel)) rfl
set_option maxRecDepth 20000 in
theorem mq_424 : Cond.methodLink RX0 89 yX2_withCostAdded ∈ xw := xw_in (List.mem_of_getElem? (i := 424) (by decide +kernel)) rfl
set_option maxRecDepth 20000 in
theorem mq_425 : Cond.static yX2_withCostAdded ∈ xw := xw_in (List.mem_of_getElem? (i := 425) (by decide +kernel)) rfl
set_option maxRecDepth 20000 in
theorem mq_426 : Cond.code yX2_withCostAdded cX2_withCostAdded 3 (some .long) ∈ xw := xw_in (List.mem_of_getElem? (i := 426) (by decide +kernel)) rfl
set_option maxRecDepth 20000 in
theorem mq_427 : Cond.methodLink RX0 44 yX0_chooseRoot ∈ xw := xw_in (List.mem_of_getElem? (i := 427) (by decide +kernel)) rfl
set_option maxRecDepth 20000 in
theorem mq_429 : Cond.instanceMethod yX0_chooseRoot ∈ xw := xw_in (List.mem_of_getElem? (i := 429) (by decide +kernel)) rfl
set_option maxRecDepth 20000 in
theorem mq_430 : Cond.code yX0_chooseRoot cX0_chooseRoot 4 none ∈ xw := xw_in (List.mem_of_getElem? (i := 430) (by decide +kernel)) rfl
set_option maxRecDepth 20000 in
theorem mq_431 : Cond.methodLink RX0 93 yX2_rootOf ∈ xw := xw_in (List.mem_of_getElem? (i := 431) (by decide +kernel)) rfl
set_option maxRecDepth 20000 in
theorem mq_432 : Cond.static yX2_rootOf ∈ xw := xw_in (List.mem_of_getElem? (i := 432) (by decide +kernel)) rfl
set_option maxRecDepth 20000 in
theorem mq_433 : Cond.code yX2_rootOf cX2_rootOf 2 (some .int) ∈ xw := xw_in (List.mem_of_getElem? (i := 433) (by decide +kernel)) rfl
set_option maxRecDepth 20000 in
theorem mq_434 : Cond.methodLink RX0 96 yX2_costOf ∈ xw := xw_in (List.mem_of_getElem? (i := 434) (by decide +kernel)) rfl
set_option maxRecDepth 20000 in
theorem mq_435 : Cond.static yX2_costOf ∈ xw := xw_in (List.mem_of_getElem? (i := 435) (by decide +kernel)) rfl
set_option maxRecDepth 20000 in
theorem mq_436 : Cond.code yX2_costOf cX2_costOf 2 (some .int) ∈ xw := xw_in (List.mem_of_getElem? (i := 436) (by decide +kernel)) rfl
set_option maxRecDepth 20000 in
theorem mq_437 : Cond.constantLong RX2 9 (16777215) ∈ xw := xw_in (List.mem_of_getElem? (i := 437) (by decide +kernel)) rfl
set_option maxRecDepth 20000 in
theorem mq_438 : Cond.methodLink RX0 51 yX0_roleFor ∈ xw := xw_in (List.mem_of_getElem? (i := 438) (by decide +kernel)) rfl
set_option maxRecDepth 20000 in
theorem mq_440 : Cond.instanceMethod yX0_roleFor ∈ xw := xw_in (List.mem_of_getElem? (i := 440) (by decide +kernel)) rfl
set_option maxRecDepth 20000 in
theorem mq_441 : Cond.code yX0_roleFor cX0_roleFor 2 (some .int) ∈ xw := xw_in (List.mem_of_getElem? (i := 441) (by decide +kernel)) rfl
set_option maxRecDepth 20000 in
theorem mq_442 : Cond.methodLink RX0 99 yX0_ownMessage ∈ xw := xw_in (List.mem_of_getElem? (i := 442) (by decide +kernel)) rfl
set_option maxRecDepth 20000 in
theorem mq_443 : Cond.instanceMethod yX0_ownMessage ∈ xw := xw_in (List.mem_of_getElem? (i := 443) (by decide +kernel)) rfl
set_option maxRecDepth 20000 in
theorem mq_444 : Cond.selects RX0 yX0_ownMessage yX0_ownMessage ∈ xw := xw_in (List.mem_of_getElem? (i := 444) (by decide +kernel)) rfl
set_option maxRecDepth 20000 in
theorem mq_445 : Cond.code yX0_ownMessage cX0_ownMessage 3 (some .long) ∈ xw := xw_in (List.mem_of_getElem? (i := 445) (by decide +kernel)) rfl
set_option maxRecDepth 20000 in
theorem mq_446 : Cond.methodLink RX0 103 yX2_of ∈ xw := xw_in (List.mem_of_getElem? (i := 446) (by decide +kernel)) rfl
set_option maxRecDepth 20000 in
theorem mq_447 : Cond.static yX2_of ∈ xw := xw_in (List.mem_of_getElem? (i := 447) (by decide +kernel)) rfl
set_option maxRecDepth 20000 in
theorem mq_448 : Cond.code yX2_of cX2_of 4 (some .long) ∈ xw := xw_in (List.mem_of_getElem? (i := 448) (by decide +kernel)) rfl
set_option maxRecDepth 20000 in
theorem mq_449 : Cond.methodLink RX6 120 yX4_makeTick ∈ xw := xw_in (List.mem_of_getElem? (i := 449) (by decide +kernel)) rfl
set_option maxRecDepth 20000 in
theorem mq_450 : Cond.instanceMethod yX4_makeTick ∈ xw := xw_in (List.mem_of_getElem? (i := 450) (by decide +kernel)) rfl
set_option maxRecDepth 20000 in
theorem mq_451 : Cond.selects RX4 yX4_makeTick yX4_makeTick ∈ xw := xw_in (List.mem_of_getElem? (i := 451) (by decide +kernel)) rfl
set_option maxRecDepth 20000 in
theorem mq_452 : Cond.code yX4_makeTick cX4_makeTick 3 (some .boolean) ∈ xw := xw_in (List.mem_of_getElem? (i := 452) (by decide +kernel)) rfl
set_option maxRecDepth 20000 in
theorem mq_453 : Cond.methodLink RX4 33 yX4_sendMessages ∈ xw := xw_in (List.mem_of_getElem? (i := 453) (by decide +kernel)) rfl
set_option maxRecDepth 20000 in
theorem mq_455 : Cond.instanceMethod yX4_sendMessages ∈ xw := xw_in (List.mem_of_getElem? (i := 455) (by decide +kernel)) rfl
set_option maxRecDepth 20000 in
theorem mq_456 : Cond.code yX4_sendMessages cX4_sendMessages 3 none ∈ xw := xw_in (List.mem_of_getElem? (i := 456) (by decide +kernel)) rfl
set_option maxRecDepth 20000 in
theorem mq_457 : Cond.methodLink RX4 68 yX4_ageToSend ∈ xw := xw_in (List.mem_of_getElem? (i := 457) (by decide +kernel)) rfl
set_option maxRecDepth 20000 in
theorem mq_459 : Cond.instanceMethod yX4_ageToSend ∈ xw := xw_in (List.mem_of_getElem? (i := 459) (by decide +kernel)) rfl
set_option maxRecDepth 20000 in
theorem mq_460 : Cond.code yX4_ageToSend cX4_ageToSend 3 (some .int) ∈ xw := xw_in (List.mem_of_getElem? (i := 460) (by decide +kernel)) rfl
set_option maxRecDepth 20000 in
theorem mq_461 : Cond.methodLink RX4 75 yX0_ownMessage ∈ xw := xw_in (List.mem_of_getElem? (i := 461) (by decide +kernel)) rfl
set_option maxRecDepth 20000 in
theorem mq_462 : Cond.methodLink RX4 79 yX4_rankSender ∈ xw := xw_in (List.mem_of_getElem? (i := 462) (by decide +kernel)) rfl
set_option maxRecDepth 20000 in
theorem mq_464 : Cond.instanceMethod yX4_rankSender ∈ xw := xw_in (List.mem_of_getElem? (i := 464) (by decide +kernel)) rfl
set_option maxRecDepth 20000 in
theorem mq_465 : Cond.code yX4_rankSender cX4_rankSender 3 none ∈ xw := xw_in (List.mem_of_getElem? (i := 465) (by decide +kernel)) rfl
set_option maxRecDepth 20000 in
theorem mq_466 : Cond.methodLink RX4 94 yX4_isBetterSender ∈ xw := xw_in (List.mem_of_getElem? (i := 466) (by decide +kernel)) rfl
set_option maxRecDepth 20000 in
theorem mq_468 : Cond.instanceMethod yX4_isBetterSender ∈ xw := xw_in (List.mem_of_getElem? (i := 468) (by decide +kernel)) rfl
set_option maxRecDepth 20000 in
theorem mq_469 : Cond.code yX4_isBetterSender cX4_isBetterSender 3 (some .boolean) ∈ xw := xw_in (List.mem_of_getElem? (i := 469) (by decide +kernel)) rfl
set_option maxRecDepth 20000 in
theorem mq_470 : Cond.methodLink RX4 42 yX4_takesMessage ∈ xw := xw_in (List.mem_of_getElem? (i := 470) (by decide +kernel)) rfl
set_option maxRecDepth 20000 in
theorem mq_472 : Cond.instanceMethod yX4_takesMessage ∈ xw := xw_in (List.mem_of_getElem? (i := 472) (by decide +kernel)) rfl
set_option maxRecDepth 20000 in
theorem mq_473 : Cond.code yX4_takesMessage cX4_takesMessage 4 (some .boolean) ∈ xw := xw_in (List.mem_of_getElem? (i := 473) (by decide +kernel)) rfl
set_option maxRecDepth 20000 in
theorem mq_474 : Cond.methodLink RX4 98 yX3_isActive ∈ xw := xw_in (List.mem_of_getElem? (i := 474) (by decide +kernel)) rfl
set_option maxRecDepth 20000 in
theorem mq_475 : Cond.methodLink RX4 101 yX4_accepts ∈ xw := xw_in (List.mem_of_getElem? (i := 475) (by decide +kernel)) rfl
set_option maxRecDepth 20000 in
theorem mq_477 : Cond.instanceMethod yX4_accepts ∈ xw := xw_in (List.mem_of_getElem? (i := 477) (by decide +kernel)) rfl
set_option maxRecDepth 20000 in
theorem mq_478 : Cond.code yX4_accepts cX4_accepts 6 (some .boolean) ∈ xw := xw_in (List.mem_of_getElem? (i := 478) (by decide +kernel)) rfl
set_option maxRecDepth 20000 in
theorem mq_479 : Cond.methodLink RX4 108 yX3_storesMessage ∈ xw := xw_in (List.mem_of_getElem? (i := 479) (by decide +kernel)) rfl
set_option maxRecDepth 20000 in
theorem mq_480 : Cond.methodLink RX4 111 yX2_haveSameSource ∈ xw := xw_in (List.mem_of_getElem? (i := 480) (by decide +kernel)) rfl
set_option maxRecDepth 20000 in
theorem mq_481 : Cond.static yX2_haveSameSource ∈ xw := xw_in (List.mem_of_getElem? (i := 481) (by decide +kernel)) rfl
set_option maxRecDepth 20000 in
theorem mq_482 : Cond.code yX2_haveSameSource cX2_haveSameSource 4 (some .boolean) ∈ xw := xw_in (List.mem_of_getElem? (i := 482) (by decide +kernel)) rfl
set_option maxRecDepth 20000 in
theorem mq_483 : Cond.constantLong RX2 13 (65535) ∈ xw := xw_in (List.mem_of_getElem? (i := 483) (by decide +kernel)) rfl
set_option maxRecDepth 20000 in
theorem mq_484 : Cond.methodLink RX4 46 yX3_ageMessage ∈ xw := xw_in (List.mem_of_getElem? (i := 484) (by decide +kernel)) rfl
set_option maxRecDepth 20000 in
theorem mq_485 : Cond.instanceMethod yX3_ageMessage ∈ xw := xw_in (List.mem_of_getElem? (i := 485) (by decide +kernel)) rfl
set_option maxRecDepth 20000 in
theorem mq_486 : Cond.selects RX3 yX3_ageMessage yX3_ageMessage ∈ xw := xw_in (List.mem_of_getElem? (i := 486) (by decide +kernel)) rfl
set_option maxRecDepth 20000 in
theorem mq_487 : Cond.code yX3_ageMessage cX3_ageMessage 2 none ∈ xw := xw_in (List.mem_of_getElem? (i := 487) (by decide +kernel)) rfl
set_option maxRecDepth 20000 in
theorem mq_488 : Cond.methodLink RX4 50 yX0_elect ∈ xw := xw_in (List.mem_of_getElem? (i := 488) (by decide +kernel)) rfl
set_option maxRecDepth 20000 in
theorem mq_489 : Cond.methodLink RX4 56 yX4_moveStates ∈ xw := xw_in (List.mem_of_getElem? (i := 489) (by decide +kernel)) rfl
set_option maxRecDepth 20000 in
theorem mq_491 : Cond.instanceMethod yX4_moveStates ∈ xw := xw_in (List.mem_of_getElem? (i := 491) (by decide +kernel)) rfl
set_option maxRecDepth 20000 in
theorem mq_492 : Cond.code yX4_moveStates cX4_moveStates 4 (some .boolean) ∈ xw := xw_in (List.mem_of_getElem? (i := 492) (by decide +kernel)) rfl
set_option maxRecDepth 20000 in
theorem mq_493 : Cond.methodLink RX4 120 yX4_moveState ∈ xw := xw_in (List.mem_of_getElem? (i := 493) (by decide +kernel)) rfl
set_option maxRecDepth 20000 in
theorem mq_495 : Cond.instanceMethod yX4_moveState ∈ xw := xw_in (List.mem_of_getElem? (i := 495) (by decide +kernel)) rfl
set_option maxRecDepth 20000 in
theorem mq_496 : Cond.code yX4_moveState cX4_moveState 3 none ∈ xw := xw_in (List.mem_of_getElem? (i := 496) (by decide +kernel)) rfl
set_option maxRecDepth 20000 in
theorem mq_497 : Cond.methodLink RX4 124 yX4_enterState ∈ xw := xw_in (List.mem_of_getElem? (i := 497) (by decide +kernel)) rfl
set_option maxRecDepth 20000 in
theorem mq_499 : Cond.instanceMethod yX4_enterState ∈ xw := xw_in (List.mem_of_getElem? (i := 499) (by decide +kernel)) rfl
set_option maxRecDepth 20000 in
theorem mq_500 : Cond.code yX4_enterState cX4_enterState 4 none ∈ xw := xw_in (List.mem_of_getElem? (i := 500) (by decide +kernel)) rfl
set_option maxRecDepth 20000 in
theorem mq_501 : Cond.methodLink RX4 128 yX4_moveTowardsForwarding ∈ xw := xw_in (List.mem_of_getElem? (i := 501) (by decide +kernel)) rfl
set_option maxRecDepth 20000 in
theorem mq_503 : Cond.instanceMethod yX4_moveTowardsForwarding ∈ xw := xw_in (List.mem_of_getElem? (i := 503) (by decide +kernel)) rfl
set_option maxRecDepth 20000 in
theorem mq_504 : Cond.code yX4_moveTowardsForwarding cX4_moveTowardsForwarding 3 none ∈ xw := xw_in (List.mem_of_getElem? (i := 504) (by decide +kernel)) rfl
set_option maxRecDepth 20000 in
theorem mq_505 : Cond.methodLink RX4 59 yX3_ageEntries ∈ xw := xw_in (List.mem_of_getElem? (i := 505) (by decide +kernel)) rfl
set_option maxRecDepth 20000 in
theorem mq_506 : Cond.instanceMethod yX3_ageEntries ∈ xw := xw_in (List.mem_of_getElem? (i := 506) (by decide +kernel)) rfl
set_option maxRecDepth 20000 in
theorem mq_507 : Cond.selects RX3 yX3_ageEntries yX3_ageEntries ∈ xw := xw_in (List.mem_of_getElem? (i := 507) (by decide +kernel)) rfl
set_option maxRecDepth 20000 in
theorem mq_508 : Cond.code yX3_ageEntries cX3_ageEntries 2 none ∈ xw := xw_in (List.mem_of_getElem? (i := 508) (by decide +kernel)) rfl
set_option maxRecDepth 20000 in
theorem mq_509 : Cond.methodLink RL 58 yX6_settle ∈ xw := xw_in (List.mem_of_getElem? (i := 509) (by decide +kernel)) rfl
set_option maxRecDepth 20000 in
theorem mq_510 : Cond.instanceMethod yX6_settle ∈ xw := xw_in (List.mem_of_getElem? (i := 510) (by decide +kernel)) rfl
set_option maxRecDepth 20000 in
theorem mq_511 : Cond.selects RX6 yX6_settle yX6_settle ∈ xw := xw_in (List.mem_of_getElem? (i := 511) (by decide +kernel)) rfl
set_option maxRecDepth 20000 in
theorem mq_512 : Cond.code yX6_settle cX6_settle 5 (some .int) ∈ xw := xw_in (List.mem_of_getElem? (i := 512) (by decide +kernel)) rfl
set_option maxRecDepth 20000 in
theorem mq_513 : Cond.methodLink RL 62 yX6_identifier ∈ xw := xw_in (List.mem_of_getElem? (i := 513) (by decide +kernel)) rfl
set_option maxRecDepth 20000 in
theorem mq_514 : Cond.instanceMethod yX6_identifier ∈ xw := xw_in (List.mem_of_getElem? (i := 514) (by decide +kernel)) rfl
set_option maxRecDepth 20000 in
theorem mq_515 : Cond.selects RX6 yX6_identifier yX6_identifier ∈ xw := xw_in (List.mem_of_getElem? (i := 515) (by decide +kernel)) rfl
set_option maxRecDepth 20000 in
theorem mq_516 : Cond.code yX6_identifier cX6_identifier 2 (some .int) ∈ xw := xw_in (List.mem_of_getElem? (i := 516) (by decide +kernel)) rfl
set_option maxRecDepth 20000 in
theorem mq_517 : Cond.methodLink RX6 126 yX3_identifierOf ∈ xw := xw_in (List.mem_of_getElem? (i := 517) (by decide +kernel)) rfl
set_option maxRecDepth 20000 in
theorem mq_518 : Cond.methodLink RL 66 yX6_root ∈ xw := xw_in (List.mem_of_getElem? (i := 518) (by decide +kernel)) rfl
set_option maxRecDepth 20000 in
theorem mq_519 : Cond.instanceMethod yX6_root ∈ xw := xw_in (List.mem_of_getElem? (i := 519) (by decide +kernel)) rfl
set_option maxRecDepth 20000 in
theorem mq_520 : Cond.selects RX6 yX6_root yX6_root ∈ xw := xw_in (List.mem_of_getElem? (i := 520) (by decide +kernel)) rfl
set_option maxRecDepth 20000 in
theorem mq_521 : Cond.code yX6_root cX6_root 2 (some .int) ∈ xw := xw_in (List.mem_of_getElem? (i := 521) (by decide +kernel)) rfl
set_option maxRecDepth 20000 in
theorem mq_522 : Cond.methodLink RX6 129 yX3_isBridgeUp ∈ xw := xw_in (List.mem_of_getElem? (i := 522) (by decide +kernel)) rfl
set_option maxRecDepth 20000 in
theorem mq_523 : Cond.methodLink RL 70 yX6_rootCost ∈ xw := xw_in (List.mem_of_getElem? (i := 523) (by decide +kernel)) rfl
set_option maxRecDepth 20000 in
theorem mq_524 : Cond.instanceMethod yX6_rootCost ∈ xw := xw_in (List.mem_of_getElem? (i := 524) (by decide +kernel)) rfl
set_option maxRecDepth 20000 in
theorem mq_525 : Cond.selects RX6 yX6_rootCost yX6_rootCost ∈ xw := xw_in (List.mem_of_getElem? (i := 525) (by decide +kernel)) rfl
set_option maxRecDepth 20000 in
theorem mq_526 : Cond.code yX6_rootCost cX6_rootCost 2 (some .int) ∈ xw := xw_in (List.mem_of_getElem? (i := 526) (by decide +kernel)) rfl
set_option maxRecDepth 20000 in
theorem mq_527 : Cond.methodLink RL 74 yX6_rootPort ∈ xw := xw_in (List.mem_of_getElem? (i := 527) (by decide +kernel)) rfl
set_option maxRecDepth 20000 in
theorem mq_528 : Cond.instanceMethod yX6_rootPort ∈ xw := xw_in (List.mem_of_getElem? (i := 528) (by decide +kernel)) rfl
set_option maxRecDepth 20000 in
theorem mq_529 : Cond.selects RX6 yX6_rootPort yX6_rootPort ∈ xw := xw_in (List.mem_of_getElem? (i := 529) (by decide +kernel)) rfl
set_option maxRecDepth 20000 in
theorem mq_530 : Cond.code yX6_rootPort cX6_rootPort 3 (some .int) ∈ xw := xw_in (List.mem_of_getElem? (i := 530) (by decide +kernel)) rfl
set_option maxRecDepth 20000 in
theorem mq_531 : Cond.methodLink RL 78 yX6_role ∈ xw := xw_in (List.mem_of_getElem? (i := 531) (by decide +kernel)) rfl
set_option maxRecDepth 20000 in
theorem mq_532 : Cond.instanceMethod yX6_role ∈ xw := xw_in (List.mem_of_getElem? (i := 532) (by decide +kernel)) rfl
set_option maxRecDepth 20000 in
theorem mq_533 : Cond.selects RX6 yX6_role yX6_role ∈ xw := xw_in (List.mem_of_getElem? (i := 533) (by decide +kernel)) rfl
set_option maxRecDepth 20000 in
theorem mq_534 : Cond.code yX6_role cX6_role 2 (some .int) ∈ xw := xw_in (List.mem_of_getElem? (i := 534) (by decide +kernel)) rfl
set_option maxRecDepth 20000 in
theorem mq_535 : Cond.methodLink RL 82 yX6_state ∈ xw := xw_in (List.mem_of_getElem? (i := 535) (by decide +kernel)) rfl
set_option maxRecDepth 20000 in
theorem mq_536 : Cond.instanceMethod yX6_state ∈ xw := xw_in (List.mem_of_getElem? (i := 536) (by decide +kernel)) rfl
set_option maxRecDepth 20000 in
theorem mq_537 : Cond.selects RX6 yX6_state yX6_state ∈ xw := xw_in (List.mem_of_getElem? (i := 537) (by decide +kernel)) rfl
set_option maxRecDepth 20000 in
theorem mq_538 : Cond.code yX6_state cX6_state 2 (some .int) ∈ xw := xw_in (List.mem_of_getElem? (i := 538) (by decide +kernel)) rfl
set_option maxRecDepth 20000 in
theorem mq_539 : Cond.methodLink RL 86 yX6_stored ∈ xw := xw_in (List.mem_of_getElem? (i := 539) (by decide +kernel)) rfl
set_option maxRecDepth 20000 in
theorem mq_540 : Cond.instanceMethod yX6_stored ∈ xw := xw_in (List.mem_of_getElem? (i := 540) (by decide +kernel)) rfl
set_option maxRecDepth 20000 in
theorem mq_541 : Cond.selects RX6 yX6_stored yX6_stored ∈ xw := xw_in (List.mem_of_getElem? (i := 541) (by decide +kernel)) rfl
set_option maxRecDepth 20000 in
theorem mq_542 : Cond.code yX6_stored cX6_stored 5 (some .int) ∈ xw := xw_in (List.mem_of_getElem? (i := 542) (by decide +kernel)) rfl
set_option maxRecDepth 20000 in
theorem mq_543 : Cond.methodLink RX6 147 yX3_storesMessage ∈ xw := xw_in (List.mem_of_getElem? (i := 543) (by decide +kernel)) rfl
set_option maxRecDepth 20000 in
theorem mq_544 : Cond.methodLink RX6 154 yX2_rootOf ∈ xw := xw_in (List.mem_of_getElem? (i := 544) (by decide +kernel)) rfl
set_option maxRecDepth 20000 in
theorem mq_545 : Cond.methodLink RX6 160 yX2_costOf ∈ xw := xw_in (List.mem_of_getElem? (i := 545) (by decide +kernel)) rfl
set_option maxRecDepth 20000 in
theorem mq_546 : Cond.methodLink RX6 163 yX2_senderOf ∈ xw := xw_in (List.mem_of_getElem? (i := 546) (by decide +kernel)) rfl
set_option maxRecDepth 20000 in
theorem mq_547 : Cond.methodLink RX6 166 yX2_senderPortOf ∈ xw := xw_in (List.mem_of_getElem? (i := 547) (by decide +kernel)) rfl
set_option maxRecDepth 20000 in
theorem mq_548 : Cond.static yX2_senderPortOf ∈ xw := xw_in (List.mem_of_getElem? (i := 548) (by decide +kernel)) rfl
set_option maxRecDepth 20000 in
theorem mq_549 : Cond.code yX2_senderPortOf cX2_senderPortOf 2 (some .int) ∈ xw := xw_in (List.mem_of_getElem? (i := 549) (by decide +kernel)) rfl
set_option maxRecDepth 20000 in
theorem mq_550 : Cond.methodLink RL 90 yX6_portsIn ∈ xw := xw_in (List.mem_of_getElem? (i := 550) (by decide +kernel)) rfl
set_option maxRecDepth 20000 in
theorem mq_551 : Cond.instanceMethod yX6_portsIn ∈ xw := xw_in (List.mem_of_getElem? (i := 551) (by decide +kernel)) rfl
set_option maxRecDepth 20000 in
theorem mq_552 : Cond.selects RX6 yX6_portsIn yX6_portsIn ∈ xw := xw_in (List.mem_of_getElem? (i := 552) (by decide +kernel)) rfl
set_option maxRecDepth 20000 in
theorem mq_553 : Cond.code yX6_portsIn cX6_portsIn 4 (some .int) ∈ xw := xw_in (List.mem_of_getElem? (i := 553) (by decide +kernel)) rfl
set_option maxRecDepth 20000 in
theorem mq_554 : Cond.methodLink RL 94 yX6_parts ∈ xw := xw_in (List.mem_of_getElem? (i := 554) (by decide +kernel)) rfl
set_option maxRecDepth 20000 in
theorem mq_555 : Cond.instanceMethod yX6_parts ∈ xw := xw_in (List.mem_of_getElem? (i := 555) (by decide +kernel)) rfl
set_option maxRecDepth 20000 in
theorem mq_556 : Cond.selects RX6 yX6_parts yX6_parts ∈ xw := xw_in (List.mem_of_getElem? (i := 556) (by decide +kernel)) rfl
set_option maxRecDepth 20000 in
theorem mq_557 : Cond.code yX6_parts cX6_parts 1 (some .int) ∈ xw := xw_in (List.mem_of_getElem? (i := 557) (by decide +kernel)) rfl
set_option maxRecDepth 20000 in
theorem mq_558 : Cond.methodLink RX6 172 yX5_countParts ∈ xw := xw_in (List.mem_of_getElem? (i := 558) (by decide +kernel)) rfl
set_option maxRecDepth 20000 in
theorem mq_559 : Cond.instanceMethod yX5_countParts ∈ xw := xw_in (List.mem_of_getElem? (i := 559) (by decide +kernel)) rfl
set_option maxRecDepth 20000 in
theorem mq_560 : Cond.selects RX5 yX5_countParts yX5_countParts ∈ xw := xw_in (List.mem_of_getElem? (i := 560) (by decide +kernel)) rfl
set_option maxRecDepth 20000 in
theorem mq_561 : Cond.code yX5_countParts cX5_countParts 3 (some .int) ∈ xw := xw_in (List.mem_of_getElem? (i := 561) (by decide +kernel)) rfl
set_option maxRecDepth 20000 in
theorem mq_562 : Cond.methodLink RX5 19 yX5_countVertices ∈ xw := xw_in (List.mem_of_getElem? (i := 562) (by decide +kernel)) rfl
set_option maxRecDepth 20000 in
theorem mq_564 : Cond.instanceMethod yX5_countVertices ∈ xw := xw_in (List.mem_of_getElem? (i := 564) (by decide +kernel)) rfl
set_option maxRecDepth 20000 in
theorem mq_565 : Cond.code yX5_countVertices cX5_countVertices 3 (some .int) ∈ xw := xw_in (List.mem_of_getElem? (i := 565) (by decide +kernel)) rfl
set_option maxRecDepth 20000 in
theorem mq_566 : Cond.methodLink RX5 45 yX3_isBridgeUp ∈ xw := xw_in (List.mem_of_getElem? (i := 566) (by decide +kernel)) rfl
set_option maxRecDepth 20000 in
theorem mq_567 : Cond.methodLink RX5 29 yX3_isForwarding ∈ xw := xw_in (List.mem_of_getElem? (i := 567) (by decide +kernel)) rfl
set_option maxRecDepth 20000 in
theorem mq_568 : Cond.instanceMethod yX3_isForwarding ∈ xw := xw_in (List.mem_of_getElem? (i := 568) (by decide +kernel)) rfl
set_option maxRecDepth 20000 in
theorem mq_569 : Cond.selects RX3 yX3_isForwarding yX3_isForwarding ∈ xw := xw_in (List.mem_of_getElem? (i := 569) (by decide +kernel)) rfl
set_option maxRecDepth 20000 in
theorem mq_570 : Cond.code yX3_isForwarding cX3_isForwarding 2 (some .boolean) ∈ xw := xw_in (List.mem_of_getElem? (i := 570) (by decide +kernel)) rfl
set_option maxRecDepth 20000 in
theorem mq_571 : Cond.methodLink RX5 33 yX5_join ∈ xw := xw_in (List.mem_of_getElem? (i := 571) (by decide +kernel)) rfl
set_option maxRecDepth 20000 in
theorem mq_573 : Cond.instanceMethod yX5_join ∈ xw := xw_in (List.mem_of_getElem? (i := 573) (by decide +kernel)) rfl
set_option maxRecDepth 20000 in
theorem mq_574 : Cond.code yX5_join cX5_join 5 (some .boolean) ∈ xw := xw_in (List.mem_of_getElem? (i := 574) (by decide +kernel)) rfl
set_option maxRecDepth 20000 in
theorem mq_575 : Cond.methodLink RL 98 yX6_loops ∈ xw := xw_in (List.mem_of_getElem? (i := 575) (by decide +kernel)) rfl
set_option maxRecDepth 20000 in
theorem mq_576 : Cond.instanceMethod yX6_loops ∈ xw := xw_in (List.mem_of_getElem? (i := 576) (by decide +kernel)) rfl
set_option maxRecDepth 20000 in
theorem mq_577 : Cond.selects RX6 yX6_loops yX6_loops ∈ xw := xw_in (List.mem_of_getElem? (i := 577) (by decide +kernel)) rfl
set_option maxRecDepth 20000 in
theorem mq_578 : Cond.code yX6_loops cX6_loops 1 (some .int) ∈ xw := xw_in (List.mem_of_getElem? (i := 578) (by decide +kernel)) rfl
set_option maxRecDepth 20000 in
theorem mq_579 : Cond.methodLink RX6 175 yX5_countLoops ∈ xw := xw_in (List.mem_of_getElem? (i := 579) (by decide +kernel)) rfl
set_option maxRecDepth 20000 in
theorem mq_580 : Cond.instanceMethod yX5_countLoops ∈ xw := xw_in (List.mem_of_getElem? (i := 580) (by decide +kernel)) rfl
set_option maxRecDepth 20000 in
theorem mq_581 : Cond.selects RX5 yX5_countLoops yX5_countLoops ∈ xw := xw_in (List.mem_of_getElem? (i := 581) (by decide +kernel)) rfl
set_option maxRecDepth 20000 in
theorem mq_582 : Cond.code yX5_countLoops cX5_countLoops 3 (some .int) ∈ xw := xw_in (List.mem_of_getElem? (i := 582) (by decide +kernel)) rfl
set_option maxRecDepth 20000 in
theorem mq_583 : Cond.methodLink RX5 36 yX5_countParts ∈ xw := xw_in (List.mem_of_getElem? (i := 583) (by decide +kernel)) rfl
set_option maxRecDepth 20000 in
theorem mq_584 : Cond.methodLink RL 102 yX6_send ∈ xw := xw_in (List.mem_of_getElem? (i := 584) (by decide +kernel)) rfl
set_option maxRecDepth 20000 in
theorem mq_585 : Cond.instanceMethod yX6_send ∈ xw := xw_in (List.mem_of_getElem? (i := 585) (by decide +kernel)) rfl
set_option maxRecDepth 20000 in
theorem mq_586 : Cond.selects RX6 yX6_send yX6_send ∈ xw := xw_in (List.mem_of_getElem? (i := 586) (by decide +kernel)) rfl
set_option maxRecDepth 20000 in
theorem mq_587 : Cond.code yX6_send cX6_send 3 (some .int) ∈ xw := xw_in (List.mem_of_getElem? (i := 587) (by decide +kernel)) rfl
set_option maxRecDepth 20000 in
theorem mq_588 : Cond.methodLink RX6 178 yX1_deliver ∈ xw := xw_in (List.mem_of_getElem? (i := 588) (by decide +kernel)) rfl
set_option maxRecDepth 20000 in
theorem mq_589 : Cond.instanceMethod yX1_deliver ∈ xw := xw_in (List.mem_of_getElem? (i := 589) (by decide +kernel)) rfl
set_option maxRecDepth 20000 in
theorem mq_590 : Cond.selects RX1 yX1_deliver yX1_deliver ∈ xw := xw_in (List.mem_of_getElem? (i := 590) (by decide +kernel)) rfl
set_option maxRecDepth 20000 in
theorem mq_591 : Cond.code yX1_deliver cX1_deliver 4 (some .int) ∈ xw := xw_in (List.mem_of_getElem? (i := 591) (by decide +kernel)) rfl
set_option maxRecDepth 20000 in
theorem mq_592 : Cond.methodLink RX1 34 yX1_transmit ∈ xw := xw_in (List.mem_of_getElem? (i := 592) (by decide +kernel)) rfl
set_option maxRecDepth 20000 in
theorem mq_594 : Cond.instanceMethod yX1_transmit ∈ xw := xw_in (List.mem_of_getElem? (i := 594) (by decide +kernel)) rfl
set_option maxRecDepth 20000 in
theorem mq_595 : Cond.code yX1_transmit cX1_transmit 3 none ∈ xw := xw_in (List.mem_of_getElem? (i := 595) (by decide +kernel)) rfl
set_option maxRecDepth 20000 in
theorem mq_596 : Cond.methodLink RX1 38 yX1_visitPorts ∈ xw := xw_in (List.mem_of_getElem? (i := 596) (by decide +kernel)) rfl
set_option maxRecDepth 20000 in
theorem mq_598 : Cond.instanceMethod yX1_visitPorts ∈ xw := xw_in (List.mem_of_getElem? (i := 598) (by decide +kernel)) rfl
set_option maxRecDepth 20000 in
theorem mq_599 : Cond.code yX1_visitPorts cX1_visitPorts 6 none ∈ xw := xw_in (List.mem_of_getElem? (i := 599) (by decide +kernel)) rfl
set_option maxRecDepth 20000 in
theorem mq_600 : Cond.methodLink RX1 48 yX3_isActive ∈ xw := xw_in (List.mem_of_getElem? (i := 600) (by decide +kernel)) rfl
set_option maxRecDepth 20000 in
theorem mq_601 : Cond.methodLink RX1 52 yX1_visitPort ∈ xw := xw_in (List.mem_of_getElem? (i := 601) (by decide +kernel)) rfl
set_option maxRecDepth 20000 in
theorem mq_603 : Cond.instanceMethod yX1_visitPort ∈ xw := xw_in (List.mem_of_getElem? (i := 603) (by decide +kernel)) rfl
set_option maxRecDepth 20000 in
theorem mq_604 : Cond.code yX1_visitPort cX1_visitPort 5 none ∈ xw := xw_in (List.mem_of_getElem? (i := 604) (by decide +kernel)) rfl
set_option maxRecDepth 20000 in
theorem mq_605 : Cond.methodLink RX1 59 yX3_learn ∈ xw := xw_in (List.mem_of_getElem? (i := 605) (by decide +kernel)) rfl
set_option maxRecDepth 20000 in
theorem mq_606 : Cond.instanceMethod yX3_learn ∈ xw := xw_in (List.mem_of_getElem? (i := 606) (by decide +kernel)) rfl
set_option maxRecDepth 20000 in
theorem mq_607 : Cond.selects RX3 yX3_learn yX3_learn ∈ xw := xw_in (List.mem_of_getElem? (i := 607) (by decide +kernel)) rfl
set_option maxRecDepth 20000 in
theorem mq_608 : Cond.code yX3_learn cX3_learn 4 none ∈ xw := xw_in (List.mem_of_getElem? (i := 608) (by decide +kernel)) rfl
set_option maxRecDepth 20000 in
theorem mq_609 : Cond.methodLink RX3 101 yX3_entryIndex ∈ xw := xw_in (List.mem_of_getElem? (i := 609) (by decide +kernel)) rfl
set_option maxRecDepth 20000 in
theorem mq_610 : Cond.static yX3_entryIndex ∈ xw := xw_in (List.mem_of_getElem? (i := 610) (by decide +kernel)) rfl
set_option maxRecDepth 20000 in
theorem mq_611 : Cond.code yX3_entryIndex cX3_entryIndex 2 (some .int) ∈ xw := xw_in (List.mem_of_getElem? (i := 611) (by decide +kernel)) rfl
set_option maxRecDepth 20000 in
theorem mq_612 : Cond.methodLink RX1 62 yX1_passOn ∈ xw := xw_in (List.mem_of_getElem? (i := 612) (by decide +kernel)) rfl
set_option maxRecDepth 20000 in
theorem mq_614 : Cond.instanceMethod yX1_passOn ∈ xw := xw_in (List.mem_of_getElem? (i := 614) (by decide +kernel)) rfl
set_option maxRecDepth 20000 in
theorem mq_615 : Cond.code yX1_passOn cX1_passOn 5 none ∈ xw := xw_in (List.mem_of_getElem? (i := 615) (by decide +kernel)) rfl
set_option maxRecDepth 20000 in
theorem mq_616 : Cond.methodLink RX1 68 yX3_learnedPort ∈ xw := xw_in (List.mem_of_getElem? (i := 616) (by decide +kernel)) rfl
set_option maxRecDepth 20000 in
theorem mq_617 : Cond.instanceMethod yX3_learnedPort ∈ xw := xw_in (List.mem_of_getElem? (i := 617) (by decide +kernel)) rfl
set_option maxRecDepth 20000 in
theorem mq_618 : Cond.selects RX3 yX3_learnedPort yX3_learnedPort ∈ xw := xw_in (List.mem_of_getElem? (i := 618) (by decide +kernel)) rfl
set_option maxRecDepth 20000 in
theorem mq_619 : Cond.code yX3_learnedPort cX3_learnedPort 4 (some .int) ∈ xw := xw_in (List.mem_of_getElem? (i := 619) (by decide +kernel)) rfl
set_option maxRecDepth 20000 in
theorem mq_620 : Cond.methodLink RX1 72 yX3_isForwarding ∈ xw := xw_in (List.mem_of_getElem? (i := 620) (by decide +kernel)) rfl
set_option maxRecDepth 20000 in
theorem mq_621 : Cond.methodLink RX1 75 yX1_flood ∈ xw := xw_in (List.mem_of_getElem? (i := 621) (by decide +kernel)) rfl
set_option maxRecDepth 20000 in
theorem mq_623 : Cond.instanceMethod yX1_flood ∈ xw := xw_in (List.mem_of_getElem? (i := 623) (by decide +kernel)) rfl
set_option maxRecDepth 20000 in
theorem mq_624 : Cond.code yX1_flood cX1_flood 4 none ∈ xw := xw_in (List.mem_of_getElem? (i := 624) (by decide +kernel)) rfl
set_option maxRecDepth 20000 in
theorem mq_625 : Cond.methodLink RL 106 yX6_transmissions ∈ xw := xw_in (List.mem_of_getElem? (i := 625) (by decide +kernel)) rfl
set_option maxRecDepth 20000 in
theorem mq_626 : Cond.instanceMethod yX6_transmissions ∈ xw := xw_in (List.mem_of_getElem? (i := 626) (by decide +kernel)) rfl
set_option maxRecDepth 20000 in
theorem mq_627 : Cond.selects RX6 yX6_transmissions yX6_transmissions ∈ xw := xw_in (List.mem_of_getElem? (i := 627) (by decide +kernel)) rfl
set_option maxRecDepth 20000 in
theorem mq_628 : Cond.code yX6_transmissions cX6_transmissions 2 (some .int) ∈ xw := xw_in (List.mem_of_getElem? (i := 628) (by decide +kernel)) rfl
set_option maxRecDepth 20000 in
theorem mq_629 : Cond.methodLink RL 110 yX6_entry ∈ xw := xw_in (List.mem_of_getElem? (i := 629) (by decide +kernel)) rfl
set_option maxRecDepth 20000 in
theorem mq_630 : Cond.instanceMethod yX6_entry ∈ xw := xw_in (List.mem_of_getElem? (i := 630) (by decide +kernel)) rfl
set_option maxRecDepth 20000 in
theorem mq_631 : Cond.selects RX6 yX6_entry yX6_entry ∈ xw := xw_in (List.mem_of_getElem? (i := 631) (by decide +kernel)) rfl
set_option maxRecDepth 20000 in
theorem mq_632 : Cond.code yX6_entry cX6_entry 4 (some .int) ∈ xw := xw_in (List.mem_of_getElem? (i := 632) (by decide +kernel)) rfl
set_option maxRecDepth 20000 in
theorem mq_633 : Cond.methodLink RX6 184 yX3_learnedPort ∈ xw := xw_in (List.mem_of_getElem? (i := 633) (by decide +kernel)) rfl
set_option maxRecDepth 20000 in
theorem mq_634 : Cond.methodLink RL 114 yX6_count ∈ xw := xw_in (List.mem_of_getElem? (i := 634) (by decide +kernel)) rfl
set_option maxRecDepth 20000 in
theorem mq_635 : Cond.instanceMethod yX6_count ∈ xw := xw_in (List.mem_of_getElem? (i := 635) (by decide +kernel)) rfl
set_option maxRecDepth 20000 in
theorem mq_636 : Cond.selects RX6 yX6_count yX6_count ∈ xw := xw_in (List.mem_of_getElem? (i := 636) (by decide +kernel)) rfl
set_option maxRecDepth 20000 in
theorem mq_637 : Cond.code yX6_count cX6_count 2 (some .int) ∈ xw := xw_in (List.mem_of_getElem? (i := 637) (by decide +kernel)) rfl
set_option maxRecDepth 20000 in
theorem mq_638 : Cond.methodLink RL 118 yX6_save ∈ xw := xw_in (List.mem_of_getElem? (i := 638) (by decide +kernel)) rfl
set_option maxRecDepth 20000 in
theorem mq_639 : Cond.instanceMethod yX6_save ∈ xw := xw_in (List.mem_of_getElem? (i := 639) (by decide +kernel)) rfl
set_option maxRecDepth 20000 in
theorem mq_640 : Cond.selects RX6 yX6_save yX6_save ∈ xw := xw_in (List.mem_of_getElem? (i := 640) (by decide +kernel)) rfl
set_option maxRecDepth 20000 in
theorem mq_641 : Cond.code yX6_save cX6_save 2 (some .int) ∈ xw := xw_in (List.mem_of_getElem? (i := 641) (by decide +kernel)) rfl
set_option maxRecDepth 20000 in
theorem mq_642 : Cond.methodLink RX6 187 yX6_isSlot ∈ xw := xw_in (List.mem_of_getElem? (i := 642) (by decide +kernel)) rfl
set_option maxRecDepth 20000 in
theorem mq_643 : Cond.static yX6_isSlot ∈ xw := xw_in (List.mem_of_getElem? (i := 643) (by decide +kernel)) rfl
set_option maxRecDepth 20000 in
theorem mq_644 : Cond.code yX6_isSlot cX6_isSlot 1 (some .boolean) ∈ xw := xw_in (List.mem_of_getElem? (i := 644) (by decide +kernel)) rfl
set_option maxRecDepth 20000 in
theorem mq_645 : Cond.methodLink RX6 190 yX3_copyFrom ∈ xw := xw_in (List.mem_of_getElem? (i := 645) (by decide +kernel)) rfl
set_option maxRecDepth 20000 in
theorem mq_646 : Cond.instanceMethod yX3_copyFrom ∈ xw := xw_in (List.mem_of_getElem? (i := 646) (by decide +kernel)) rfl
set_option maxRecDepth 20000 in
theorem mq_647 : Cond.selects RX3 yX3_copyFrom yX3_copyFrom ∈ xw := xw_in (List.mem_of_getElem? (i := 647) (by decide +kernel)) rfl
set_option maxRecDepth 20000 in
theorem mq_648 : Cond.code yX3_copyFrom cX3_copyFrom 2 none ∈ xw := xw_in (List.mem_of_getElem? (i := 648) (by decide +kernel)) rfl
set_option maxRecDepth 20000 in
theorem mq_649 : Cond.methodLink RX3 71 yX3_copyRow ∈ xw := xw_in (List.mem_of_getElem? (i := 649) (by decide +kernel)) rfl
set_option maxRecDepth 20000 in
theorem mq_650 : Cond.static yX3_copyRow ∈ xw := xw_in (List.mem_of_getElem? (i := 650) (by decide +kernel)) rfl
set_option maxRecDepth 20000 in
theorem mq_651 : Cond.code yX3_copyRow cX3_copyRow 2 none ∈ xw := xw_in (List.mem_of_getElem? (i := 651) (by decide +kernel)) rfl
set_option maxRecDepth 20000 in
theorem mq_652 : Cond.methodLink RX3 81 yJ9_min_7cf53 ∈ xw := xw_in (List.mem_of_getElem? (i := 652) (by decide +kernel)) rfl
set_option maxRecDepth 20000 in
theorem mq_653 : Cond.static yJ9_min_7cf53 ∈ xw := xw_in (List.mem_of_getElem? (i := 653) (by decide +kernel)) rfl
set_option maxRecDepth 20000 in
theorem mq_654 : Cond.code yJ9_min_7cf53 cJ9_min_7cf53 2 (some .int) ∈ xw := xw_in (List.mem_of_getElem? (i := 654) (by decide +kernel)) rfl
set_option maxRecDepth 20000 in
theorem mq_655 : Cond.methodLink RX3 75 arraycopyName ∈ xw := xw_in (List.mem_of_getElem? (i := 655) (by decide +kernel)) rfl
set_option maxRecDepth 20000 in
theorem mq_656 : Cond.static arraycopyName ∈ xw := xw_in (List.mem_of_getElem? (i := 656) (by decide +kernel)) rfl
set_option maxRecDepth 20000 in
theorem mq_657 : Cond.native arraycopyName ∈ xw := xw_in (List.mem_of_getElem? (i := 657) (by decide +kernel)) rfl
set_option maxRecDepth 20000 in
theorem mq_658 : Cond.methodLink RL 122 yX6_restore ∈ xw := xw_in (List.mem_of_getElem? (i := 658) (by decide +kernel)) rfl
set_option maxRecDepth 20000 in
theorem mq_659 : Cond.instanceMethod yX6_restore ∈ xw := xw_in (List.mem_of_getElem? (i := 659) (by decide +kernel)) rfl
set_option maxRecDepth 20000 in
theorem mq_660 : Cond.selects RX6 yX6_restore yX6_restore ∈ xw := xw_in (List.mem_of_getElem? (i := 660) (by decide +kernel)) rfl
set_option maxRecDepth 20000 in
theorem mq_661 : Cond.code yX6_restore cX6_restore 2 (some .int) ∈ xw := xw_in (List.mem_of_getElem? (i := 661) (by decide +kernel)) rfl
set_option maxRecDepth 20000 in
theorem mq_662 : Cond.classLink RL 10 RX7 ∈ xw := xw_in (List.mem_of_getElem? (i := 662) (by decide +kernel)) rfl
set_option maxRecDepth 20000 in
theorem mq_663 : Cond.instantiable RX7 16 ∈ xw := xw_in (List.mem_of_getElem? (i := 663) (by decide +kernel)) rfl
set_option maxRecDepth 20000 in
theorem mq_664 : Cond.methodLink RL 12 yX7_init ∈ xw := xw_in (List.mem_of_getElem? (i := 664) (by decide +kernel)) rfl
set_option maxRecDepth 20000 in
theorem mq_665 : Cond.instanceMethod yX7_init ∈ xw := xw_in (List.mem_of_getElem? (i := 665) (by decide +kernel)) rfl
set_option maxRecDepth 20000 in
theorem mq_666 : Cond.code yX7_init cX7_init 1 none ∈ xw := xw_in (List.mem_of_getElem? (i := 666) (by decide +kernel)) rfl
set_option maxRecDepth 20000 in
theorem mq_667 : Cond.methodLink RX7 1 objectInit ∈ xw := xw_in (List.mem_of_getElem? (i := 667) (by decide +kernel)) rfl
set_option maxRecDepth 20000 in
theorem mq_668 : Cond.fieldLink RX7 7 "SpanningTreeProtocolModel" "at" "[I" ∈ xw := xw_in (List.mem_of_getElem? (i := 668) (by decide +kernel)) rfl
set_option maxRecDepth 20000 in
theorem mq_669 : Cond.fieldLink RX7 13 "SpanningTreeProtocolModel" "slots" "[I" ∈ xw := xw_in (List.mem_of_getElem? (i := 669) (by decide +kernel)) rfl
set_option maxRecDepth 20000 in
theorem mq_670 : Cond.fieldLink RX7 16 "SpanningTreeProtocolModel" "isSaved" "[Z" ∈ xw := xw_in (List.mem_of_getElem? (i := 670) (by decide +kernel)) rfl
set_option maxRecDepth 20000 in
theorem mq_671 : Cond.fieldLink RX7 20 "SpanningTreeProtocolModel" "wasActive" "[Z" ∈ xw := xw_in (List.mem_of_getElem? (i := 671) (by decide +kernel)) rfl
set_option maxRecDepth 20000 in
theorem mq_672 : Cond.fieldLink RX7 23 "SpanningTreeProtocolModel" "rootPorts" "[I" ∈ xw := xw_in (List.mem_of_getElem? (i := 672) (by decide +kernel)) rfl
set_option maxRecDepth 20000 in
theorem mq_673 : Cond.fieldLink RX7 26 "SpanningTreeProtocolModel" "roots" "[I" ∈ xw := xw_in (List.mem_of_getElem? (i := 673) (by decide +kernel)) rfl
set_option maxRecDepth 20000 in
theorem mq_674 : Cond.fieldLink RX7 29 "SpanningTreeProtocolModel" "rootCosts" "[I" ∈ xw := xw_in (List.mem_of_getElem? (i := 674) (by decide +kernel)) rfl
set_option maxRecDepth 20000 in
theorem mq_675 : Cond.fieldLink RX7 32 "SpanningTreeProtocolModel" "roles" "[I" ∈ xw := xw_in (List.mem_of_getElem? (i := 675) (by decide +kernel)) rfl
set_option maxRecDepth 20000 in
theorem mq_676 : Cond.fieldLink RX7 35 "SpanningTreeProtocolModel" "ages" "[I" ∈ xw := xw_in (List.mem_of_getElem? (i := 676) (by decide +kernel)) rfl
set_option maxRecDepth 20000 in
theorem mq_677 : Cond.fieldLink RX7 38 "SpanningTreeProtocolModel" "sentRoot" "[I" ∈ xw := xw_in (List.mem_of_getElem? (i := 677) (by decide +kernel)) rfl
set_option maxRecDepth 20000 in
theorem mq_678 : Cond.fieldLink RX7 41 "SpanningTreeProtocolModel" "sentCost" "[I" ∈ xw := xw_in (List.mem_of_getElem? (i := 678) (by decide +kernel)) rfl
set_option maxRecDepth 20000 in
theorem mq_679 : Cond.fieldLink RX7 44 "SpanningTreeProtocolModel" "rolesBefore" "[I" ∈ xw := xw_in (List.mem_of_getElem? (i := 679) (by decide +kernel)) rfl
set_option maxRecDepth 20000 in
theorem mq_680 : Cond.fieldLink RX7 47 "SpanningTreeProtocolModel" "part" "[I" ∈ xw := xw_in (List.mem_of_getElem? (i := 680) (by decide +kernel)) rfl
set_option maxRecDepth 20000 in
theorem mq_681 : Cond.fieldLink RX7 50 "SpanningTreeProtocolModel" "onSegment" "[I" ∈ xw := xw_in (List.mem_of_getElem? (i := 681) (by decide +kernel)) rfl
set_option maxRecDepth 20000 in
theorem mq_682 : Cond.fieldLink RX7 53 "SpanningTreeProtocolModel" "byPort" "[I" ∈ xw := xw_in (List.mem_of_getElem? (i := 682) (by decide +kernel)) rfl
set_option maxRecDepth 20000 in
theorem mq_683 : Cond.fieldLink RX7 160 "SpanningTreeProtocolModel" "made" "I" ∈ xw := xw_in (List.mem_of_getElem? (i := 683) (by decide +kernel)) rfl
set_option maxRecDepth 20000 in
theorem mq_717 : Cond.arrayClass .boolean ∈ xw := xw_in (List.mem_of_getElem? (i := 717) (by decide +kernel)) rfl
set_option maxRecDepth 20000 in
theorem mq_718 : Cond.methodLink RL 17 yX7_addBridge ∈ xw := xw_in (List.mem_of_getElem? (i := 718) (by decide +kernel)) rfl
set_option maxRecDepth 20000 in
theorem mq_719 : Cond.instanceMethod yX7_addBridge ∈ xw := xw_in (List.mem_of_getElem? (i := 719) (by decide +kernel)) rfl
set_option maxRecDepth 20000 in
theorem mq_720 : Cond.selects RX7 yX7_addBridge yX7_addBridge ∈ xw := xw_in (List.mem_of_getElem? (i := 720) (by decide +kernel)) rfl
set_option maxRecDepth 20000 in
theorem mq_721 : Cond.code yX7_addBridge cX7_addBridge 3 (some .int) ∈ xw := xw_in (List.mem_of_getElem? (i := 721) (by decide +kernel)) rfl
set_option maxRecDepth 20000 in
theorem mq_722 : Cond.methodLink RX7 56 yX7_in ∈ xw := xw_in (List.mem_of_getElem? (i := 722) (by decide +kernel)) rfl
set_option maxRecDepth 20000 in
theorem mq_723 : Cond.static yX7_in ∈ xw := xw_in (List.mem_of_getElem? (i := 723) (by decide +kernel)) rfl
set_option maxRecDepth 20000 in
theorem mq_724 : Cond.code yX7_in cX7_in 3 (some .boolean) ∈ xw := xw_in (List.mem_of_getElem? (i := 724) (by decide +kernel)) rfl
set_option maxRecDepth 20000 in
theorem mq_725 : Cond.methodLink RL 22 yX7_addSegment ∈ xw := xw_in (List.mem_of_getElem? (i := 725) (by decide +kernel)) rfl
set_option maxRecDepth 20000 in
theorem mq_726 : Cond.instanceMethod yX7_addSegment ∈ xw := xw_in (List.mem_of_getElem? (i := 726) (by decide +kernel)) rfl
set_option maxRecDepth 20000 in
theorem mq_727 : Cond.selects RX7 yX7_addSegment yX7_addSegment ∈ xw := xw_in (List.mem_of_getElem? (i := 727) (by decide +kernel)) rfl
set_option maxRecDepth 20000 in
theorem mq_728 : Cond.code yX7_addSegment cX7_addSegment 1 (some .int) ∈ xw := xw_in (List.mem_of_getElem? (i := 728) (by decide +kernel)) rfl
set_option maxRecDepth 20000 in
theorem mq_729 : Cond.methodLink RL 27 yX7_addPort ∈ xw := xw_in (List.mem_of_getElem? (i := 729) (by decide +kernel)) rfl
set_option maxRecDepth 20000 in
theorem mq_730 : Cond.instanceMethod yX7_addPort ∈ xw := xw_in (List.mem_of_getElem? (i := 730) (by decide +kernel)) rfl
set_option maxRecDepth 20000 in
theorem mq_731 : Cond.selects RX7 yX7_addPort yX7_addPort ∈ xw := xw_in (List.mem_of_getElem? (i := 731) (by decide +kernel)) rfl
set_option maxRecDepth 20000 in
theorem mq_732 : Cond.code yX7_addPort cX7_addPort 5 (some .int) ∈ xw := xw_in (List.mem_of_getElem? (i := 732) (by decide +kernel)) rfl
set_option maxRecDepth 20000 in
theorem mq_733 : Cond.methodLink RX7 68 yX7_isBridge ∈ xw := xw_in (List.mem_of_getElem? (i := 733) (by decide +kernel)) rfl
set_option maxRecDepth 20000 in
theorem mq_735 : Cond.instanceMethod yX7_isBridge ∈ xw := xw_in (List.mem_of_getElem? (i := 735) (by decide +kernel)) rfl
set_option maxRecDepth 20000 in
theorem mq_736 : Cond.code yX7_isBridge cX7_isBridge 2 (some .boolean) ∈ xw := xw_in (List.mem_of_getElem? (i := 736) (by decide +kernel)) rfl
set_option maxRecDepth 20000 in
theorem mq_737 : Cond.methodLink RX7 72 yX7_isSegment ∈ xw := xw_in (List.mem_of_getElem? (i := 737) (by decide +kernel)) rfl
set_option maxRecDepth 20000 in
theorem mq_739 : Cond.instanceMethod yX7_isSegment ∈ xw := xw_in (List.mem_of_getElem? (i := 739) (by decide +kernel)) rfl
set_option maxRecDepth 20000 in
theorem mq_740 : Cond.code yX7_isSegment cX7_isSegment 2 (some .boolean) ∈ xw := xw_in (List.mem_of_getElem? (i := 740) (by decide +kernel)) rfl
set_option maxRecDepth 20000 in
theorem mq_741 : Cond.methodLink RX7 75 yX7_ports ∈ xw := xw_in (List.mem_of_getElem? (i := 741) (by decide +kernel)) rfl
set_option maxRecDepth 20000 in
theorem mq_743 : Cond.instanceMethod yX7_ports ∈ xw := xw_in (List.mem_of_getElem? (i := 743) (by decide +kernel)) rfl
set_option maxRecDepth 20000 in
theorem mq_744 : Cond.code yX7_ports cX7_ports 1 (some .int) ∈ xw := xw_in (List.mem_of_getElem? (i := 744) (by decide +kernel)) rfl
set_option maxRecDepth 20000 in
theorem mq_745 : Cond.methodLink RX7 79 yX7_isActive ∈ xw := xw_in (List.mem_of_getElem? (i := 745) (by decide +kernel)) rfl
set_option maxRecDepth 20000 in
theorem mq_747 : Cond.instanceMethod yX7_isActive ∈ xw := xw_in (List.mem_of_getElem? (i := 747) (by decide +kernel)) rfl
set_option maxRecDepth 20000 in
theorem mq_748 : Cond.code yX7_isActive cX7_isActive 2 (some .boolean) ∈ xw := xw_in (List.mem_of_getElem? (i := 748) (by decide +kernel)) rfl
set_option maxRecDepth 20000 in
theorem mq_749 : Cond.methodLink RX7 60 yX7_bridgeOf ∈ xw := xw_in (List.mem_of_getElem? (i := 749) (by decide +kernel)) rfl
set_option maxRecDepth 20000 in
theorem mq_751 : Cond.instanceMethod yX7_bridgeOf ∈ xw := xw_in (List.mem_of_getElem? (i := 751) (by decide +kernel)) rfl
set_option maxRecDepth 20000 in
theorem mq_752 : Cond.code yX7_bridgeOf cX7_bridgeOf 2 (some .int) ∈ xw := xw_in (List.mem_of_getElem? (i := 752) (by decide +kernel)) rfl
set_option maxRecDepth 20000 in
theorem mq_753 : Cond.methodLink RL 31 yX7_addStation ∈ xw := xw_in (List.mem_of_getElem? (i := 753) (by decide +kernel)) rfl
set_option maxRecDepth 20000 in
theorem mq_754 : Cond.instanceMethod yX7_addStation ∈ xw := xw_in (List.mem_of_getElem? (i := 754) (by decide +kernel)) rfl
set_option maxRecDepth 20000 in
theorem mq_755 : Cond.selects RX7 yX7_addStation yX7_addStation ∈ xw := xw_in (List.mem_of_getElem? (i := 755) (by decide +kernel)) rfl
set_option maxRecDepth 20000 in
theorem mq_756 : Cond.code yX7_addStation cX7_addStation 2 (some .int) ∈ xw := xw_in (List.mem_of_getElem? (i := 756) (by decide +kernel)) rfl
set_option maxRecDepth 20000 in
theorem mq_757 : Cond.methodLink RL 36 yX7_setPriority ∈ xw := xw_in (List.mem_of_getElem? (i := 757) (by decide +kernel)) rfl
set_option maxRecDepth 20000 in
theorem mq_758 : Cond.instanceMethod yX7_setPriority ∈ xw := xw_in (List.mem_of_getElem? (i := 758) (by decide +kernel)) rfl
set_option maxRecDepth 20000 in
theorem mq_759 : Cond.selects RX7 yX7_setPriority yX7_setPriority ∈ xw := xw_in (List.mem_of_getElem? (i := 759) (by decide +kernel)) rfl
set_option maxRecDepth 20000 in
theorem mq_760 : Cond.code yX7_setPriority cX7_setPriority 3 (some .int) ∈ xw := xw_in (List.mem_of_getElem? (i := 760) (by decide +kernel)) rfl
set_option maxRecDepth 20000 in
theorem mq_761 : Cond.methodLink RX7 82 yX7_set ∈ xw := xw_in (List.mem_of_getElem? (i := 761) (by decide +kernel)) rfl
set_option maxRecDepth 20000 in
theorem mq_763 : Cond.instanceMethod yX7_set ∈ xw := xw_in (List.mem_of_getElem? (i := 763) (by decide +kernel)) rfl
set_option maxRecDepth 20000 in
theorem mq_764 : Cond.code yX7_set cX7_set 4 (some .int) ∈ xw := xw_in (List.mem_of_getElem? (i := 764) (by decide +kernel)) rfl
set_option maxRecDepth 20000 in
theorem mq_765 : Cond.methodLink RL 40 yX7_setCost ∈ xw := xw_in (List.mem_of_getElem? (i := 765) (by decide +kernel)) rfl
set_option maxRecDepth 20000 in
theorem mq_766 : Cond.instanceMethod yX7_setCost ∈ xw := xw_in (List.mem_of_getElem? (i := 766) (by decide +kernel)) rfl
set_option maxRecDepth 20000 in
theorem mq_767 : Cond.selects RX7 yX7_setCost yX7_setCost ∈ xw := xw_in (List.mem_of_getElem? (i := 767) (by decide +kernel)) rfl
set_option maxRecDepth 20000 in
theorem mq_768 : Cond.code yX7_setCost cX7_setCost 3 (some .int) ∈ xw := xw_in (List.mem_of_getElem? (i := 768) (by decide +kernel)) rfl
set_option maxRecDepth 20000 in
theorem mq_769 : Cond.methodLink RX7 85 yX7_isPort ∈ xw := xw_in (List.mem_of_getElem? (i := 769) (by decide +kernel)) rfl
set_option maxRecDepth 20000 in
theorem mq_771 : Cond.instanceMethod yX7_isPort ∈ xw := xw_in (List.mem_of_getElem? (i := 771) (by decide +kernel)) rfl
set_option maxRecDepth 20000 in
theorem mq_772 : Cond.code yX7_isPort cX7_isPort 2 (some .boolean) ∈ xw := xw_in (List.mem_of_getElem? (i := 772) (by decide +kernel)) rfl
set_option maxRecDepth 20000 in
theorem mq_773 : Cond.methodLink RL 45 yX7_setBridge ∈ xw := xw_in (List.mem_of_getElem? (i := 773) (by decide +kernel)) rfl
set_option maxRecDepth 20000 in
theorem mq_774 : Cond.instanceMethod yX7_setBridge ∈ xw := xw_in (List.mem_of_getElem? (i := 774) (by decide +kernel)) rfl
set_option maxRecDepth 20000 in
theorem mq_775 : Cond.selects RX7 yX7_setBridge yX7_setBridge ∈ xw := xw_in (List.mem_of_getElem? (i := 775) (by decide +kernel)) rfl
set_option maxRecDepth 20000 in
theorem mq_776 : Cond.code yX7_setBridge cX7_setBridge 3 (some .int) ∈ xw := xw_in (List.mem_of_getElem? (i := 776) (by decide +kernel)) rfl
set_option maxRecDepth 20000 in
theorem mq_777 : Cond.methodLink RX7 92 yX7_turnAll ∈ xw := xw_in (List.mem_of_getElem? (i := 777) (by decide +kernel)) rfl
set_option maxRecDepth 20000 in
theorem mq_779 : Cond.instanceMethod yX7_turnAll ∈ xw := xw_in (List.mem_of_getElem? (i := 779) (by decide +kernel)) rfl
set_option maxRecDepth 20000 in
theorem mq_780 : Cond.code yX7_turnAll cX7_turnAll 5 (some .int) ∈ xw := xw_in (List.mem_of_getElem? (i := 780) (by decide +kernel)) rfl
set_option maxRecDepth 20000 in
theorem mq_781 : Cond.methodLink RX7 88 yX7_turn ∈ xw := xw_in (List.mem_of_getElem? (i := 781) (by decide +kernel)) rfl
set_option maxRecDepth 20000 in
theorem mq_783 : Cond.instanceMethod yX7_turn ∈ xw := xw_in (List.mem_of_getElem? (i := 783) (by decide +kernel)) rfl
set_option maxRecDepth 20000 in
theorem mq_784 : Cond.code yX7_turn cX7_turn 5 none ∈ xw := xw_in (List.mem_of_getElem? (i := 784) (by decide +kernel)) rfl
set_option maxRecDepth 20000 in
theorem mq_785 : Cond.methodLink RL 49 yX7_setPort ∈ xw := xw_in (List.mem_of_getElem? (i := 785) (by decide +kernel)) rfl
set_option maxRecDepth 20000 in
theorem mq_786 : Cond.instanceMethod yX7_setPort ∈ xw := xw_in (List.mem_of_getElem? (i := 786) (by decide +kernel)) rfl
set_option maxRecDepth 20000 in
theorem mq_787 : Cond.selects RX7 yX7_setPort yX7_setPort ∈ xw := xw_in (List.mem_of_getElem? (i := 787) (by decide +kernel)) rfl
set_option maxRecDepth 20000 in
theorem mq_788 : Cond.code yX7_setPort cX7_setPort 3 (some .int) ∈ xw := xw_in (List.mem_of_getElem? (i := 788) (by decide +kernel)) rfl
set_option maxRecDepth 20000 in
theorem mq_789 : Cond.methodLink RL 53 yX7_moveStation ∈ xw := xw_in (List.mem_of_getElem? (i := 789) (by decide +kernel)) rfl
set_option maxRecDepth 20000 in
theorem mq_790 : Cond.instanceMethod yX7_moveStation ∈ xw := xw_in (List.mem_of_getElem? (i := 790) (by decide +kernel)) rfl
set_option maxRecDepth 20000 in
theorem mq_791 : Cond.selects RX7 yX7_moveStation yX7_moveStation ∈ xw := xw_in (List.mem_of_getElem? (i := 791) (by decide +kernel)) rfl
set_option maxRecDepth 20000 in
theorem mq_792 : Cond.code yX7_moveStation cX7_moveStation 3 (some .int) ∈ xw := xw_in (List.mem_of_getElem? (i := 792) (by decide +kernel)) rfl
set_option maxRecDepth 20000 in
theorem mq_793 : Cond.methodLink RX7 96 yX7_isStation ∈ xw := xw_in (List.mem_of_getElem? (i := 793) (by decide +kernel)) rfl
set_option maxRecDepth 20000 in
theorem mq_795 : Cond.instanceMethod yX7_isStation ∈ xw := xw_in (List.mem_of_getElem? (i := 795) (by decide +kernel)) rfl
set_option maxRecDepth 20000 in
theorem mq_796 : Cond.code yX7_isStation cX7_isStation 2 (some .boolean) ∈ xw := xw_in (List.mem_of_getElem? (i := 796) (by decide +kernel)) rfl
set_option maxRecDepth 20000 in
theorem mq_797 : Cond.methodLink RL 57 yX7_tick ∈ xw := xw_in (List.mem_of_getElem? (i := 797) (by decide +kernel)) rfl
set_option maxRecDepth 20000 in
theorem mq_798 : Cond.instanceMethod yX7_tick ∈ xw := xw_in (List.mem_of_getElem? (i := 798) (by decide +kernel)) rfl
set_option maxRecDepth 20000 in
theorem mq_799 : Cond.selects RX7 yX7_tick yX7_tick ∈ xw := xw_in (List.mem_of_getElem? (i := 799) (by decide +kernel)) rfl
set_option maxRecDepth 20000 in
theorem mq_800 : Cond.code yX7_tick cX7_tick 4 (some .int) ∈ xw := xw_in (List.mem_of_getElem? (i := 800) (by decide +kernel)) rfl
set_option maxRecDepth 20000 in
theorem mq_801 : Cond.methodLink RX7 141 yX7_tickOnce ∈ xw := xw_in (List.mem_of_getElem? (i := 801) (by decide +kernel)) rfl
set_option maxRecDepth 20000 in
theorem mq_803 : Cond.instanceMethod yX7_tickOnce ∈ xw := xw_in (List.mem_of_getElem? (i := 803) (by decide +kernel)) rfl
set_option maxRecDepth 20000 in
theorem mq_804 : Cond.code yX7_tickOnce cX7_tickOnce 4 (some .boolean) ∈ xw := xw_in (List.mem_of_getElem? (i := 804) (by decide +kernel)) rfl
set_option maxRecDepth 20000 in
theorem mq_805 : Cond.methodLink RX7 129 yX7_layRoles ∈ xw := xw_in (List.mem_of_getElem? (i := 805) (by decide +kernel)) rfl
set_option maxRecDepth 20000 in
theorem mq_807 : Cond.instanceMethod yX7_layRoles ∈ xw := xw_in (List.mem_of_getElem? (i := 807) (by decide +kernel)) rfl
set_option maxRecDepth 20000 in
theorem mq_808 : Cond.code yX7_layRoles cX7_layRoles 2 none ∈ xw := xw_in (List.mem_of_getElem? (i := 808) (by decide +kernel)) rfl
set_option maxRecDepth 20000 in
theorem mq_809 : Cond.methodLink RX7 116 yX7_layRoot ∈ xw := xw_in (List.mem_of_getElem? (i := 809) (by decide +kernel)) rfl
set_option maxRecDepth 20000 in
theorem mq_811 : Cond.instanceMethod yX7_layRoot ∈ xw := xw_in (List.mem_of_getElem? (i := 811) (by decide +kernel)) rfl
set_option maxRecDepth 20000 in
theorem mq_812 : Cond.code yX7_layRoot cX7_layRoot 5 none ∈ xw := xw_in (List.mem_of_getElem? (i := 812) (by decide +kernel)) rfl
set_option maxRecDepth 20000 in
theorem mq_813 : Cond.methodLink RX7 99 yX7_stores ∈ xw := xw_in (List.mem_of_getElem? (i := 813) (by decide +kernel)) rfl
set_option maxRecDepth 20000 in
theorem mq_815 : Cond.instanceMethod yX7_stores ∈ xw := xw_in (List.mem_of_getElem? (i := 815) (by decide +kernel)) rfl
set_option maxRecDepth 20000 in
theorem mq_816 : Cond.code yX7_stores cX7_stores 2 (some .boolean) ∈ xw := xw_in (List.mem_of_getElem? (i := 816) (by decide +kernel)) rfl
set_option maxRecDepth 20000 in
theorem mq_817 : Cond.methodLink RX7 64 yX7_message ∈ xw := xw_in (List.mem_of_getElem? (i := 817) (by decide +kernel)) rfl
set_option maxRecDepth 20000 in
theorem mq_819 : Cond.instanceMethod yX7_message ∈ xw := xw_in (List.mem_of_getElem? (i := 819) (by decide +kernel)) rfl
set_option maxRecDepth 20000 in
theorem mq_820 : Cond.code yX7_message cX7_message 3 (some .int) ∈ xw := xw_in (List.mem_of_getElem? (i := 820) (by decide +kernel)) rfl
set_option maxRecDepth 20000 in
theorem mq_821 : Cond.methodLink RX7 102 yX7_idOf ∈ xw := xw_in (List.mem_of_getElem? (i := 821) (by decide +kernel)) rfl
set_option maxRecDepth 20000 in
theorem mq_823 : Cond.instanceMethod yX7_idOf ∈ xw := xw_in (List.mem_of_getElem? (i := 823) (by decide +kernel)) rfl
set_option maxRecDepth 20000 in
theorem mq_824 : Cond.code yX7_idOf cX7_idOf 2 (some .int) ∈ xw := xw_in (List.mem_of_getElem? (i := 824) (by decide +kernel)) rfl
set_option maxRecDepth 20000 in
theorem mq_825 : Cond.methodLink RX7 105 yX7_isBetterOffer ∈ xw := xw_in (List.mem_of_getElem? (i := 825) (by decide +kernel)) rfl
set_option maxRecDepth 20000 in
theorem mq_827 : Cond.instanceMethod yX7_isBetterOffer ∈ xw := xw_in (List.mem_of_getElem? (i := 827) (by decide +kernel)) rfl
set_option maxRecDepth 20000 in
theorem mq_828 : Cond.code yX7_isBetterOffer cX7_isBetterOffer 5 (some .boolean) ∈ xw := xw_in (List.mem_of_getElem? (i := 828) (by decide +kernel)) rfl
set_option maxRecDepth 20000 in
theorem mq_829 : Cond.methodLink RX7 120 yX7_roleOf ∈ xw := xw_in (List.mem_of_getElem? (i := 829) (by decide +kernel)) rfl
set_option maxRecDepth 20000 in
theorem mq_831 : Cond.instanceMethod yX7_roleOf ∈ xw := xw_in (List.mem_of_getElem? (i := 831) (by decide +kernel)) rfl
set_option maxRecDepth 20000 in
theorem mq_832 : Cond.code yX7_roleOf cX7_roleOf 3 (some .int) ∈ xw := xw_in (List.mem_of_getElem? (i := 832) (by decide +kernel)) rfl
set_option maxRecDepth 20000 in
theorem mq_833 : Cond.methodLink RX7 113 yX7_isOwnBetter ∈ xw := xw_in (List.mem_of_getElem? (i := 833) (by decide +kernel)) rfl
set_option maxRecDepth 20000 in
theorem mq_835 : Cond.instanceMethod yX7_isOwnBetter ∈ xw := xw_in (List.mem_of_getElem? (i := 835) (by decide +kernel)) rfl
set_option maxRecDepth 20000 in
theorem mq_836 : Cond.code yX7_isOwnBetter cX7_isOwnBetter 3 (some .boolean) ∈ xw := xw_in (List.mem_of_getElem? (i := 836) (by decide +kernel)) rfl
set_option maxRecDepth 20000 in
theorem mq_837 : Cond.methodLink RX7 109 yX7_isBetter ∈ xw := xw_in (List.mem_of_getElem? (i := 837) (by decide +kernel)) rfl
set_option maxRecDepth 20000 in
theorem mq_838 : Cond.static yX7_isBetter ∈ xw := xw_in (List.mem_of_getElem? (i := 838) (by decide +kernel)) rfl
set_option maxRecDepth 20000 in
theorem mq_839 : Cond.code yX7_isBetter cX7_isBetter 8 (some .boolean) ∈ xw := xw_in (List.mem_of_getElem? (i := 839) (by decide +kernel)) rfl
set_option maxRecDepth 20000 in
theorem mq_840 : Cond.methodLink RX7 132 yX7_sendAll ∈ xw := xw_in (List.mem_of_getElem? (i := 840) (by decide +kernel)) rfl
set_option maxRecDepth 20000 in
theorem mq_842 : Cond.instanceMethod yX7_sendAll ∈ xw := xw_in (List.mem_of_getElem? (i := 842) (by decide +kernel)) rfl
set_option maxRecDepth 20000 in
theorem mq_843 : Cond.code yX7_sendAll cX7_sendAll 4 none ∈ xw := xw_in (List.mem_of_getElem? (i := 843) (by decide +kernel)) rfl
set_option maxRecDepth 20000 in
theorem mq_844 : Cond.methodLink RX7 135 yX7_hear ∈ xw := xw_in (List.mem_of_getElem? (i := 844) (by decide +kernel)) rfl
set_option maxRecDepth 20000 in
theorem mq_846 : Cond.instanceMethod yX7_hear ∈ xw := xw_in (List.mem_of_getElem? (i := 846) (by decide +kernel)) rfl
set_option maxRecDepth 20000 in
theorem mq_847 : Cond.code yX7_hear cX7_hear 7 none ∈ xw := xw_in (List.mem_of_getElem? (i := 847) (by decide +kernel)) rfl
set_option maxRecDepth 20000 in
theorem mq_848 : Cond.methodLink RX7 126 yX7_heardBy ∈ xw := xw_in (List.mem_of_getElem? (i := 848) (by decide +kernel)) rfl
set_option maxRecDepth 20000 in
theorem mq_850 : Cond.instanceMethod yX7_heardBy ∈ xw := xw_in (List.mem_of_getElem? (i := 850) (by decide +kernel)) rfl
set_option maxRecDepth 20000 in
theorem mq_851 : Cond.code yX7_heardBy cX7_heardBy 5 (some .int) ∈ xw := xw_in (List.mem_of_getElem? (i := 851) (by decide +kernel)) rfl
set_option maxRecDepth 20000 in
theorem mq_852 : Cond.methodLink RX7 123 yX7_isBetterSent ∈ xw := xw_in (List.mem_of_getElem? (i := 852) (by decide +kernel)) rfl
set_option maxRecDepth 20000 in
theorem mq_854 : Cond.instanceMethod yX7_isBetterSent ∈ xw := xw_in (List.mem_of_getElem? (i := 854) (by decide +kernel)) rfl
set_option maxRecDepth 20000 in
theorem mq_855 : Cond.code yX7_isBetterSent cX7_isBetterSent 3 (some .boolean) ∈ xw := xw_in (List.mem_of_getElem? (i := 855) (by decide +kernel)) rfl
set_option maxRecDepth 20000 in
theorem mq_856 : Cond.methodLink RX7 138 yX7_goOn ∈ xw := xw_in (List.mem_of_getElem? (i := 856) (by decide +kernel)) rfl
set_option maxRecDepth 20000 in
theorem mq_858 : Cond.instanceMethod yX7_goOn ∈ xw := xw_in (List.mem_of_getElem? (i := 858) (by decide +kernel)) rfl
set_option maxRecDepth 20000 in
theorem mq_859 : Cond.code yX7_goOn cX7_goOn 3 none ∈ xw := xw_in (List.mem_of_getElem? (i := 859) (by decide +kernel)) rfl
set_option maxRecDepth 20000 in
theorem mq_860 : Cond.methodLink RL 61 yX7_settle ∈ xw := xw_in (List.mem_of_getElem? (i := 860) (by decide +kernel)) rfl
set_option maxRecDepth 20000 in
theorem mq_861 : Cond.instanceMethod yX7_settle ∈ xw := xw_in (List.mem_of_getElem? (i := 861) (by decide +kernel)) rfl
set_option maxRecDepth 20000 in
theorem mq_862 : Cond.selects RX7 yX7_settle yX7_settle ∈ xw := xw_in (List.mem_of_getElem? (i := 862) (by decide +kernel)) rfl
set_option maxRecDepth 20000 in
theorem mq_863 : Cond.code yX7_settle cX7_settle 4 (some .int) ∈ xw := xw_in (List.mem_of_getElem? (i := 863) (by decide +kernel)) rfl
set_option maxRecDepth 20000 in
theorem mq_864 : Cond.methodLink RL 65 yX7_identifier ∈ xw := xw_in (List.mem_of_getElem? (i := 864) (by decide +kernel)) rfl
set_option maxRecDepth 20000 in
theorem mq_865 : Cond.instanceMethod yX7_identifier ∈ xw := xw_in (List.mem_of_getElem? (i := 865) (by decide +kernel)) rfl
set_option maxRecDepth 20000 in
theorem mq_866 : Cond.selects RX7 yX7_identifier yX7_identifier ∈ xw := xw_in (List.mem_of_getElem? (i := 866) (by decide +kernel)) rfl
set_option maxRecDepth 20000 in
theorem mq_867 : Cond.code yX7_identifier cX7_identifier 2 (some .int) ∈ xw := xw_in (List.mem_of_getElem? (i := 867) (by decide +kernel)) rfl
set_option maxRecDepth 20000 in
theorem mq_868 : Cond.methodLink RL 69 yX7_root ∈ xw := xw_in (List.mem_of_getElem? (i := 868) (by decide +kernel)) rfl
set_option maxRecDepth 20000 in
theorem mq_869 : Cond.instanceMethod yX7_root ∈ xw := xw_in (List.mem_of_getElem? (i := 869) (by decide +kernel)) rfl
set_option maxRecDepth 20000 in
theorem mq_870 : Cond.selects RX7 yX7_root yX7_root ∈ xw := xw_in (List.mem_of_getElem? (i := 870) (by decide +kernel)) rfl
set_option maxRecDepth 20000 in
theorem mq_871 : Cond.code yX7_root cX7_root 2 (some .int) ∈ xw := xw_in (List.mem_of_getElem? (i := 871) (by decide +kernel)) rfl
set_option maxRecDepth 20000 in
theorem mq_872 : Cond.methodLink RX7 145 yX7_isUp ∈ xw := xw_in (List.mem_of_getElem? (i := 872) (by decide +kernel)) rfl
set_option maxRecDepth 20000 in
theorem mq_874 : Cond.instanceMethod yX7_isUp ∈ xw := xw_in (List.mem_of_getElem? (i := 874) (by decide +kernel)) rfl
set_option maxRecDepth 20000 in
theorem mq_875 : Cond.code yX7_isUp cX7_isUp 2 (some .boolean) ∈ xw := xw_in (List.mem_of_getElem? (i := 875) (by decide +kernel)) rfl
set_option maxRecDepth 20000 in
theorem mq_876 : Cond.methodLink RL 73 yX7_rootCost ∈ xw := xw_in (List.mem_of_getElem? (i := 876) (by decide +kernel)) rfl
set_option maxRecDepth 20000 in
theorem mq_877 : Cond.instanceMethod yX7_rootCost ∈ xw := xw_in (List.mem_of_getElem? (i := 877) (by decide +kernel)) rfl
set_option maxRecDepth 20000 in
theorem mq_878 : Cond.selects RX7 yX7_rootCost yX7_rootCost ∈ xw := xw_in (List.mem_of_getElem? (i := 878) (by decide +kernel)) rfl
set_option maxRecDepth 20000 in
theorem mq_879 : Cond.code yX7_rootCost cX7_rootCost 2 (some .int) ∈ xw := xw_in (List.mem_of_getElem? (i := 879) (by decide +kernel)) rfl
set_option maxRecDepth 20000 in
theorem mq_880 : Cond.methodLink RL 77 yX7_rootPort ∈ xw := xw_in (List.mem_of_getElem? (i := 880) (by decide +kernel)) rfl
set_option maxRecDepth 20000 in
theorem mq_881 : Cond.instanceMethod yX7_rootPort ∈ xw := xw_in (List.mem_of_getElem? (i := 881) (by decide +kernel)) rfl
set_option maxRecDepth 20000 in
theorem mq_882 : Cond.selects RX7 yX7_rootPort yX7_rootPort ∈ xw := xw_in (List.mem_of_getElem? (i := 882) (by decide +kernel)) rfl
set_option maxRecDepth 20000 in
theorem mq_883 : Cond.code yX7_rootPort cX7_rootPort 2 (some .int) ∈ xw := xw_in (List.mem_of_getElem? (i := 883) (by decide +kernel)) rfl
set_option maxRecDepth 20000 in
theorem mq_884 : Cond.methodLink RL 81 yX7_role ∈ xw := xw_in (List.mem_of_getElem? (i := 884) (by decide +kernel)) rfl
set_option maxRecDepth 20000 in
theorem mq_885 : Cond.instanceMethod yX7_role ∈ xw := xw_in (List.mem_of_getElem? (i := 885) (by decide +kernel)) rfl
set_option maxRecDepth 20000 in
theorem mq_886 : Cond.selects RX7 yX7_role yX7_role ∈ xw := xw_in (List.mem_of_getElem? (i := 886) (by decide +kernel)) rfl
set_option maxRecDepth 20000 in
theorem mq_887 : Cond.code yX7_role cX7_role 2 (some .int) ∈ xw := xw_in (List.mem_of_getElem? (i := 887) (by decide +kernel)) rfl
set_option maxRecDepth 20000 in
theorem mq_888 : Cond.methodLink RL 85 yX7_state ∈ xw := xw_in (List.mem_of_getElem? (i := 888) (by decide +kernel)) rfl
set_option maxRecDepth 20000 in
theorem mq_889 : Cond.instanceMethod yX7_state ∈ xw := xw_in (List.mem_of_getElem? (i := 889) (by decide +kernel)) rfl
set_option maxRecDepth 20000 in
theorem mq_890 : Cond.selects RX7 yX7_state yX7_state ∈ xw := xw_in (List.mem_of_getElem? (i := 890) (by decide +kernel)) rfl
set_option maxRecDepth 20000 in
theorem mq_891 : Cond.code yX7_state cX7_state 2 (some .int) ∈ xw := xw_in (List.mem_of_getElem? (i := 891) (by decide +kernel)) rfl
set_option maxRecDepth 20000 in
theorem mq_892 : Cond.methodLink RL 89 yX7_stored ∈ xw := xw_in (List.mem_of_getElem? (i := 892) (by decide +kernel)) rfl
set_option maxRecDepth 20000 in
theorem mq_893 : Cond.instanceMethod yX7_stored ∈ xw := xw_in (List.mem_of_getElem? (i := 893) (by decide +kernel)) rfl
set_option maxRecDepth 20000 in
theorem mq_894 : Cond.selects RX7 yX7_stored yX7_stored ∈ xw := xw_in (List.mem_of_getElem? (i := 894) (by decide +kernel)) rfl
set_option maxRecDepth 20000 in
theorem mq_895 : Cond.code yX7_stored cX7_stored 3 (some .int) ∈ xw := xw_in (List.mem_of_getElem? (i := 895) (by decide +kernel)) rfl
set_option maxRecDepth 20000 in
theorem mq_896 : Cond.methodLink RL 93 yX7_portsIn ∈ xw := xw_in (List.mem_of_getElem? (i := 896) (by decide +kernel)) rfl
set_option maxRecDepth 20000 in
theorem mq_897 : Cond.instanceMethod yX7_portsIn ∈ xw := xw_in (List.mem_of_getElem? (i := 897) (by decide +kernel)) rfl
set_option maxRecDepth 20000 in
theorem mq_898 : Cond.selects RX7 yX7_portsIn yX7_portsIn ∈ xw := xw_in (List.mem_of_getElem? (i := 898) (by decide +kernel)) rfl
set_option maxRecDepth 20000 in
theorem mq_899 : Cond.code yX7_portsIn cX7_portsIn 4 (some .int) ∈ xw := xw_in (List.mem_of_getElem? (i := 899) (by decide +kernel)) rfl
set_option maxRecDepth 20000 in
theorem mq_900 : Cond.methodLink RL 97 yX7_parts ∈ xw := xw_in (List.mem_of_getElem? (i := 900) (by decide +kernel)) rfl
set_option maxRecDepth 20000 in
theorem mq_901 : Cond.instanceMethod yX7_parts ∈ xw := xw_in (List.mem_of_getElem? (i := 901) (by decide +kernel)) rfl
set_option maxRecDepth 20000 in
theorem mq_902 : Cond.selects RX7 yX7_parts yX7_parts ∈ xw := xw_in (List.mem_of_getElem? (i := 902) (by decide +kernel)) rfl
set_option maxRecDepth 20000 in
theorem mq_903 : Cond.code yX7_parts cX7_parts 2 (some .int) ∈ xw := xw_in (List.mem_of_getElem? (i := 903) (by decide +kernel)) rfl
set_option maxRecDepth 20000 in
theorem mq_904 : Cond.methodLink RX7 151 yX7_joinAll ∈ xw := xw_in (List.mem_of_getElem? (i := 904) (by decide +kernel)) rfl
set_option maxRecDepth 20000 in
theorem mq_906 : Cond.instanceMethod yX7_joinAll ∈ xw := xw_in (List.mem_of_getElem? (i := 906) (by decide +kernel)) rfl
set_option maxRecDepth 20000 in
theorem mq_907 : Cond.code yX7_joinAll cX7_joinAll 6 (some .int) ∈ xw := xw_in (List.mem_of_getElem? (i := 907) (by decide +kernel)) rfl
set_option maxRecDepth 20000 in
theorem mq_908 : Cond.methodLink RX7 154 yX7_partsNow ∈ xw := xw_in (List.mem_of_getElem? (i := 908) (by decide +kernel)) rfl
set_option maxRecDepth 20000 in
theorem mq_910 : Cond.instanceMethod yX7_partsNow ∈ xw := xw_in (List.mem_of_getElem? (i := 910) (by decide +kernel)) rfl
set_option maxRecDepth 20000 in
theorem mq_911 : Cond.code yX7_partsNow cX7_partsNow 5 (some .int) ∈ xw := xw_in (List.mem_of_getElem? (i := 911) (by decide +kernel)) rfl
set_option maxRecDepth 20000 in
theorem mq_912 : Cond.methodLink RX7 148 yX7_isVertex ∈ xw := xw_in (List.mem_of_getElem? (i := 912) (by decide +kernel)) rfl
set_option maxRecDepth 20000 in
theorem mq_914 : Cond.instanceMethod yX7_isVertex ∈ xw := xw_in (List.mem_of_getElem? (i := 914) (by decide +kernel)) rfl
set_option maxRecDepth 20000 in
theorem mq_915 : Cond.code yX7_isVertex cX7_isVertex 2 (some .boolean) ∈ xw := xw_in (List.mem_of_getElem? (i := 915) (by decide +kernel)) rfl
set_option maxRecDepth 20000 in
theorem mq_916 : Cond.methodLink RL 101 yX7_loops ∈ xw := xw_in (List.mem_of_getElem? (i := 916) (by decide +kernel)) rfl
set_option maxRecDepth 20000 in
theorem mq_917 : Cond.instanceMethod yX7_loops ∈ xw := xw_in (List.mem_of_getElem? (i := 917) (by decide +kernel)) rfl
set_option maxRecDepth 20000 in
theorem mq_918 : Cond.selects RX7 yX7_loops yX7_loops ∈ xw := xw_in (List.mem_of_getElem? (i := 918) (by decide +kernel)) rfl
set_option maxRecDepth 20000 in
theorem mq_919 : Cond.code yX7_loops cX7_loops 2 (some .int) ∈ xw := xw_in (List.mem_of_getElem? (i := 919) (by decide +kernel)) rfl
set_option maxRecDepth 20000 in
theorem mq_920 : Cond.methodLink RX7 157 yX7_vertices ∈ xw := xw_in (List.mem_of_getElem? (i := 920) (by decide +kernel)) rfl
set_option maxRecDepth 20000 in
theorem mq_922 : Cond.instanceMethod yX7_vertices ∈ xw := xw_in (List.mem_of_getElem? (i := 922) (by decide +kernel)) rfl
set_option maxRecDepth 20000 in
theorem mq_923 : Cond.code yX7_vertices cX7_vertices 3 (some .int) ∈ xw := xw_in (List.mem_of_getElem? (i := 923) (by decide +kernel)) rfl
set_option maxRecDepth 20000 in
theorem mq_924 : Cond.methodLink RL 105 yX7_send ∈ xw := xw_in (List.mem_of_getElem? (i := 924) (by decide +kernel)) rfl
set_option maxRecDepth 20000 in
theorem mq_925 : Cond.instanceMethod yX7_send ∈ xw := xw_in (List.mem_of_getElem? (i := 925) (by decide +kernel)) rfl
set_option maxRecDepth 20000 in
theorem mq_926 : Cond.selects RX7 yX7_send yX7_send ∈ xw := xw_in (List.mem_of_getElem? (i := 926) (by decide +kernel)) rfl
set_option maxRecDepth 20000 in
theorem mq_927 : Cond.code yX7_send cX7_send 5 (some .int) ∈ xw := xw_in (List.mem_of_getElem? (i := 927) (by decide +kernel)) rfl
set_option maxRecDepth 20000 in
theorem mq_928 : Cond.methodLink RX7 167 yX7_transmit ∈ xw := xw_in (List.mem_of_getElem? (i := 928) (by decide +kernel)) rfl
set_option maxRecDepth 20000 in
theorem mq_930 : Cond.instanceMethod yX7_transmit ∈ xw := xw_in (List.mem_of_getElem? (i := 930) (by decide +kernel)) rfl
set_option maxRecDepth 20000 in
theorem mq_931 : Cond.code yX7_transmit cX7_transmit 3 none ∈ xw := xw_in (List.mem_of_getElem? (i := 931) (by decide +kernel)) rfl
set_option maxRecDepth 20000 in
theorem mq_932 : Cond.methodLink RX7 171 yX7_receive ∈ xw := xw_in (List.mem_of_getElem? (i := 932) (by decide +kernel)) rfl
set_option maxRecDepth 20000 in
theorem mq_934 : Cond.instanceMethod yX7_receive ∈ xw := xw_in (List.mem_of_getElem? (i := 934) (by decide +kernel)) rfl
set_option maxRecDepth 20000 in
theorem mq_935 : Cond.code yX7_receive cX7_receive 9 none ∈ xw := xw_in (List.mem_of_getElem? (i := 935) (by decide +kernel)) rfl
set_option maxRecDepth 20000 in
theorem mq_936 : Cond.methodLink RX7 164 yX7_cell ∈ xw := xw_in (List.mem_of_getElem? (i := 936) (by decide +kernel)) rfl
set_option maxRecDepth 20000 in
theorem mq_937 : Cond.static yX7_cell ∈ xw := xw_in (List.mem_of_getElem? (i := 937) (by decide +kernel)) rfl
set_option maxRecDepth 20000 in
theorem mq_938 : Cond.code yX7_cell cX7_cell 2 (some .int) ∈ xw := xw_in (List.mem_of_getElem? (i := 938) (by decide +kernel)) rfl
set_option maxRecDepth 20000 in
theorem mq_939 : Cond.methodLink RL 109 yX7_transmissions ∈ xw := xw_in (List.mem_of_getElem? (i := 939) (by decide +kernel)) rfl
set_option maxRecDepth 20000 in
theorem mq_940 : Cond.instanceMethod yX7_transmissions ∈ xw := xw_in (List.mem_of_getElem? (i := 940) (by decide +kernel)) rfl
set_option maxRecDepth 20000 in
theorem mq_941 : Cond.selects RX7 yX7_transmissions yX7_transmissions ∈ xw := xw_in (List.mem_of_getElem? (i := 941) (by decide +kernel)) rfl
set_option maxRecDepth 20000 in
theorem mq_942 : Cond.code yX7_transmissions cX7_transmissions 2 (some .int) ∈ xw := xw_in (List.mem_of_getElem? (i := 942) (by decide +kernel)) rfl
set_option maxRecDepth 20000 in
theorem mq_943 : Cond.methodLink RL 113 yX7_entry ∈ xw := xw_in (List.mem_of_getElem? (i := 943) (by decide +kernel)) rfl
set_option maxRecDepth 20000 in
theorem mq_944 : Cond.instanceMethod yX7_entry ∈ xw := xw_in (List.mem_of_getElem? (i := 944) (by decide +kernel)) rfl
set_option maxRecDepth 20000 in
theorem mq_945 : Cond.selects RX7 yX7_entry yX7_entry ∈ xw := xw_in (List.mem_of_getElem? (i := 945) (by decide +kernel)) rfl
set_option maxRecDepth 20000 in
theorem mq_946 : Cond.code yX7_entry cX7_entry 3 (some .int) ∈ xw := xw_in (List.mem_of_getElem? (i := 946) (by decide +kernel)) rfl
set_option maxRecDepth 20000 in
theorem mq_947 : Cond.methodLink RL 117 yX7_count ∈ xw := xw_in (List.mem_of_getElem? (i := 947) (by decide +kernel)) rfl
set_option maxRecDepth 20000 in
theorem mq_948 : Cond.instanceMethod yX7_count ∈ xw := xw_in (List.mem_of_getElem? (i := 948) (by decide +kernel)) rfl
set_option maxRecDepth 20000 in
theorem mq_949 : Cond.selects RX7 yX7_count yX7_count ∈ xw := xw_in (List.mem_of_getElem? (i := 949) (by decide +kernel)) rfl
set_option maxRecDepth 20000 in
theorem mq_950 : Cond.code yX7_count cX7_count 2 (some .int) ∈ xw := xw_in (List.mem_of_getElem? (i := 950) (by decide +kernel)) rfl
set_option maxRecDepth 20000 in
theorem mq_951 : Cond.methodLink RL 121 yX7_save ∈ xw := xw_in (List.mem_of_getElem? (i := 951) (by decide +kernel)) rfl
set_option maxRecDepth 20000 in
theorem mq_952 : Cond.instanceMethod yX7_save ∈ xw := xw_in (List.mem_of_getElem? (i := 952) (by decide +kernel)) rfl
set_option maxRecDepth 20000 in
theorem mq_953 : Cond.selects RX7 yX7_save yX7_save ∈ xw := xw_in (List.mem_of_getElem? (i := 953) (by decide +kernel)) rfl
set_option maxRecDepth 20000 in
theorem mq_954 : Cond.code yX7_save cX7_save 3 (some .int) ∈ xw := xw_in (List.mem_of_getElem? (i := 954) (by decide +kernel)) rfl
set_option maxRecDepth 20000 in
theorem mq_955 : Cond.methodLink RL 125 yX7_restore ∈ xw := xw_in (List.mem_of_getElem? (i := 955) (by decide +kernel)) rfl
set_option maxRecDepth 20000 in
theorem mq_956 : Cond.instanceMethod yX7_restore ∈ xw := xw_in (List.mem_of_getElem? (i := 956) (by decide +kernel)) rfl
set_option maxRecDepth 20000 in
theorem mq_957 : Cond.selects RX7 yX7_restore yX7_restore ∈ xw := xw_in (List.mem_of_getElem? (i := 957) (by decide +kernel)) rfl
set_option maxRecDepth 20000 in
theorem mq_958 : Cond.code yX7_restore cX7_restore 3 (some .int) ∈ xw := xw_in (List.mem_of_getElem? (i := 958) (by decide +kernel)) rfl
set_option maxRecDepth 20000 in
theorem inX0 : ∀ w ∈ wsX00, w ∈ xw := by
  intro w hw
  obtain ⟨k, hk, rfl⟩ := List.mem_map.mp hw
  have hk := List.mem_range.mp hk
  have hg : ∀ k, k < 7 → u_lay RX0 TX0 k ∈ xw := by
    intro k hk
    match k, hk with
    | 0, _ => exact xw_in (List.mem_of_getElem? (i := 197) (by decide +kernel)) rfl
    | 1, _ => exact xw_in (List.mem_of_getElem? (i := 199) (by decide +kernel)) rfl
    | 2, _ => exact xw_in (List.mem_of_getElem? (i := 201) (by decide +kernel)) rfl
    | 3, _ => exact xw_in (List.mem_of_getElem? (i := 203) (by decide +kernel)) rfl
    | 4, _ => exact xw_in (List.mem_of_getElem? (i := 205) (by decide +kernel)) rfl
    | 5, _ => exact xw_in (List.mem_of_getElem? (i := 207) (by decide +kernel)) rfl
    | 6, _ => exact xw_in (List.mem_of_getElem? (i := 209) (by decide +kernel)) rfl
    | k + 7, hk => exact absurd hk (by omega)
  exact hg k hk
set_option maxRecDepth 20000 in
theorem inX1 : ∀ w ∈ wsX10, w ∈ xw := by
  intro w hw
  obtain ⟨k, hk, rfl⟩ := List.mem_map.mp hw
  have hk := List.mem_range.mp hk
  have hg : ∀ k, k < 4 → u_lay RX1 TX1 k ∈ xw := by
    intro k hk
    match k, hk with
    | 0, _ => exact xw_in (List.mem_of_getElem? (i := 247) (by decide +kernel)) rfl
    | 1, _ => exact xw_in (List.mem_of_getElem? (i := 249) (by decide +kernel)) rfl
    | 2, _ => exact xw_in (List.mem_of_getElem? (i := 251) (by decide +kernel)) rfl
    | 3, _ => exact xw_in (List.mem_of_getElem? (i := 253) (by decide +kernel)) rfl
    | k + 4, hk => exact absurd hk (by omega)
  exact hg k hk
set_option maxRecDepth 20000 in
theorem inX3 : ∀ w ∈ wsX30, w ∈ xw := by
  intro w hw
  obtain ⟨k, hk, rfl⟩ := List.mem_map.mp hw
  have hk := List.mem_range.mp hk
  have hg : ∀ k, k < 19 → u_lay RX3 TX3 k ∈ xw := by
    intro k hk
    match k, hk with
    | 0, _ => exact xw_in (List.mem_of_getElem? (i := 137) (by decide +kernel)) rfl
    | 1, _ => exact xw_in (List.mem_of_getElem? (i := 139) (by decide +kernel)) rfl
    | 2, _ => exact xw_in (List.mem_of_getElem? (i := 141) (by decide +kernel)) rfl
    | 3, _ => exact xw_in (List.mem_of_getElem? (i := 143) (by decide +kernel)) rfl
    | 4, _ => exact xw_in (List.mem_of_getElem? (i := 145) (by decide +kernel)) rfl
    | 5, _ => exact xw_in (List.mem_of_getElem? (i := 147) (by decide +kernel)) rfl
    | 6, _ => exact xw_in (List.mem_of_getElem? (i := 149) (by decide +kernel)) rfl
    | 7, _ => exact xw_in (List.mem_of_getElem? (i := 151) (by decide +kernel)) rfl
    | 8, _ => exact xw_in (List.mem_of_getElem? (i := 153) (by decide +kernel)) rfl
    | 9, _ => exact xw_in (List.mem_of_getElem? (i := 155) (by decide +kernel)) rfl
    | 10, _ => exact xw_in (List.mem_of_getElem? (i := 157) (by decide +kernel)) rfl
    | 11, _ => exact xw_in (List.mem_of_getElem? (i := 159) (by decide +kernel)) rfl
    | 12, _ => exact xw_in (List.mem_of_getElem? (i := 161) (by decide +kernel)) rfl
    | 13, _ => exact xw_in (List.mem_of_getElem? (i := 163) (by decide +kernel)) rfl
    | 14, _ => exact xw_in (List.mem_of_getElem? (i := 165) (by decide +kernel)) rfl
    | 15, _ => exact xw_in (List.mem_of_getElem? (i := 167) (by decide +kernel)) rfl
    | 16, _ => exact xw_in (List.mem_of_getElem? (i := 169) (by decide +kernel)) rfl
    | 17, _ => exact xw_in (List.mem_of_getElem? (i := 171) (by decide +kernel)) rfl
    | 18, _ => exact xw_in (List.mem_of_getElem? (i := 173) (by decide +kernel)) rfl
    | k + 19, hk => exact absurd hk (by omega)
  exact hg k hk
set_option maxRecDepth 20000 in
theorem inX4 : ∀ w ∈ wsX40, w ∈ xw := by
  intro w hw
  obtain ⟨k, hk, rfl⟩ := List.mem_map.mp hw
  have hk := List.mem_range.mp hk
  have hg : ∀ k, k < 6 → u_lay RX4 TX4 k ∈ xw := by
    intro k hk
    match k, hk with
    | 0, _ => exact xw_in (List.mem_of_getElem? (i := 224) (by decide +kernel)) rfl
    | 1, _ => exact xw_in (List.mem_of_getElem? (i := 226) (by decide +kernel)) rfl
    | 2, _ => exact xw_in (List.mem_of_getElem? (i := 228) (by decide +kernel)) rfl
    | 3, _ => exact xw_in (List.mem_of_getElem? (i := 230) (by decide +kernel)) rfl
    | 4, _ => exact xw_in (List.mem_of_getElem? (i := 232) (by decide +kernel)) rfl
    | 5, _ => exact xw_in (List.mem_of_getElem? (i := 234) (by decide +kernel)) rfl
    | k + 6, hk => exact absurd hk (by omega)
  exact hg k hk
set_option maxRecDepth 20000 in
theorem inX5 : ∀ w ∈ wsX50, w ∈ xw := by
  intro w hw
  obtain ⟨k, hk, rfl⟩ := List.mem_map.mp hw
  have hk := List.mem_range.mp hk
  have hg : ∀ k, k < 2 → u_lay RX5 TX5 k ∈ xw := by
    intro k hk
    match k, hk with
    | 0, _ => exact xw_in (List.mem_of_getElem? (i := 264) (by decide +kernel)) rfl
    | 1, _ => exact xw_in (List.mem_of_getElem? (i := 266) (by decide +kernel)) rfl
    | k + 2, hk => exact absurd hk (by omega)
  exact hg k hk
set_option maxRecDepth 20000 in
theorem inX6 : ∀ w ∈ wsX60, w ∈ xw := by
  intro w hw
  obtain ⟨k, hk, rfl⟩ := List.mem_map.mp hw
  have hk := List.mem_range.mp hk
  have hg : ∀ k, k < 6 → u_lay RX6 TX6 k ∈ xw := by
    intro k hk
    match k, hk with
    | 0, _ => exact xw_in (List.mem_of_getElem? (i := 276) (by decide +kernel)) rfl
    | 1, _ => exact xw_in (List.mem_of_getElem? (i := 278) (by decide +kernel)) rfl
    | 2, _ => exact xw_in (List.mem_of_getElem? (i := 280) (by decide +kernel)) rfl
    | 3, _ => exact xw_in (List.mem_of_getElem? (i := 282) (by decide +kernel)) rfl
    | 4, _ => exact xw_in (List.mem_of_getElem? (i := 284) (by decide +kernel)) rfl
    | 5, _ => exact xw_in (List.mem_of_getElem? (i := 286) (by decide +kernel)) rfl
    | k + 6, hk => exact absurd hk (by omega)
  exact hg k hk
set_option maxRecDepth 20000 in
theorem inX7 : ∀ w ∈ wsX70, w ∈ xw := by
  intro w hw
  obtain ⟨k, hk, rfl⟩ := List.mem_map.mp hw
  have hk := List.mem_range.mp hk
  have hg : ∀ k, k < 16 → u_lay RX7 TX7 k ∈ xw := by
    intro k hk
    match k, hk with
    | 0, _ => exact xw_in (List.mem_of_getElem? (i := 684) (by decide +kernel)) rfl
    | 1, _ => exact xw_in (List.mem_of_getElem? (i := 686) (by decide +kernel)) rfl
    | 2, _ => exact xw_in (List.mem_of_getElem? (i := 688) (by decide +kernel)) rfl
    | 3, _ => exact xw_in (List.mem_of_getElem? (i := 690) (by decide +kernel)) rfl
    | 4, _ => exact xw_in (List.mem_of_getElem? (i := 692) (by decide +kernel)) rfl
    | 5, _ => exact xw_in (List.mem_of_getElem? (i := 694) (by decide +kernel)) rfl
    | 6, _ => exact xw_in (List.mem_of_getElem? (i := 696) (by decide +kernel)) rfl
    | 7, _ => exact xw_in (List.mem_of_getElem? (i := 698) (by decide +kernel)) rfl
    | 8, _ => exact xw_in (List.mem_of_getElem? (i := 700) (by decide +kernel)) rfl
    | 9, _ => exact xw_in (List.mem_of_getElem? (i := 702) (by decide +kernel)) rfl
    | 10, _ => exact xw_in (List.mem_of_getElem? (i := 704) (by decide +kernel)) rfl
    | 11, _ => exact xw_in (List.mem_of_getElem? (i := 706) (by decide +kernel)) rfl
    | 12, _ => exact xw_in (List.mem_of_getElem? (i := 708) (by decide +kernel)) rfl
    | 13, _ => exact xw_in (List.mem_of_getElem? (i := 710) (by decide +kernel)) rfl
    | 14, _ => exact xw_in (List.mem_of_getElem? (i := 712) (by decide +kernel)) rfl
    | 15, _ => exact xw_in (List.mem_of_getElem? (i := 714) (by decide +kernel)) rfl
    | k + 16, hk => exact absurd hk (by omega)
  exact hg k hk
end
section
theorem xw_good : xw.all goodWord = true := List.all_eq_true.mpr (fun w h => (List.mem_filter.mp h).2)
abbrev xM : Type := (Nat → Nat → Int32) × (Nat → Nat → Int64)
def xI (M : xM) (k j : Nat) (v : Int32) : xM := (fun a => if a = k then upd (M.1 k) j v else M.1 a, M.2)
def xJ (M : xM) (k j : Nat) (v : Int64) : xM := (M.1, fun a => if a = k then vp_updL (M.2 k) j v else M.2 a)
def xrd {ρ α : Type} (n : Nat) (f : Nat → α) (i : Int32) (K : α → Option ρ) : Option ρ := if ¬ (i < 0 ∨ n ≤ i.toNatClampNeg) then K (f i.toNatClampNeg) else none
def xwI {ρ : Type} (n : Nat) (M : xM) (k : Nat) (i v : Int32) (K : xM → Option ρ) : Option ρ := if ¬ (i < 0 ∨ n ≤ i.toNatClampNeg) then K (xI M k i.toNatClampNeg v) else none
def xwJ {ρ : Type} (n : Nat) (M : xM) (k : Nat) (i : Int32) (v : Int64) (K : xM → Option ρ) : Option ρ := if ¬ (i < 0 ∨ n ≤ i.toNatClampNeg) then K (xJ M k i.toNatClampNeg v) else none
def xzb {ρ : Type} (v : Int32) (E : Option ρ) : Option ρ := if v = 0 ∨ v = 1 then E else none
abbrev xY : Type := va_G × ClassId × ClassId × ClassId × ClassId
abbrev xtys (Y : xY) : List (ClassId × FieldType) := [(Y.2.1, .int), (Y.2.2.1, .long), (Y.2.2.2.1, .boolean), (Y.2.2.2.2, .object RX3)]
abbrev xE : Type := Program × Env × Room × State × MethodId × Array Value × List Frame × Method × Code × (Nat → Prop) × Nat × (Array Value → State → Outcome → State → Prop)
def xC (Y : xY) (X : xE) (cc : ByteArray) (own : String) (ret : Option FieldType) (N F Lc : Nat) : Prop := match X with
  | (p, _, R, s, m, args, _, meth, c, A, nL, _) => p.tables.exec = Jvm.exec ∧ c.code = cc ∧ c.maxLocals = nL ∧ s.vm.findClass own = some m.cls ∧ (∀ w ∈ xw, w.before args s = true) ∧ va_K Y.1 vwCl (xtys Y) s ∧ (∀ q : Nat, s.heap.size ≤ q → A q) ∧ meth.locks = false ∧ meth.sig.returnType = ret ∧ R.frames = F ∧ R.locals = Lc ∧ nL = N
def xG (Y : xY) (l : Launch) (X : xE) (wf : xM → va_W) (M : xM) (pc : Nat) (lv : List (Nat × Value)) (st : List Value) : Prop := match X with
  | (p, e, R, s, m, args, below, meth, c, A, nL, Qc) => ∀ (H : Heap) (locs : List Loc) (ls : Array Slot), va_P Y.1 vwCl (wf M) H → va_D A (wf M) → va_S A s.heap H locs → lv_has ls nL lv → W p l e R s m args below meth c H locs 0 0 (MQ below Qc args s 0 0 A) (F0 m pc ls st)
def xPre (Y : xY) (ws : va_W) (sz : Nat) (av : List Value) : Array Value → State → Prop := va_Pc av (fun U => U.heap.size = sz ∧ va_P Y.1 vwCl ws U.heap ∧ va_K Y.1 vwCl (xtys Y) U ∧ va_D (fun _ => True) ws)
def xB (Y : xY) (A : Nat → Prop) (wf : xM → va_W) (M : xM) (t : State) : Prop := va_P Y.1 vwCl (wf M) t.heap ∧ va_K Y.1 vwCl (xtys Y) t ∧ va_D A (wf M)
def xRI (Y : xY) (X : xE) (wf : xM → va_W) (r0 : Int32) (m0 : xM) : Prop := match X with
  | (_, _, _, _, _, _, _, _, _, A, _, Qc) => Qc = va_Qi (fun (r : Int32) (m : xM) => r = r0 ∧ m = m0) (xB Y A wf) A
def xRL (Y : xY) (X : xE) (wf : xM → va_W) (r0 : Int64) (m0 : xM) : Prop := match X with
  | (_, _, _, _, _, _, _, _, _, A, _, Qc) => Qc = va_Ql (fun (r : Int64) (m : xM) => r = r0 ∧ m = m0) (xB Y A wf) A
def xRV (Y : xY) (X : xE) (wf : xM → va_W) (m0 : xM) : Prop := match X with
  | (_, _, _, _, _, _, _, _, _, A, _, Qc) => Qc = va_Qv (fun (m : xM) => m = m0) (xB Y A wf) A
abbrev xRm (fr lo : Nat) : Room := { frames := fr, cells := 0, slots := 0, locals := lo }
def xcI (l : Launch) (Y : xY) (wf : xM → va_W) (y : MethodName) (bytes : ByteArray) (maxL : Nat) (ret : Option FieldType) (fr lo : Nat) (av : List Value) (M : xM) (r0 : Int32) (m0 : xM) : Prop := ∀ sz, Met l y (.code y bytes maxL ret :: xw) (xRm fr lo) (xPre Y (wf M) sz av) (va_Qi (fun (r : Int32) (m : xM) => r = r0 ∧ m = m0) (xB Y (va_A (wf M) sz) wf) (va_A (wf M) sz)) 0 0 (va_A (wf M) sz)
def xcL (l : Launch) (Y : xY) (wf : xM → va_W) (y : MethodName) (bytes : ByteArray) (maxL : Nat) (ret : Option FieldType) (fr lo : Nat) (av : List Value) (M : xM) (r0 : Int64) (m0 : xM) : Prop := ∀ sz, Met l y (.code y bytes maxL ret :: xw) (xRm fr lo) (xPre Y (wf M) sz av) (va_Ql (fun (r : Int64) (m : xM) => r = r0 ∧ m = m0) (xB Y (va_A (wf M) sz) wf) (va_A (wf M) sz)) 0 0 (va_A (wf M) sz)
def xcV (l : Launch) (Y : xY) (wf : xM → va_W) (y : MethodName) (bytes : ByteArray) (maxL : Nat) (ret : Option FieldType) (fr lo : Nat) (av : List Value) (M : xM) (m0 : xM) : Prop := ∀ sz, Met l y (.code y bytes maxL ret :: xw) (xRm fr lo) (xPre Y (wf M) sz av) (va_Qv (fun (m : xM) => m = m0) (xB Y (va_A (wf M) sz) wf) (va_A (wf M) sz)) 0 0 (va_A (wf M) sz)
theorem x_entryI {l : Launch} {Y : xY} {wf : xM → va_W} {y : MethodName} {bytes : ByteArray} {maxL : Nat} {ret : Option FieldType} {fr lo : Nat} {av : List Value} {M : xM} {r0 : Int32} {m0 : xM} {own : String} (lv : List (Nat × Value)) (hy : plainName y.cls = true) (hown : y.cls = own) (hlen : (lg_sl av).length ≤ maxL) (hlv : lv_args 0 av = lv)
    (body : ∀ X : xE, xC Y X bytes own ret maxL fr lo → xRI Y X wf r0 m0 → xG Y l X wf M 0 lv []) : xcI l Y wf y bytes maxL ret fr lo av M r0 m0 := by
  intro sz
  refine Met.ofW (cc := bytes) (maxL := maxL) (ret := ret) hy rfl ?_
  intro p e s m args below meth c s₁ B hml hv
  obtain ⟨rfl, hsz, hP, hK, hD0⟩ := hv
  have hts := atoms_spec (ws := .code y bytes maxL ret :: xw) B.pre
  have hown : s.vm.findClass own = some m.cls := by rw [← hown]; exact findClass_of_methodNamed B.named
  subst hsz
  have hD := hD0.self (sz := s.heap.size)
  have hl := lv_entry av (n := maxL) hlen
  rw [lg_entry_eq]
  rw [hlv] at hl
  exact body (p, e, xRm fr lo, s, m, av.toArray, below, meth, c, va_A (wf M) s.heap.size, maxL, _) ⟨B.exec, B.bytes, hml, hown, fun w hw => hts w (List.mem_cons_of_mem _ hw), hK, fun q h => Or.inr h, B.notSynchronized, B.returns, rfl, rfl, rfl⟩ rfl s.heap [] _ hP hD va_S.rf hl
theorem x_entryL {l : Launch} {Y : xY} {wf : xM → va_W} {y : MethodName} {bytes : ByteArray} {maxL : Nat} {ret : Option FieldType} {fr lo : Nat} {av : List Value} {M : xM} {r0 : Int64} {m0 : xM} {own : String} (lv : List (Nat × Value)) (hy : plainName y.cls = true) (hown : y.cls = own) (hlen : (lg_sl av).length ≤ maxL) (hlv : lv_args 0 av = lv)
    (body : ∀ X : xE, xC Y X bytes own ret maxL fr lo → xRL Y X wf r0 m0 → xG Y l X wf M 0 lv []) : xcL l Y wf y bytes maxL ret fr lo av M r0 m0 := by
  intro sz
  refine Met.ofW (cc := bytes) (maxL := maxL) (ret := ret) hy rfl ?_
  intro p e s m args below meth c s₁ B hml hv
  obtain ⟨rfl, hsz, hP, hK, hD0⟩ := hv
  have hts := atoms_spec (ws := .code y bytes maxL ret :: xw) B.pre
  have hown : s.vm.findClass own = some m.cls := by rw [← hown]; exact findClass_of_methodNamed B.named
  subst hsz
  have hD := hD0.self (sz := s.heap.size)
  have hl := lv_entry av (n := maxL) hlen
  rw [lg_entry_eq]
  rw [hlv] at hl
  exact body (p, e, xRm fr lo, s, m, av.toArray, below, meth, c, va_A (wf M) s.heap.size, maxL, _) ⟨B.exec, B.bytes, hml, hown, fun w hw => hts w (List.mem_cons_of_mem _ hw), hK, fun q h => Or.inr h, B.notSynchronized, B.returns, rfl, rfl, rfl⟩ rfl s.heap [] _ hP hD va_S.rf hl
theorem x_entryV {l : Launch} {Y : xY} {wf : xM → va_W} {y : MethodName} {bytes : ByteArray} {maxL : Nat} {ret : Option FieldType} {fr lo : Nat} {av : List Value} {M : xM} {m0 : xM} {own : String} (lv : List (Nat × Value)) (hy : plainName y.cls = true) (hown : y.cls = own) (hlen : (lg_sl av).length ≤ maxL) (hlv : lv_args 0 av = lv)
    (body : ∀ X : xE, xC Y X bytes own ret maxL fr lo → xRV Y X wf m0 → xG Y l X wf M 0 lv []) : xcV l Y wf y bytes maxL ret fr lo av M m0 := by
  intro sz
  refine Met.ofW (cc := bytes) (maxL := maxL) (ret := ret) hy rfl ?_
  intro p e s m args below meth c s₁ B hml hv
  obtain ⟨rfl, hsz, hP, hK, hD0⟩ := hv
  have hts := atoms_spec (ws := .code y bytes maxL ret :: xw) B.pre
  have hown : s.vm.findClass own = some m.cls := by rw [← hown]; exact findClass_of_methodNamed B.named
  subst hsz
  have hD := hD0.self (sz := s.heap.size)
  have hl := lv_entry av (n := maxL) hlen
  rw [lg_entry_eq]
  rw [hlv] at hl
  exact body (p, e, xRm fr lo, s, m, av.toArray, below, meth, c, va_A (wf M) s.heap.size, maxL, _) ⟨B.exec, B.bytes, hml, hown, fun w hw => hts w (List.mem_cons_of_mem _ hw), hK, fun q h => Or.inr h, B.notSynchronized, B.returns, rfl, rfl, rfl⟩ rfl s.heap [] _ hP hD va_S.rf hl
section XR
variable {Y : xY} {l : Launch} {X : xE} {wf : xM → va_W} {M : xM} {cc : ByteArray} {own : String} {ret : Option FieldType} {N F Lc : Nat} {pc : Nat} {lv : List (Nat × Value)} {st : List Value}
theorem x_ilN (q : Nat) (C : xC Y X cc own ret N F Lc) {k : Fin 4} {i : Nat} {x : Int32} (hd : decode cc pc = .ok (.iload_n k, 1)) (t : Nat) (hv : lv[t]? = some (i, .int x)) (hi : (k : Nat) = i) (hq : pc + 1 = q) (kk : xG Y l X wf M q lv (.int x :: st)) : xG Y l X wf M pc lv (st) := by
  obtain ⟨p, e, R, s, m, args, below, meth, c, A, nL, Qc⟩ := X
  obtain ⟨hx, hb, hml, hown, hts, hK, hA, hlocks, hr, hRf, hRl, hN⟩ := C
  intro H locs ls hP hD hS hl
  subst hq
  exact lv_iload_n hx hb hd hi (lv_at hl t hv) (kk H locs ls hP hD hS hl)
theorem x_il (q : Nat) (C : xC Y X cc own ret N F Lc) {i : Nat} {x : Int32} (hd : decode cc pc = .ok (.iload i, 2)) (t : Nat) (hv : lv[t]? = some (i, .int x)) (hq : pc + 2 = q) (kk : xG Y l X wf M q lv (.int x :: st)) : xG Y l X wf M pc lv (st) := by
  obtain ⟨p, e, R, s, m, args, below, meth, c, A, nL, Qc⟩ := X
  obtain ⟨hx, hb, hml, hown, hts, hK, hA, hlocks, hr, hRf, hRl, hN⟩ := C
  intro H locs ls hP hD hS hl
  subst hq
  exact lv_iload hx hb hd (lv_at hl t hv) (kk H locs ls hP hD hS hl)
theorem x_llN (q : Nat) (C : xC Y X cc own ret N F Lc) {k : Fin 4} {i : Nat} {x : Int64} (hd : decode cc pc = .ok (.lload_n k, 1)) (t : Nat) (hv : lv[t]? = some (i, .long x)) (hi : (k : Nat) = i) (hq : pc + 1 = q) (kk : xG Y l X wf M q lv (.long x :: st)) : xG Y l X wf M pc lv (st) := by
  obtain ⟨p, e, R, s, m, args, below, meth, c, A, nL, Qc⟩ := X
  obtain ⟨hx, hb, hml, hown, hts, hK, hA, hlocks, hr, hRf, hRl, hN⟩ := C
  intro H locs ls hP hD hS hl
  subst hq
  exact lv_lload_n hx hb hd hi (lv_at hl t hv) (kk H locs ls hP hD hS hl)
theorem x_ll (q : Nat) (C : xC Y X cc own ret N F Lc) {i : Nat} {x : Int64} (hd : decode cc pc = .ok (.lload i, 2)) (t : Nat) (hv : lv[t]? = some (i, .long x)) (hq : pc + 2 = q) (kk : xG Y l X wf M q lv (.long x :: st)) : xG Y l X wf M pc lv (st) := by
  obtain ⟨p, e, R, s, m, args, below, meth, c, A, nL, Qc⟩ := X
  obtain ⟨hx, hb, hml, hown, hts, hK, hA, hlocks, hr, hRf, hRl, hN⟩ := C
  intro H locs ls hP hD hS hl
  subst hq
  exact lv_lload hx hb hd (lv_at hl t hv) (kk H locs ls hP hD hS hl)
theorem x_alN (q : Nat) (C : xC Y X cc own ret N F Lc) {k : Fin 4} {i : Nat} {x : Nat} (hd : decode cc pc = .ok (.aload_n k, 1)) (t : Nat) (hv : lv[t]? = some (i, .ref x)) (hi : (k : Nat) = i) (hq : pc + 1 = q) (kk : xG Y l X wf M q lv (.ref x :: st)) : xG Y l X wf M pc lv (st) := by
  obtain ⟨p, e, R, s, m, args, below, meth, c, A, nL, Qc⟩ := X
  obtain ⟨hx, hb, hml, hown, hts, hK, hA, hlocks, hr, hRf, hRl, hN⟩ := C
  intro H locs ls hP hD hS hl
  subst hq
  exact lv_aload_n hx hb hd hi (lv_at hl t hv) (kk H locs ls hP hD hS hl)
theorem x_isN (q : Nat) (C : xC Y X cc own ret N F Lc) {k : Fin 4} (i : Nat) {x : Int32} {lv2 : List (Nat × Value)} (hd : decode cc pc = .ok (.istore_n k, 1)) (hlv : (i, Value.int x) :: lv.filter (fun q => !(q.1 == i) && !(q.1 + 1 == i && q.2.category == 2)) = lv2) (hi : (k : Nat) = i) (hn : i < N) (hq : pc + 1 = q) (kk : xG Y l X wf M q lv2 (st)) : xG Y l X wf M pc lv (.int x :: st) := by
  obtain ⟨p, e, R, s, m, args, below, meth, c, A, nL, Qc⟩ := X
  obtain ⟨hx, hb, hml, hown, hts, hK, hA, hlocks, hr, hRf, hRl, hN⟩ := C
  intro H locs ls hP hD hS hl
  subst hq
  subst hN
  exact lv_istore_n hx hb hd hi hl hn hlv (fun ls hl => kk H locs ls hP hD hS hl)
theorem x_is (q : Nat) (C : xC Y X cc own ret N F Lc) (i : Nat) {x : Int32} {lv2 : List (Nat × Value)} (hd : decode cc pc = .ok (.istore i, 2)) (hlv : (i, Value.int x) :: lv.filter (fun q => !(q.1 == i) && !(q.1 + 1 == i && q.2.category == 2)) = lv2) (hn : i < N) (hq : pc + 2 = q) (kk : xG Y l X wf M q lv2 (st)) : xG Y l X wf M pc lv (.int x :: st) := by
  obtain ⟨p, e, R, s, m, args, below, meth, c, A, nL, Qc⟩ := X
  obtain ⟨hx, hb, hml, hown, hts, hK, hA, hlocks, hr, hRf, hRl, hN⟩ := C
  intro H locs ls hP hD hS hl
  subst hq
  subst hN
  exact lv_istore hx hb hd hl hn hlv (fun ls hl => kk H locs ls hP hD hS hl)
theorem x_lsN (q : Nat) (C : xC Y X cc own ret N F Lc) {k : Fin 4} (i : Nat) {x : Int64} {lv2 : List (Nat × Value)} (hd : decode cc pc = .ok (.lstore_n k, 1)) (hlv : (i, Value.long x) :: lv.filter (fun q => !(q.1 == i) && (!(q.1 == i + 1) && !(q.1 + 1 == i && q.2.category == 2))) = lv2) (hi : (k : Nat) = i) (hn : i + 1 < N) (hq : pc + 1 = q) (kk : xG Y l X wf M q lv2 (st)) : xG Y l X wf M pc lv (.long x :: st) := by
  obtain ⟨p, e, R, s, m, args, below, meth, c, A, nL, Qc⟩ := X
  obtain ⟨hx, hb, hml, hown, hts, hK, hA, hlocks, hr, hRf, hRl, hN⟩ := C
  intro H locs ls hP hD hS hl
  subst hq
  subst hN
  exact lv_lstore_n hx hb hd hi hl hn hlv (fun ls hl => kk H locs ls hP hD hS hl)
theorem x_ls (q : Nat) (C : xC Y X cc own ret N F Lc) (i : Nat) {x : Int64} {lv2 : List (Nat × Value)} (hd : decode cc pc = .ok (.lstore i, 2)) (hlv : (i, Value.long x) :: lv.filter (fun q => !(q.1 == i) && (!(q.1 == i + 1) && !(q.1 + 1 == i && q.2.category == 2))) = lv2) (hn : i + 1 < N) (hq : pc + 2 = q) (kk : xG Y l X wf M q lv2 (st)) : xG Y l X wf M pc lv (.long x :: st) := by
  obtain ⟨p, e, R, s, m, args, below, meth, c, A, nL, Qc⟩ := X
  obtain ⟨hx, hb, hml, hown, hts, hK, hA, hlocks, hr, hRf, hRl, hN⟩ := C
  intro H locs ls hP hD hS hl
  subst hq
  subst hN
  exact lv_lstore hx hb hd hl hn hlv (fun ls hl => kk H locs ls hP hD hS hl)
theorem x_iinc (q : Nat) (C : xC Y X cc own ret N F Lc) {i : Nat} {n : Int} {x : Int32} (v : Int32) {lv2 : List (Nat × Value)} (hd : decode cc pc = .ok (.iinc i n, 3)) (t : Nat) (hv : lv[t]? = some (i, .int x)) (hz : x + Int32.ofInt n = v) (hlv : (i, Value.int v) :: lv.filter (fun q => !(q.1 == i) && !(q.1 + 1 == i && q.2.category == 2)) = lv2) (hn : i < N) (hq : pc + 3 = q) (kk : xG Y l X wf M q lv2 (st)) : xG Y l X wf M pc lv (st) := by
  obtain ⟨p, e, R, s, m, args, below, meth, c, A, nL, Qc⟩ := X
  obtain ⟨hx, hb, hml, hown, hts, hK, hA, hlocks, hr, hRf, hRl, hN⟩ := C
  intro H locs ls hP hD hS hl
  subst hq
  subst hN
  exact lv_iinc hx hb hd hl hv hz hn hlv (fun ls hl => kk H locs ls hP hD hS hl)
theorem x_iconst (q : Nat) (C : xC Y X cc own ret N F Lc) {n : Int} (v : Int32) (hd : decode cc pc = .ok (.iconst n, 1)) (hv : Int32.ofInt n = v) (hq : pc + 1 = q) (kk : xG Y l X wf M q lv (.int v :: st)) : xG Y l X wf M pc lv (st) := by
  obtain ⟨p, e, R, s, m, args, below, meth, c, A, nL, Qc⟩ := X
  obtain ⟨hx, hb, hml, hown, hts, hK, hA, hlocks, hr, hRf, hRl, hN⟩ := C
  intro H locs ls hP hD hS hl
  subst hq
  exact lv_iconst hx hb hd hv (kk H locs ls hP hD hS hl)
theorem x_bipush (q : Nat) (C : xC Y X cc own ret N F Lc) {n : Int} (v : Int32) (hd : decode cc pc = .ok (.bipush n, 2)) (hv : (Int8.ofInt n).toInt32 = v) (hq : pc + 2 = q) (kk : xG Y l X wf M q lv (.int v :: st)) : xG Y l X wf M pc lv (st) := by
  obtain ⟨p, e, R, s, m, args, below, meth, c, A, nL, Qc⟩ := X
  obtain ⟨hx, hb, hml, hown, hts, hK, hA, hlocks, hr, hRf, hRl, hN⟩ := C
  intro H locs ls hP hD hS hl
  subst hq
  exact lv_bipush hx hb hd hv (kk H locs ls hP hD hS hl)
theorem x_sipush (q : Nat) (C : xC Y X cc own ret N F Lc) {n : Int} (v : Int32) (hd : decode cc pc = .ok (.sipush n, 3)) (hv : (Int16.ofInt n).toInt32 = v) (hq : pc + 3 = q) (kk : xG Y l X wf M q lv (.int v :: st)) : xG Y l X wf M pc lv (st) := by
  obtain ⟨p, e, R, s, m, args, below, meth, c, A, nL, Qc⟩ := X
  obtain ⟨hx, hb, hml, hown, hts, hK, hA, hlocks, hr, hRf, hRl, hN⟩ := C
  intro H locs ls hP hD hS hl
  subst hq
  exact lv_sipush hx hb hd hv (kk H locs ls hP hD hS hl)
theorem x_ldc2 (q : Nat) (C : xC Y X cc own ret N F Lc) {idx : Nat} {v : Int64} (hd : decode cc pc = .ok (.ldc2_w idx, 3)) (hw : Cond.constantLong own idx v ∈ xw) (hq : pc + 3 = q) (kk : xG Y l X wf M q lv (.long v :: st)) : xG Y l X wf M pc lv (st) := by
  obtain ⟨p, e, R, s, m, args, below, meth, c, A, nL, Qc⟩ := X
  obtain ⟨hx, hb, hml, hown, hts, hK, hA, hlocks, hr, hRf, hRl, hN⟩ := C
  intro H locs ls hP hD hS hl
  subst hq
  exact lv_ldc2 hx hb hown (hts _ hw) hd (kk H locs ls hP hD hS hl)
theorem x_iadd (q : Nat) (C : xC Y X cc own ret N F Lc) {x y : Int32} (hd : decode cc pc = .ok (.iadd, 1)) (hq : pc + 1 = q) (kk : xG Y l X wf M q lv (.int (x + y) :: st)) : xG Y l X wf M pc lv (.int y :: .int x :: st) := by
  obtain ⟨p, e, R, s, m, args, below, meth, c, A, nL, Qc⟩ := X
  obtain ⟨hx, hb, hml, hown, hts, hK, hA, hlocks, hr, hRf, hRl, hN⟩ := C
  intro H locs ls hP hD hS hl
  subst hq
  exact lv_iadd hx hb hd (kk H locs ls hP hD hS hl)
theorem x_isub (q : Nat) (C : xC Y X cc own ret N F Lc) {x y : Int32} (hd : decode cc pc = .ok (.isub, 1)) (hq : pc + 1 = q) (kk : xG Y l X wf M q lv (.int (x - y) :: st)) : xG Y l X wf M pc lv (.int y :: .int x :: st) := by
  obtain ⟨p, e, R, s, m, args, below, meth, c, A, nL, Qc⟩ := X
  obtain ⟨hx, hb, hml, hown, hts, hK, hA, hlocks, hr, hRf, hRl, hN⟩ := C
  intro H locs ls hP hD hS hl
  subst hq
  exact lv_isub hx hb hd (kk H locs ls hP hD hS hl)
theorem x_imul (q : Nat) (C : xC Y X cc own ret N F Lc) {x y : Int32} (hd : decode cc pc = .ok (.imul, 1)) (hq : pc + 1 = q) (kk : xG Y l X wf M q lv (.int (x * y) :: st)) : xG Y l X wf M pc lv (.int y :: .int x :: st) := by
  obtain ⟨p, e, R, s, m, args, below, meth, c, A, nL, Qc⟩ := X
  obtain ⟨hx, hb, hml, hown, hts, hK, hA, hlocks, hr, hRf, hRl, hN⟩ := C
  intro H locs ls hP hD hS hl
  subst hq
  exact lv_imul hx hb hd (kk H locs ls hP hD hS hl)
theorem x_iand (q : Nat) (C : xC Y X cc own ret N F Lc) {x y : Int32} (hd : decode cc pc = .ok (.iand, 1)) (hq : pc + 1 = q) (kk : xG Y l X wf M q lv (.int (x &&& y) :: st)) : xG Y l X wf M pc lv (.int y :: .int x :: st) := by
  obtain ⟨p, e, R, s, m, args, below, meth, c, A, nL, Qc⟩ := X
  obtain ⟨hx, hb, hml, hown, hts, hK, hA, hlocks, hr, hRf, hRl, hN⟩ := C
  intro H locs ls hP hD hS hl
  subst hq
  exact lv_iand hx hb hd (kk H locs ls hP hD hS hl)
theorem x_ior (q : Nat) (C : xC Y X cc own ret N F Lc) {x y : Int32} (hd : decode cc pc = .ok (.ior, 1)) (hq : pc + 1 = q) (kk : xG Y l X wf M q lv (.int (x ||| y) :: st)) : xG Y l X wf M pc lv (.int y :: .int x :: st) := by
  obtain ⟨p, e, R, s, m, args, below, meth, c, A, nL, Qc⟩ := X
  obtain ⟨hx, hb, hml, hown, hts, hK, hA, hlocks, hr, hRf, hRl, hN⟩ := C
  intro H locs ls hP hD hS hl
  subst hq
  exact lv_ior hx hb hd (kk H locs ls hP hD hS hl)
theorem x_ishl (q : Nat) (C : xC Y X cc own ret N F Lc) {x y : Int32} (hd : decode cc pc = .ok (.ishl, 1)) (hq : pc + 1 = q) (kk : xG Y l X wf M q lv (.int (x <<< (y &&& 31)) :: st)) : xG Y l X wf M pc lv (.int y :: .int x :: st) := by
  obtain ⟨p, e, R, s, m, args, below, meth, c, A, nL, Qc⟩ := X
  obtain ⟨hx, hb, hml, hown, hts, hK, hA, hlocks, hr, hRf, hRl, hN⟩ := C
  intro H locs ls hP hD hS hl
  subst hq
  exact lv_ishl hx hb hd (kk H locs ls hP hD hS hl)
theorem x_ladd (q : Nat) (C : xC Y X cc own ret N F Lc) {x y : Int64} (hd : decode cc pc = .ok (.ladd, 1)) (hq : pc + 1 = q) (kk : xG Y l X wf M q lv (.long (x + y) :: st)) : xG Y l X wf M pc lv (.long y :: .long x :: st) := by
  obtain ⟨p, e, R, s, m, args, below, meth, c, A, nL, Qc⟩ := X
  obtain ⟨hx, hb, hml, hown, hts, hK, hA, hlocks, hr, hRf, hRl, hN⟩ := C
  intro H locs ls hP hD hS hl
  subst hq
  exact lv_ladd hx hb hd (kk H locs ls hP hD hS hl)
theorem x_land (q : Nat) (C : xC Y X cc own ret N F Lc) {x y : Int64} (hd : decode cc pc = .ok (.land, 1)) (hq : pc + 1 = q) (kk : xG Y l X wf M q lv (.long (x &&& y) :: st)) : xG Y l X wf M pc lv (.long y :: .long x :: st) := by
  obtain ⟨p, e, R, s, m, args, below, meth, c, A, nL, Qc⟩ := X
  obtain ⟨hx, hb, hml, hown, hts, hK, hA, hlocks, hr, hRf, hRl, hN⟩ := C
  intro H locs ls hP hD hS hl
  subst hq
  exact lv_land hx hb hd (kk H locs ls hP hD hS hl)
theorem x_lor (q : Nat) (C : xC Y X cc own ret N F Lc) {x y : Int64} (hd : decode cc pc = .ok (.lor, 1)) (hq : pc + 1 = q) (kk : xG Y l X wf M q lv (.long (x ||| y) :: st)) : xG Y l X wf M pc lv (.long y :: .long x :: st) := by
  obtain ⟨p, e, R, s, m, args, below, meth, c, A, nL, Qc⟩ := X
  obtain ⟨hx, hb, hml, hown, hts, hK, hA, hlocks, hr, hRf, hRl, hN⟩ := C
  intro H locs ls hP hD hS hl
  subst hq
  exact lv_lor hx hb hd (kk H locs ls hP hD hS hl)
theorem x_lshl (q : Nat) (C : xC Y X cc own ret N F Lc) {x : Int64} {y : Int32} (hd : decode cc pc = .ok (.lshl, 1)) (hq : pc + 1 = q) (kk : xG Y l X wf M q lv (.long (x <<< (y.toInt64 &&& 63)) :: st)) : xG Y l X wf M pc lv (.int y :: .long x :: st) := by
  obtain ⟨p, e, R, s, m, args, below, meth, c, A, nL, Qc⟩ := X
  obtain ⟨hx, hb, hml, hown, hts, hK, hA, hlocks, hr, hRf, hRl, hN⟩ := C
  intro H locs ls hP hD hS hl
  subst hq
  exact lv_lshl hx hb hd rfl (kk H locs ls hP hD hS hl)
theorem x_lshr (q : Nat) (C : xC Y X cc own ret N F Lc) {x : Int64} {y : Int32} (hd : decode cc pc = .ok (.lshr, 1)) (hq : pc + 1 = q) (kk : xG Y l X wf M q lv (.long (x >>> (y.toInt64 &&& 63)) :: st)) : xG Y l X wf M pc lv (.int y :: .long x :: st) := by
  obtain ⟨p, e, R, s, m, args, below, meth, c, A, nL, Qc⟩ := X
  obtain ⟨hx, hb, hml, hown, hts, hK, hA, hlocks, hr, hRf, hRl, hN⟩ := C
  intro H locs ls hP hD hS hl
  subst hq
  exact lv_lshr hx hb hd rfl (kk H locs ls hP hD hS hl)
theorem x_i2l (q : Nat) (C : xC Y X cc own ret N F Lc) {x : Int32} (hd : decode cc pc = .ok (.i2l, 1)) (hq : pc + 1 = q) (kk : xG Y l X wf M q lv (.long x.toInt64 :: st)) : xG Y l X wf M pc lv (.int x :: st) := by
  obtain ⟨p, e, R, s, m, args, below, meth, c, A, nL, Qc⟩ := X
  obtain ⟨hx, hb, hml, hown, hts, hK, hA, hlocks, hr, hRf, hRl, hN⟩ := C
  intro H locs ls hP hD hS hl
  subst hq
  exact lv_i2l hx hb hd rfl (kk H locs ls hP hD hS hl)
theorem x_l2i (q : Nat) (C : xC Y X cc own ret N F Lc) {x : Int64} (hd : decode cc pc = .ok (.l2i, 1)) (hq : pc + 1 = q) (kk : xG Y l X wf M q lv (.int x.toInt32 :: st)) : xG Y l X wf M pc lv (.long x :: st) := by
  obtain ⟨p, e, R, s, m, args, below, meth, c, A, nL, Qc⟩ := X
  obtain ⟨hx, hb, hml, hown, hts, hK, hA, hlocks, hr, hRf, hRl, hN⟩ := C
  intro H locs ls hP hD hS hl
  subst hq
  exact lv_l2i hx hb hd rfl (kk H locs ls hP hD hS hl)
theorem x_lcmp (q : Nat) (C : xC Y X cc own ret N F Lc) {x y : Int64} (hd : decode cc pc = .ok (.lcmp, 1)) (hq : pc + 1 = q) (kk : xG Y l X wf M q lv (.int (lg_cmp x y) :: st)) : xG Y l X wf M pc lv (.long y :: .long x :: st) := by
  obtain ⟨p, e, R, s, m, args, below, meth, c, A, nL, Qc⟩ := X
  obtain ⟨hx, hb, hml, hown, hts, hK, hA, hlocks, hr, hRf, hRl, hN⟩ := C
  intro H locs ls hP hD hS hl
  subst hq
  exact W.lcmp hx hb hd (kk H locs ls hP hD hS hl)
theorem x_dup (q : Nat) (C : xC Y X cc own ret N F Lc) {va : Value} (hd : decode cc pc = .ok (.dup, 1)) (hc : va.category = 1) (hq : pc + 1 = q) (kk : xG Y l X wf M q lv (va :: va :: st)) : xG Y l X wf M pc lv (va :: st) := by
  obtain ⟨p, e, R, s, m, args, below, meth, c, A, nL, Qc⟩ := X
  obtain ⟨hx, hb, hml, hown, hts, hK, hA, hlocks, hr, hRf, hRl, hN⟩ := C
  intro H locs ls hP hD hS hl
  subst hq
  exact lv_dup hx hb hd hc (kk H locs ls hP hD hS hl)
theorem x_dup2 (q : Nat) (C : xC Y X cc own ret N F Lc) {va vb : Value} (hd : decode cc pc = .ok (.dup2, 1)) (hc : va.category = 1) (hc2 : vb.category = 1) (hq : pc + 1 = q) (kk : xG Y l X wf M q lv (va :: vb :: va :: vb :: st)) : xG Y l X wf M pc lv (va :: vb :: st) := by
  obtain ⟨p, e, R, s, m, args, below, meth, c, A, nL, Qc⟩ := X
  obtain ⟨hx, hb, hml, hown, hts, hK, hA, hlocks, hr, hRf, hRl, hN⟩ := C
  intro H locs ls hP hD hS hl
  subst hq
  exact lv_dup2_11 hx hb hd hc hc2 (kk H locs ls hP hD hS hl)
theorem x_pop (q : Nat) (C : xC Y X cc own ret N F Lc) {va : Value} (hd : decode cc pc = .ok (.pop, 1)) (hc : va.category = 1) (hq : pc + 1 = q) (kk : xG Y l X wf M q lv (st)) : xG Y l X wf M pc lv (va :: st) := by
  obtain ⟨p, e, R, s, m, args, below, meth, c, A, nL, Qc⟩ := X
  obtain ⟨hx, hb, hml, hown, hts, hK, hA, hlocks, hr, hRf, hRl, hN⟩ := C
  intro H locs ls hP hD hS hl
  subst hq
  exact lv_pop hx hb hd hc (kk H locs ls hP hD hS hl)
theorem x_goto (q : Nat) (C : xC Y X cc own ret N F Lc) {off : Int} (hd : decode cc pc = .ok (.goto off, 3)) (ht : (pc : Int) + off = (q : Int)) (kk : xG Y l X wf M q lv (st)) : xG Y l X wf M pc lv (st) := by
  obtain ⟨p, e, R, s, m, args, below, meth, c, A, nL, Qc⟩ := X
  obtain ⟨hx, hb, hml, hown, hts, hK, hA, hlocks, hr, hRf, hRl, hN⟩ := C
  intro H locs ls hP hD hS hl
  exact lv_goto hx hb hd ht (kk H locs ls hP hD hS hl)
theorem x_sub {lv2 : List (Nat × Value)} (ks : List Nat) (hk : lv_pick lv ks = lv2) (kk : xG Y l X wf M pc lv2 st) : xG Y l X wf M pc lv st := by
  obtain ⟨p, e, R, s, m, args, below, meth, c, A, nL, Qc⟩ := X
  intro H locs ls hP hD hS hl
  exact kk H locs ls hP hD hS (lv_sub hl ks hk)
theorem x_if_eq (q : Nat) (C : xC Y X cc own ret N F Lc) (tgt : Nat) {x : Int32} {off : Int} {ρ : Type} {r : ρ} {A B : Option ρ} {_ : Decidable (x = 0)} (hd : decode cc pc = .ok (.ifCond .eq off, 3)) (ht : (pc : Int) + off = (tgt : Int)) (hq : pc + 3 = q) (hf : (if x = 0 then A else B) = some r) (kt : A = some r → xG Y l X wf M tgt lv (st)) (kf : B = some r → xG Y l X wf M q lv (st)) : xG Y l X wf M pc lv (.int x :: st) := by
  obtain ⟨p, e, R, s, m, args, below, meth, c, A, nL, Qc⟩ := X
  obtain ⟨hx, hb, hml, hown, hts, hK, hA, hlocks, hr, hRf, hRl, hN⟩ := C
  intro H locs ls hP hD hS hl
  subst hq
  exact lv_if_eq hx hb hd ht (fun h => kt (by rw [if_pos h] at hf; exact hf) H locs ls hP hD hS hl) (fun h => kf (by rw [if_neg h] at hf; exact hf) H locs ls hP hD hS hl)
theorem x_icmp_eq (q : Nat) (C : xC Y X cc own ret N F Lc) (tgt : Nat) {x y : Int32} {off : Int} {ρ : Type} {r : ρ} {A B : Option ρ} {_ : Decidable (x = y)} (hd : decode cc pc = .ok (.if_icmp .eq off, 3)) (ht : (pc : Int) + off = (tgt : Int)) (hq : pc + 3 = q) (hf : (if x = y then A else B) = some r) (kt : A = some r → xG Y l X wf M tgt lv (st)) (kf : B = some r → xG Y l X wf M q lv (st)) : xG Y l X wf M pc lv (.int y :: .int x :: st) := by
  obtain ⟨p, e, R, s, m, args, below, meth, c, A, nL, Qc⟩ := X
  obtain ⟨hx, hb, hml, hown, hts, hK, hA, hlocks, hr, hRf, hRl, hN⟩ := C
  intro H locs ls hP hD hS hl
  subst hq
  exact lv_icmp_eq hx hb hd ht (fun h => kt (by rw [if_pos h] at hf; exact hf) H locs ls hP hD hS hl) (fun h => kf (by rw [if_neg h] at hf; exact hf) H locs ls hP hD hS hl)
theorem x_if_ne (q : Nat) (C : xC Y X cc own ret N F Lc) (tgt : Nat) {x : Int32} {off : Int} {ρ : Type} {r : ρ} {A B : Option ρ} {_ : Decidable (x = 0)} (hd : decode cc pc = .ok (.ifCond .ne off, 3)) (ht : (pc : Int) + off = (tgt : Int)) (hq : pc + 3 = q) (hf : (if x = 0 then A else B) = some r) (kt : B = some r → xG Y l X wf M tgt lv (st)) (kf : A = some r → xG Y l X wf M q lv (st)) : xG Y l X wf M pc lv (.int x :: st) := by
  obtain ⟨p, e, R, s, m, args, below, meth, c, A, nL, Qc⟩ := X
  obtain ⟨hx, hb, hml, hown, hts, hK, hA, hlocks, hr, hRf, hRl, hN⟩ := C
  intro H locs ls hP hD hS hl
  subst hq
  exact lv_if_ne hx hb hd ht (fun h => kt (by rw [if_neg h] at hf; exact hf) H locs ls hP hD hS hl) (fun h => kf (by rw [if_pos h] at hf; exact hf) H locs ls hP hD hS hl)
theorem x_icmp_ne (q : Nat) (C : xC Y X cc own ret N F Lc) (tgt : Nat) {x y : Int32} {off : Int} {ρ : Type} {r : ρ} {A B : Option ρ} {_ : Decidable (x = y)} (hd : decode cc pc = .ok (.if_icmp .ne off, 3)) (ht : (pc : Int) + off = (tgt : Int)) (hq : pc + 3 = q) (hf : (if x = y then A else B) = some r) (kt : B = some r → xG Y l X wf M tgt lv (st)) (kf : A = some r → xG Y l X wf M q lv (st)) : xG Y l X wf M pc lv (.int y :: .int x :: st) := by
  obtain ⟨p, e, R, s, m, args, below, meth, c, A, nL, Qc⟩ := X
  obtain ⟨hx, hb, hml, hown, hts, hK, hA, hlocks, hr, hRf, hRl, hN⟩ := C
  intro H locs ls hP hD hS hl
  subst hq
  exact lv_icmp_ne hx hb hd ht (fun h => kt (by rw [if_neg h] at hf; exact hf) H locs ls hP hD hS hl) (fun h => kf (by rw [if_pos h] at hf; exact hf) H locs ls hP hD hS hl)
theorem x_if_lt (q : Nat) (C : xC Y X cc own ret N F Lc) (tgt : Nat) {x : Int32} {off : Int} {ρ : Type} {r : ρ} {A B : Option ρ} {_ : Decidable (x < 0)} (hd : decode cc pc = .ok (.ifCond .lt off, 3)) (ht : (pc : Int) + off = (tgt : Int)) (hq : pc + 3 = q) (hf : (if x < 0 then A else B) = some r) (kt : A = some r → xG Y l X wf M tgt lv (st)) (kf : B = some r → xG Y l X wf M q lv (st)) : xG Y l X wf M pc lv (.int x :: st) := by
  obtain ⟨p, e, R, s, m, args, below, meth, c, A, nL, Qc⟩ := X
  obtain ⟨hx, hb, hml, hown, hts, hK, hA, hlocks, hr, hRf, hRl, hN⟩ := C
  intro H locs ls hP hD hS hl
  subst hq
  exact lv_if_lt hx hb hd ht (fun h => kt (by rw [if_pos h] at hf; exact hf) H locs ls hP hD hS hl) (fun h => kf (by rw [if_neg h] at hf; exact hf) H locs ls hP hD hS hl)
theorem x_icmp_lt (q : Nat) (C : xC Y X cc own ret N F Lc) (tgt : Nat) {x y : Int32} {off : Int} {ρ : Type} {r : ρ} {A B : Option ρ} {_ : Decidable (x < y)} (hd : decode cc pc = .ok (.if_icmp .lt off, 3)) (ht : (pc : Int) + off = (tgt : Int)) (hq : pc + 3 = q) (hf : (if x < y then A else B) = some r) (kt : A = some r → xG Y l X wf M tgt lv (st)) (kf : B = some r → xG Y l X wf M q lv (st)) : xG Y l X wf M pc lv (.int y :: .int x :: st) := by
  obtain ⟨p, e, R, s, m, args, below, meth, c, A, nL, Qc⟩ := X
  obtain ⟨hx, hb, hml, hown, hts, hK, hA, hlocks, hr, hRf, hRl, hN⟩ := C
  intro H locs ls hP hD hS hl
  subst hq
  exact lv_icmp_lt hx hb hd ht (fun h => kt (by rw [if_pos h] at hf; exact hf) H locs ls hP hD hS hl) (fun h => kf (by rw [if_neg h] at hf; exact hf) H locs ls hP hD hS hl)
theorem x_if_ge (q : Nat) (C : xC Y X cc own ret N F Lc) (tgt : Nat) {x : Int32} {off : Int} {ρ : Type} {r : ρ} {A B : Option ρ} {_ : Decidable (0 ≤ x)} (hd : decode cc pc = .ok (.ifCond .ge off, 3)) (ht : (pc : Int) + off = (tgt : Int)) (hq : pc + 3 = q) (hf : (if 0 ≤ x then A else B) = some r) (kt : A = some r → xG Y l X wf M tgt lv (st)) (kf : B = some r → xG Y l X wf M q lv (st)) : xG Y l X wf M pc lv (.int x :: st) := by
  obtain ⟨p, e, R, s, m, args, below, meth, c, A, nL, Qc⟩ := X
  obtain ⟨hx, hb, hml, hown, hts, hK, hA, hlocks, hr, hRf, hRl, hN⟩ := C
  intro H locs ls hP hD hS hl
  subst hq
  exact lv_if_ge hx hb hd ht (fun h => kt (by rw [if_pos h] at hf; exact hf) H locs ls hP hD hS hl) (fun h => kf (by rw [if_neg h] at hf; exact hf) H locs ls hP hD hS hl)
theorem x_icmp_ge (q : Nat) (C : xC Y X cc own ret N F Lc) (tgt : Nat) {x y : Int32} {off : Int} {ρ : Type} {r : ρ} {A B : Option ρ} {_ : Decidable (y ≤ x)} (hd : decode cc pc = .ok (.if_icmp .ge off, 3)) (ht : (pc : Int) + off = (tgt : Int)) (hq : pc + 3 = q) (hf : (if y ≤ x then A else B) = some r) (kt : A = some r → xG Y l X wf M tgt lv (st)) (kf : B = some r → xG Y l X wf M q lv (st)) : xG Y l X wf M pc lv (.int y :: .int x :: st) := by
  obtain ⟨p, e, R, s, m, args, below, meth, c, A, nL, Qc⟩ := X
  obtain ⟨hx, hb, hml, hown, hts, hK, hA, hlocks, hr, hRf, hRl, hN⟩ := C
  intro H locs ls hP hD hS hl
  subst hq
  exact lv_icmp_ge hx hb hd ht (fun h => kt (by rw [if_pos h] at hf; exact hf) H locs ls hP hD hS hl) (fun h => kf (by rw [if_neg h] at hf; exact hf) H locs ls hP hD hS hl)
theorem x_if_gt (q : Nat) (C : xC Y X cc own ret N F Lc) (tgt : Nat) {x : Int32} {off : Int} {ρ : Type} {r : ρ} {A B : Option ρ} {_ : Decidable (0 < x)} (hd : decode cc pc = .ok (.ifCond .gt off, 3)) (ht : (pc : Int) + off = (tgt : Int)) (hq : pc + 3 = q) (hf : (if 0 < x then A else B) = some r) (kt : A = some r → xG Y l X wf M tgt lv (st)) (kf : B = some r → xG Y l X wf M q lv (st)) : xG Y l X wf M pc lv (.int x :: st) := by
  obtain ⟨p, e, R, s, m, args, below, meth, c, A, nL, Qc⟩ := X
  obtain ⟨hx, hb, hml, hown, hts, hK, hA, hlocks, hr, hRf, hRl, hN⟩ := C
  intro H locs ls hP hD hS hl
  subst hq
  exact lv_if_gt hx hb hd ht (fun h => kt (by rw [if_pos h] at hf; exact hf) H locs ls hP hD hS hl) (fun h => kf (by rw [if_neg h] at hf; exact hf) H locs ls hP hD hS hl)
theorem x_icmp_gt (q : Nat) (C : xC Y X cc own ret N F Lc) (tgt : Nat) {x y : Int32} {off : Int} {ρ : Type} {r : ρ} {A B : Option ρ} {_ : Decidable (y < x)} (hd : decode cc pc = .ok (.if_icmp .gt off, 3)) (ht : (pc : Int) + off = (tgt : Int)) (hq : pc + 3 = q) (hf : (if y < x then A else B) = some r) (kt : A = some r → xG Y l X wf M tgt lv (st)) (kf : B = some r → xG Y l X wf M q lv (st)) : xG Y l X wf M pc lv (.int y :: .int x :: st) := by
  obtain ⟨p, e, R, s, m, args, below, meth, c, A, nL, Qc⟩ := X
  obtain ⟨hx, hb, hml, hown, hts, hK, hA, hlocks, hr, hRf, hRl, hN⟩ := C
  intro H locs ls hP hD hS hl
  subst hq
  exact lv_icmp_gt hx hb hd ht (fun h => kt (by rw [if_pos h] at hf; exact hf) H locs ls hP hD hS hl) (fun h => kf (by rw [if_neg h] at hf; exact hf) H locs ls hP hD hS hl)
theorem x_if_le (q : Nat) (C : xC Y X cc own ret N F Lc) (tgt : Nat) {x : Int32} {off : Int} {ρ : Type} {r : ρ} {A B : Option ρ} {_ : Decidable (x ≤ 0)} (hd : decode cc pc = .ok (.ifCond .le off, 3)) (ht : (pc : Int) + off = (tgt : Int)) (hq : pc + 3 = q) (hf : (if x ≤ 0 then A else B) = some r) (kt : A = some r → xG Y l X wf M tgt lv (st)) (kf : B = some r → xG Y l X wf M q lv (st)) : xG Y l X wf M pc lv (.int x :: st) := by
  obtain ⟨p, e, R, s, m, args, below, meth, c, A, nL, Qc⟩ := X
  obtain ⟨hx, hb, hml, hown, hts, hK, hA, hlocks, hr, hRf, hRl, hN⟩ := C
  intro H locs ls hP hD hS hl
  subst hq
  exact lv_if_le hx hb hd ht (fun h => kt (by rw [if_pos h] at hf; exact hf) H locs ls hP hD hS hl) (fun h => kf (by rw [if_neg h] at hf; exact hf) H locs ls hP hD hS hl)
theorem x_icmp_le (q : Nat) (C : xC Y X cc own ret N F Lc) (tgt : Nat) {x y : Int32} {off : Int} {ρ : Type} {r : ρ} {A B : Option ρ} {_ : Decidable (x ≤ y)} (hd : decode cc pc = .ok (.if_icmp .le off, 3)) (ht : (pc : Int) + off = (tgt : Int)) (hq : pc + 3 = q) (hf : (if x ≤ y then A else B) = some r) (kt : A = some r → xG Y l X wf M tgt lv (st)) (kf : B = some r → xG Y l X wf M q lv (st)) : xG Y l X wf M pc lv (.int y :: .int x :: st) := by
  obtain ⟨p, e, R, s, m, args, below, meth, c, A, nL, Qc⟩ := X
  obtain ⟨hx, hb, hml, hown, hts, hK, hA, hlocks, hr, hRf, hRl, hN⟩ := C
  intro H locs ls hP hD hS hl
  subst hq
  exact lv_icmp_le hx hb hd ht (fun h => kt (by rw [if_pos h] at hf; exact hf) H locs ls hP hD hS hl) (fun h => kf (by rw [if_neg h] at hf; exact hf) H locs ls hP hD hS hl)
theorem x_get (q : Nat) (C : xC Y X cc own ret N F Lc) (q0 : Nat) {idx ci k N2 : Nat} {a : Nat} {C2 : String} {T : u_T} {fs : List Value} {v : Value} (he : (wf M)[q0]? = some (a, .inr (ci, fs))) (hv : fs[k]? = some v) (hc : vwCl[ci]? = some (C2, T, N2)) (hin : ∀ w ∈ u_ws C2 T N2, w ∈ xw) (hk : k < N2) (hw : Cond.fieldLink own idx (T k).1 (T k).2.1 (T k).2.2.1 ∈ xw) (hd : decode cc pc = .ok (.getfield idx, 3)) (hq : pc + 3 = q) (kk : xG Y l X wf M q lv (v :: st)) : xG Y l X wf M pc lv (.ref a :: st) := by
  obtain ⟨p, e, R, s, m, args, below, meth, c, A, nL, Qc⟩ := X
  obtain ⟨hx, hb, hml, hown, hts, hK, hA, hlocks, hr, hRf, hRl, hN⟩ := C
  intro H locs ls hP hD hS hl
  subst hq
  exact va_get hx hb hts hin hown hK hP q0 he hc k hk (hts _ hw) (fun _ h9 => h9) hv hd (kk H locs ls hP hD hS hl)
theorem x_putI (q : Nat) (C : xC Y X cc own ret N F Lc) (q0 : Nat) {idx ci k N2 : Nat} {a : Nat} {C2 : String} {T : u_T} {fs : List Value} {v : Int32} {M2 : xM} (ty0 : Nat → FieldType) (hty : ∀ k, k < N2 → parseFieldDescriptor (T k).2.2.1 = some (ty0 k)) (hnm : ∀ a, a < N2 → ∀ b, b < N2 → a ≠ b → (T a).2.1 ≠ (T b).2.1) (he : (wf M)[q0]? = some (a, .inr (ci, fs))) (hs : (wf M).set q0 (a, .inr (ci, fs.set k (.int v))) = wf M2) (hc : vwCl[ci]? = some (C2, T, N2)) (hin : ∀ w ∈ u_ws C2 T N2, w ∈ xw) (hk : k < N2) (hl2 : k < fs.length) (hw : Cond.fieldLink own idx (T k).1 (T k).2.1 (T k).2.2.1 ∈ xw) (hfin : (T k).2.2.2 = false) (hdsc : parseFieldDescriptor (T k).2.2.1 = some .int) (hd : decode cc pc = .ok (.putfield idx, 3)) (hq : pc + 3 = q) (kk : xG Y l X wf M2 q lv (st)) : xG Y l X wf M pc lv (.int v :: .ref a :: st) := by
  obtain ⟨p, e, R, s, m, args, below, meth, c, A, nL, Qc⟩ := X
  obtain ⟨hx, hb, hml, hown, hts, hK, hA, hlocks, hr, hRf, hRl, hN⟩ := C
  intro H locs ls hP hD hS hl
  subst hq
  refine va_put hx hb hts hin ty0 hty hnm hown hK hP hD hS q0 he hc k hk (hts _ hw) (fun _ h9 => h9) hfin hdsc rfl rfl hl2 hd (fun H1 locs1 hP hD hS => ?_)
  rw [hs] at hP hD
  exact kk H1 locs1 ls hP hD hS hl
theorem x_iald (q : Nat) (C : xC Y X cc own ret N F Lc) (q0 : Nat) {n a : Nat} {f : Nat → Int32} {i : Int32} {ρ : Type} {r : ρ} {K : Int32 → Option ρ} (ha : (wf M)[q0]? = some (a, .inl (Y.2.1, n, .inl f))) (hd : decode cc pc = .ok (.iaload, 1)) (hq : pc + 1 = q) (hf : xrd n f i K = some r) (kk : ∀ x : Int32, K x = some r → xG Y l X wf M q lv (.int x :: st)) : xG Y l X wf M pc lv (.int i :: .ref a :: st) := by
  obtain ⟨p, e, R, s, m, args, below, meth, c, A, nL, Qc⟩ := X
  obtain ⟨hx, hb, hml, hown, hts, hK, hA, hlocks, hr, hRf, hRl, hN⟩ := C
  intro H locs ls hP hD hS hl
  subst hq
  unfold xrd at hf
  by_cases hin : ¬ (i < 0 ∨ n ≤ i.toNatClampNeg)
  · rw [if_pos hin] at hf
    exact va_iald hx hb hK hP q0 0 ha rfl hin hd (kk _ hf H locs ls hP hD hS hl)
  · rw [if_neg hin] at hf
    cases hf
theorem x_zald (q : Nat) (C : xC Y X cc own ret N F Lc) (q0 : Nat) {n a : Nat} {f : Nat → Int32} {i : Int32} {ρ : Type} {r : ρ} {K : Int32 → Option ρ} (ha : (wf M)[q0]? = some (a, .inl (Y.2.2.2.1, n, .inl f))) (hd : decode cc pc = .ok (.baload, 1)) (hq : pc + 1 = q) (hf : xrd n f i K = some r) (kk : ∀ x : Int32, K x = some r → xG Y l X wf M q lv (.int x :: st)) : xG Y l X wf M pc lv (.int i :: .ref a :: st) := by
  obtain ⟨p, e, R, s, m, args, below, meth, c, A, nL, Qc⟩ := X
  obtain ⟨hx, hb, hml, hown, hts, hK, hA, hlocks, hr, hRf, hRl, hN⟩ := C
  intro H locs ls hP hD hS hl
  subst hq
  unfold xrd at hf
  by_cases hin : ¬ (i < 0 ∨ n ≤ i.toNatClampNeg)
  · rw [if_pos hin] at hf
    exact va_zald hx hb hK hP q0 2 ha rfl hin hd (kk _ hf H locs ls hP hD hS hl)
  · rw [if_neg hin] at hf
    cases hf
theorem x_lald (q : Nat) (C : xC Y X cc own ret N F Lc) (q0 : Nat) {n a : Nat} {f : Nat → Int64} {i : Int32} {ρ : Type} {r : ρ} {K : Int64 → Option ρ} (ha : (wf M)[q0]? = some (a, .inl (Y.2.2.1, n, .inr (.inl f)))) (hd : decode cc pc = .ok (.laload, 1)) (hq : pc + 1 = q) (hf : xrd n f i K = some r) (kk : ∀ x : Int64, K x = some r → xG Y l X wf M q lv (.long x :: st)) : xG Y l X wf M pc lv (.int i :: .ref a :: st) := by
  obtain ⟨p, e, R, s, m, args, below, meth, c, A, nL, Qc⟩ := X
  obtain ⟨hx, hb, hml, hown, hts, hK, hA, hlocks, hr, hRf, hRl, hN⟩ := C
  intro H locs ls hP hD hS hl
  subst hq
  unfold xrd at hf
  by_cases hin : ¬ (i < 0 ∨ n ≤ i.toNatClampNeg)
  · rw [if_pos hin] at hf
    exact va_lald hx hb hK hP q0 1 ha rfl hin hd (kk _ hf H locs ls hP hD hS hl)
  · rw [if_neg hin] at hf
    cases hf
theorem x_iast (q : Nat) (C : xC Y X cc own ret N F Lc) (q0 : Nat) {n a k : Nat} {f : Nat → Int32} {i : Int32} {x : Int32} {ρ : Type} {r : ρ} {K : xM → Option ρ} (ha : (wf M)[q0]? = some (a, .inl (Y.2.1, n, .inl f))) (hs : ∀ (j : Nat) (v : Int32), (wf M).set q0 (a, .inl (Y.2.1, n, .inl (upd f j v))) = wf (xI M k j v)) (hd : decode cc pc = .ok (.iastore, 1)) (hq : pc + 1 = q) (hf : xwI n M k i x K = some r) (kk : ∀ M2 : xM, K M2 = some r → xG Y l X wf M2 q lv (st)) : xG Y l X wf M pc lv (.int x :: .int i :: .ref a :: st) := by
  obtain ⟨p, e, R, s, m, args, below, meth, c, A, nL, Qc⟩ := X
  obtain ⟨hx, hb, hml, hown, hts, hK, hA, hlocks, hr, hRf, hRl, hN⟩ := C
  intro H locs ls hP hD hS hl
  subst hq
  unfold xwI at hf
  by_cases hin : ¬ (i < 0 ∨ n ≤ i.toNatClampNeg)
  · rw [if_pos hin] at hf
    refine va_iast hx hb hK hP hD hS q0 0 ha rfl hin hd (fun H1 locs1 hP hD hS => ?_)
    rw [hs] at hP hD
    exact kk _ hf H1 locs1 ls hP hD hS hl
  · rw [if_neg hin] at hf
    cases hf
theorem x_zast (q : Nat) (C : xC Y X cc own ret N F Lc) (q0 : Nat) {n a k : Nat} {f : Nat → Int32} {i : Int32} {x : Int32} {ρ : Type} {r : ρ} {K : xM → Option ρ} (ha : (wf M)[q0]? = some (a, .inl (Y.2.2.2.1, n, .inl f))) (hs : ∀ (j : Nat) (v : Int32), (wf M).set q0 (a, .inl (Y.2.2.2.1, n, .inl (upd f j v))) = wf (xI M k j v)) (hd : decode cc pc = .ok (.bastore, 1)) (hq : pc + 1 = q) (hf : xwI n M k i (vp_nar .boolean x) K = some r) (kk : ∀ M2 : xM, K M2 = some r → xG Y l X wf M2 q lv (st)) : xG Y l X wf M pc lv (.int x :: .int i :: .ref a :: st) := by
  obtain ⟨p, e, R, s, m, args, below, meth, c, A, nL, Qc⟩ := X
  obtain ⟨hx, hb, hml, hown, hts, hK, hA, hlocks, hr, hRf, hRl, hN⟩ := C
  intro H locs ls hP hD hS hl
  subst hq
  unfold xwI at hf
  by_cases hin : ¬ (i < 0 ∨ n ≤ i.toNatClampNeg)
  · rw [if_pos hin] at hf
    refine va_zast hx hb hK hP hD hS q0 2 ha rfl hin hd (fun H1 locs1 hP hD hS => ?_)
    rw [hs] at hP hD
    exact kk _ hf H1 locs1 ls hP hD hS hl
  · rw [if_neg hin] at hf
    cases hf
theorem x_last (q : Nat) (C : xC Y X cc own ret N F Lc) (q0 : Nat) {n a k : Nat} {f : Nat → Int64} {i : Int32} {x : Int64} {ρ : Type} {r : ρ} {K : xM → Option ρ} (ha : (wf M)[q0]? = some (a, .inl (Y.2.2.1, n, .inr (.inl f)))) (hs : ∀ (j : Nat) (v : Int64), (wf M).set q0 (a, .inl (Y.2.2.1, n, .inr (.inl (vp_updL f j v)))) = wf (xJ M k j v)) (hd : decode cc pc = .ok (.lastore, 1)) (hq : pc + 1 = q) (hf : xwJ n M k i x K = some r) (kk : ∀ M2 : xM, K M2 = some r → xG Y l X wf M2 q lv (st)) : xG Y l X wf M pc lv (.long x :: .int i :: .ref a :: st) := by
  obtain ⟨p, e, R, s, m, args, below, meth, c, A, nL, Qc⟩ := X
  obtain ⟨hx, hb, hml, hown, hts, hK, hA, hlocks, hr, hRf, hRl, hN⟩ := C
  intro H locs ls hP hD hS hl
  subst hq
  unfold xwJ at hf
  by_cases hin : ¬ (i < 0 ∨ n ≤ i.toNatClampNeg)
  · rw [if_pos hin] at hf
    refine va_last hx hb hK hP hD hS q0 1 ha rfl hin hd (fun H1 locs1 hP hD hS => ?_)
    rw [hs] at hP hD
    exact kk _ hf H1 locs1 ls hP hD hS hl
  · rw [if_neg hin] at hf
    cases hf
theorem x_alenI (q : Nat) (C : xC Y X cc own ret N F Lc) (q0 : Nat) {n a : Nat} {f : Nat → Int32} (v : Int32) (ha : (wf M)[q0]? = some (a, .inl (Y.2.1, n, .inl f))) (hv : Int32.ofNat n = v) (hd : decode cc pc = .ok (.arraylength, 1)) (hq : pc + 1 = q) (kk : xG Y l X wf M q lv (.int v :: st)) : xG Y l X wf M pc lv (.ref a :: st) := by
  obtain ⟨p, e, R, s, m, args, below, meth, c, A, nL, Qc⟩ := X
  obtain ⟨hx, hb, hml, hown, hts, hK, hA, hlocks, hr, hRf, hRl, hN⟩ := C
  intro H locs ls hP hD hS hl
  subst hq
  exact va_alen hx hb hK hP q0 0 ha rfl hv hd (kk H locs ls hP hD hS hl)
theorem x_alenJ (q : Nat) (C : xC Y X cc own ret N F Lc) (q0 : Nat) {n a : Nat} {f : Nat → Int64} (v : Int32) (ha : (wf M)[q0]? = some (a, .inl (Y.2.2.1, n, .inr (.inl f)))) (hv : Int32.ofNat n = v) (hd : decode cc pc = .ok (.arraylength, 1)) (hq : pc + 1 = q) (kk : xG Y l X wf M q lv (.int v :: st)) : xG Y l X wf M pc lv (.ref a :: st) := by
  obtain ⟨p, e, R, s, m, args, below, meth, c, A, nL, Qc⟩ := X
  obtain ⟨hx, hb, hml, hown, hts, hK, hA, hlocks, hr, hRf, hRl, hN⟩ := C
  intro H locs ls hP hD hS hl
  subst hq
  exact va_alen hx hb hK hP q0 1 ha rfl hv hd (kk H locs ls hP hD hS hl)
theorem x_iretP (C : xC Y X cc own ret N F Lc) {r0 : Int32} (HQ : xRI Y X wf r0 M) {v : Int32} {ty : FieldType} (hret : ret = some ty) (hn : narrow ty (.int v) = .int v) (hd : decode cc pc = .ok (.ireturn, 1)) (hf : some v = some r0) : xG Y l X wf M pc lv ([.int v]) := by
  obtain ⟨p, e, R, s, m, args, below, meth, c, A, nL, Qc⟩ := X
  obtain ⟨hx, hb, hml, hown, hts, hK, hA, hlocks, hr, hRf, hRl, hN⟩ := C
  intro H locs ls hP hD hS hl
  have hQ : Qc = _ := HQ
  subst hQ
  subst hret
  cases hf
  exact W.zret hx hb hr hn (fun t ht hW => ⟨⟨_, _, rfl, ⟨rfl, rfl⟩, by rw [ht]; exact hP, va_K.moved hW.alike hK, hD⟩, hS.F ht⟩) hS.2.2 hd hlocks
theorem x_iretM (C : xC Y X cc own ret N F Lc) {z0 : Int32 × xM} (HQ : xRI Y X wf z0.1 z0.2) {v : Int32} {ty : FieldType} (hret : ret = some ty) (hn : narrow ty (.int v) = .int v) (hd : decode cc pc = .ok (.ireturn, 1)) (hf : some (v, M) = some z0) : xG Y l X wf M pc lv ([.int v]) := by
  obtain ⟨p, e, R, s, m, args, below, meth, c, A, nL, Qc⟩ := X
  obtain ⟨hx, hb, hml, hown, hts, hK, hA, hlocks, hr, hRf, hRl, hN⟩ := C
  intro H locs ls hP hD hS hl
  have hQ : Qc = _ := HQ
  subst hQ
  subst hret
  cases hf
  exact W.zret hx hb hr hn (fun t ht hW => ⟨⟨_, _, rfl, ⟨rfl, rfl⟩, by rw [ht]; exact hP, va_K.moved hW.alike hK, hD⟩, hS.F ht⟩) hS.2.2 hd hlocks
theorem x_nz {v : Int32} {ρ : Type} {E : Option ρ} {r : ρ} (hf : xzb v E = some r) : narrow .boolean (.int v) = .int v ∧ E = some r := by
  unfold xzb at hf
  by_cases h : v = 0 ∨ v = 1
  · rw [if_pos h] at hf
    refine ⟨?_, hf⟩
    rcases h with rfl | rfl <;> rfl
  · rw [if_neg h] at hf
    cases hf
theorem x_lretP (C : xC Y X cc own ret N F Lc) {r0 : Int64} (HQ : xRL Y X wf r0 M) {v : Int64} (hret : ret = some .long) (hd : decode cc pc = .ok (.lreturn, 1)) (hf : some v = some r0) : xG Y l X wf M pc lv ([.long v]) := by
  obtain ⟨p, e, R, s, m, args, below, meth, c, A, nL, Qc⟩ := X
  obtain ⟨hx, hb, hml, hown, hts, hK, hA, hlocks, hr, hRf, hRl, hN⟩ := C
  intro H locs ls hP hD hS hl
  have hQ : Qc = _ := HQ
  subst hQ
  subst hret
  cases hf
  exact W.lret hx hb hr (fun t ht hW => ⟨⟨_, _, rfl, ⟨rfl, rfl⟩, by rw [ht]; exact hP, va_K.moved hW.alike hK, hD⟩, hS.F ht⟩) hS.2.2 hd hlocks
theorem x_vret (C : xC Y X cc own ret N F Lc) {m0 : xM} (HQ : xRV Y X wf m0) (hret : ret = none) (hd : decode cc pc = .ok (.return_, 1)) (hf : some M = some m0) : xG Y l X wf M pc lv ([]) := by
  obtain ⟨p, e, R, s, m, args, below, meth, c, A, nL, Qc⟩ := X
  obtain ⟨hx, hb, hml, hown, hts, hK, hA, hlocks, hr, hRf, hRl, hN⟩ := C
  intro H locs ls hP hD hS hl
  have hQ : Qc = _ := HQ
  subst hQ
  subst hret
  cases hf
  exact W.vret hx hb hr (fun t ht hW => ⟨⟨_, rfl, rfl, by rw [ht]; exact hP, va_K.moved hW.alike hK, hD⟩, hS.F ht⟩) hS.2.2 hd hlocks
theorem x_gin (c : Cond) (hc : c ∈ xw) : GoodIn xw (c :: xw) := by
  have h := List.all_eq_true.mp xw_good
  intro w hw
  rcases List.mem_cons.mp hw with rfl | hw
  · exact ⟨hc, good_of_word (h _ hc)⟩
  · exact ⟨hw, good_of_word (h _ hw)⟩
def xmv (y : MethodName) (bytes : ByteArray) (maxL : Nat) (ret : Option FieldType) (n : Nat) : Prop := Cond.instanceMethod y ∈ xw ∧ Cond.selects y.cls y y ∈ xw ∧ Cond.initialized y.cls ∈ xw ∧ Cond.code y bytes maxL ret ∈ xw ∧ y.cls ≠ "java/lang/invoke/MethodHandle" ∧ y.cls ≠ "java/lang/invoke/VarHandle" ∧ (parseMethodDescriptor y.desc).map (fun d => d.parameters.length) = some n
def xms (y : MethodName) (bytes : ByteArray) (maxL : Nat) (ret : Option FieldType) (n : Nat) : Prop := Cond.static y ∈ xw ∧ Cond.initialized y.cls ∈ xw ∧ Cond.code y bytes maxL ret ∈ xw ∧ y.cls ≠ "java/lang/invoke/MethodHandle" ∧ y.cls ≠ "java/lang/invoke/VarHandle" ∧ (parseMethodDescriptor y.desc).map (fun d => d.parameters.length) = some n
theorem x_blind {Y : xY} {ws : va_W} {sz : Nat} {av : List Value} : FrameBlind (xPre Y ws sz av) := by
  intro a U g mk q
  obtain ⟨q0, q1, qP, qK, qD⟩ := q
  exact ⟨q0, q1, qP, va_K.moved (u := U) (U := U.calling g mk a) (Vm.Alike.refl U.vm) qK, qD⟩
theorem x_fr {A : Nat → Prop} {ws : va_W} {H0 H : Heap} {locs : List Loc} (hD : va_D A ws) (hS : va_S A H0 H locs) (hA : ∀ q, H0.size ≤ q → A q) : ∀ q, va_A ws H.size q → A q := by
  intro q h
  rcases h with ⟨k, e, h⟩ | h
  · exact hD.2 k (q, e) h
  · exact hA q (Nat.le_trans hS.1 h)
theorem x_cvIP (q : Nat) (C : xC Y X cc own ret N F Lc) {y : MethodName} {bytes : ByteArray} {maxL : Nat} {rt : Option FieldType} {fr lo n idx : Nat} {b ci N2 : Nat} {T : u_T} {fs : List Value} (As : List Value) (hw : xmv y bytes maxL rt n) (hlk : Cond.methodLink own idx y ∈ xw) (hd : decode cc pc = .ok (.invokevirtual idx, 3)) (hq : pc + 3 = q) (hR : fr + 1 ≤ F ∧ 8 + (maxL + 11) + lo ≤ Lc) (q0 : Nat) (he : (wf M)[q0]? = some (b, .inr (ci, fs))) (hc : vwCl[ci]? = some (y.cls, T, N2)) {st0 : List Value} (hst : st0 = As.reverse ++ .ref b :: st) (hn : As.length = n) (hsum : (st.map fun v => v.category).sum ≤ 8) {ρ : Type} {r : ρ} {Fn : Option (Int32)} {K : Int32 → Option ρ} (hM : ∀ x, Fn = some x → xcI l Y wf y bytes maxL rt fr lo (.ref b :: As) M x M) (hf : Fn.bind K = some r) (kk : ∀ x : Int32, K x = some r → xG Y l X wf M q lv (.int x :: st)) : xG Y l X wf M pc lv (st0) := by
  obtain ⟨p, e, R, s, m, args, below, meth, c, A, nL, Qc⟩ := X
  obtain ⟨hx, hb, hml, hown, hts, hK, hA, hlocks, hr, hRf, hRl, hN⟩ := C
  intro H locs ls hP hD hS hl
  subst hq
  subst hst
  obtain ⟨h1, h2, h3, h4, h5, h6, h7⟩ := hw
  cases hF : Fn with
  | none => rw [hF] at hf; cases hf
  | some x =>
    rw [hF] at hf
    have hM := hM x hF H.size
    have hFc := x_fr hD hS hA
    have hRR : (xRm fr lo).frames + 1 ≤ R.frames ∧ 8 + (maxL + 11) + (xRm fr lo).locals ≤ R.locals := by rw [hRf, hRl]; exact hR
    refine va_calli (va_runV (As := As) (rest := st) ⟨hx, hb, hml, hown, hts⟩ hM ⟨callB_of n hts (x_gin _ h4) rfl rfl rfl (hts _ h3) (hts _ hlk) ⟨h5, h6, h7⟩ hRR, hts _ h1, hts _ h2⟩ ⟨x_blind, va_recv hK hP (ci := ci) (q0 := q0) hc he, fun U hU hW => ⟨rfl, by rw [hU], by rw [hU]; exact hP, va_K.moved hW.alike hK, hD.weaken (fun _ _ _ _ => trivial)⟩⟩ rfl hn hl.1 rfl (lv_room hsum) hd ⟨Nat.zero_le _, Nat.zero_le _⟩) hS (fun q _ h => hFc q h) hFc (fun r1 u t H1 locs1 ht hvm hw hB hz1 hk1 hS1 => ?_)
    obtain ⟨rfl, rfl⟩ := hw
    obtain ⟨hP1, hK1, hD1⟩ := hB
    rw [ht] at hP1
    exact kk _ hf H1 locs1 ls hP1 (hD1.weaken (fun k q _ h => hFc q.1 h)) hS1 hl
theorem x_cvIM (q : Nat) (C : xC Y X cc own ret N F Lc) {y : MethodName} {bytes : ByteArray} {maxL : Nat} {rt : Option FieldType} {fr lo n idx : Nat} {b ci N2 : Nat} {T : u_T} {fs : List Value} (As : List Value) (hw : xmv y bytes maxL rt n) (hlk : Cond.methodLink own idx y ∈ xw) (hd : decode cc pc = .ok (.invokevirtual idx, 3)) (hq : pc + 3 = q) (hR : fr + 1 ≤ F ∧ 8 + (maxL + 11) + lo ≤ Lc) (q0 : Nat) (he : (wf M)[q0]? = some (b, .inr (ci, fs))) (hc : vwCl[ci]? = some (y.cls, T, N2)) {st0 : List Value} (hst : st0 = As.reverse ++ .ref b :: st) (hn : As.length = n) (hsum : (st.map fun v => v.category).sum ≤ 8) {ρ : Type} {r : ρ} {Fn : Option (Int32 × xM)} {K : Int32 × xM → Option ρ} (hM : ∀ z, Fn = some z → xcI l Y wf y bytes maxL rt fr lo (.ref b :: As) M z.1 z.2) (hf : Fn.bind K = some r) (kk : ∀ z : Int32 × xM, K z = some r → xG Y l X wf z.2 q lv (.int z.1 :: st)) : xG Y l X wf M pc lv (st0) := by
  obtain ⟨p, e, R, s, m, args, below, meth, c, A, nL, Qc⟩ := X
  obtain ⟨hx, hb, hml, hown, hts, hK, hA, hlocks, hr, hRf, hRl, hN⟩ := C
  intro H locs ls hP hD hS hl
  subst hq
  subst hst
  obtain ⟨h1, h2, h3, h4, h5, h6, h7⟩ := hw
  cases hF : Fn with
  | none => rw [hF] at hf; cases hf
  | some z =>
    rw [hF] at hf
    have hM := hM z hF H.size
    have hFc := x_fr hD hS hA
    have hRR : (xRm fr lo).frames + 1 ≤ R.frames ∧ 8 + (maxL + 11) + (xRm fr lo).locals ≤ R.locals := by rw [hRf, hRl]; exact hR
    refine va_calli (va_runV (As := As) (rest := st) ⟨hx, hb, hml, hown, hts⟩ hM ⟨callB_of n hts (x_gin _ h4) rfl rfl rfl (hts _ h3) (hts _ hlk) ⟨h5, h6, h7⟩ hRR, hts _ h1, hts _ h2⟩ ⟨x_blind, va_recv hK hP (ci := ci) (q0 := q0) hc he, fun U hU hW => ⟨rfl, by rw [hU], by rw [hU]; exact hP, va_K.moved hW.alike hK, hD.weaken (fun _ _ _ _ => trivial)⟩⟩ rfl hn hl.1 rfl (lv_room hsum) hd ⟨Nat.zero_le _, Nat.zero_le _⟩) hS (fun q _ h => hFc q h) hFc (fun r1 u t H1 locs1 ht hvm hw hB hz1 hk1 hS1 => ?_)
    obtain ⟨rfl, rfl⟩ := hw
    obtain ⟨hP1, hK1, hD1⟩ := hB
    rw [ht] at hP1
    exact kk _ hf H1 locs1 ls hP1 (hD1.weaken (fun k q _ h => hFc q.1 h)) hS1 hl
theorem x_cvLP (q : Nat) (C : xC Y X cc own ret N F Lc) {y : MethodName} {bytes : ByteArray} {maxL : Nat} {rt : Option FieldType} {fr lo n idx : Nat} {b ci N2 : Nat} {T : u_T} {fs : List Value} (As : List Value) (hw : xmv y bytes maxL rt n) (hlk : Cond.methodLink own idx y ∈ xw) (hd : decode cc pc = .ok (.invokevirtual idx, 3)) (hq : pc + 3 = q) (hR : fr + 1 ≤ F ∧ 8 + (maxL + 11) + lo ≤ Lc) (q0 : Nat) (he : (wf M)[q0]? = some (b, .inr (ci, fs))) (hc : vwCl[ci]? = some (y.cls, T, N2)) {st0 : List Value} (hst : st0 = As.reverse ++ .ref b :: st) (hn : As.length = n) (hsum : (st.map fun v => v.category).sum ≤ 8) {ρ : Type} {r : ρ} {Fn : Option (Int64)} {K : Int64 → Option ρ} (hM : ∀ x, Fn = some x → xcL l Y wf y bytes maxL rt fr lo (.ref b :: As) M x M) (hf : Fn.bind K = some r) (kk : ∀ x : Int64, K x = some r → xG Y l X wf M q lv (.long x :: st)) : xG Y l X wf M pc lv (st0) := by
  obtain ⟨p, e, R, s, m, args, below, meth, c, A, nL, Qc⟩ := X
  obtain ⟨hx, hb, hml, hown, hts, hK, hA, hlocks, hr, hRf, hRl, hN⟩ := C
  intro H locs ls hP hD hS hl
  subst hq
  subst hst
  obtain ⟨h1, h2, h3, h4, h5, h6, h7⟩ := hw
  cases hF : Fn with
  | none => rw [hF] at hf; cases hf
  | some x =>
    rw [hF] at hf
    have hM := hM x hF H.size
    have hFc := x_fr hD hS hA
    have hRR : (xRm fr lo).frames + 1 ≤ R.frames ∧ 8 + (maxL + 11) + (xRm fr lo).locals ≤ R.locals := by rw [hRf, hRl]; exact hR
    refine va_calll (va_runV (As := As) (rest := st) ⟨hx, hb, hml, hown, hts⟩ hM ⟨callB_of n hts (x_gin _ h4) rfl rfl rfl (hts _ h3) (hts _ hlk) ⟨h5, h6, h7⟩ hRR, hts _ h1, hts _ h2⟩ ⟨x_blind, va_recv hK hP (ci := ci) (q0 := q0) hc he, fun U hU hW => ⟨rfl, by rw [hU], by rw [hU]; exact hP, va_K.moved hW.alike hK, hD.weaken (fun _ _ _ _ => trivial)⟩⟩ rfl hn hl.1 rfl (lv_room hsum) hd ⟨Nat.zero_le _, Nat.zero_le _⟩) hS (fun q _ h => hFc q h) hFc (fun r1 u t H1 locs1 ht hvm hw hB hz1 hk1 hS1 => ?_)
    obtain ⟨rfl, rfl⟩ := hw
    obtain ⟨hP1, hK1, hD1⟩ := hB
    rw [ht] at hP1
    exact kk _ hf H1 locs1 ls hP1 (hD1.weaken (fun k q _ h => hFc q.1 h)) hS1 hl
theorem x_cvVM (q : Nat) (C : xC Y X cc own ret N F Lc) {y : MethodName} {bytes : ByteArray} {maxL : Nat} {rt : Option FieldType} {fr lo n idx : Nat} {b ci N2 : Nat} {T : u_T} {fs : List Value} (As : List Value) (hw : xmv y bytes maxL rt n) (hlk : Cond.methodLink own idx y ∈ xw) (hd : decode cc pc = .ok (.invokevirtual idx, 3)) (hq : pc + 3 = q) (hR : fr + 1 ≤ F ∧ 8 + (maxL + 11) + lo ≤ Lc) (q0 : Nat) (he : (wf M)[q0]? = some (b, .inr (ci, fs))) (hc : vwCl[ci]? = some (y.cls, T, N2)) {st0 : List Value} (hst : st0 = As.reverse ++ .ref b :: st) (hn : As.length = n) (hsum : (st.map fun v => v.category).sum ≤ 8) {ρ : Type} {r : ρ} {Fn : Option (xM)} {K : xM → Option ρ} (hM : ∀ z, Fn = some z → xcV l Y wf y bytes maxL rt fr lo (.ref b :: As) M z) (hf : Fn.bind K = some r) (kk : ∀ z : xM, K z = some r → xG Y l X wf z q lv (st)) : xG Y l X wf M pc lv (st0) := by
  obtain ⟨p, e, R, s, m, args, below, meth, c, A, nL, Qc⟩ := X
  obtain ⟨hx, hb, hml, hown, hts, hK, hA, hlocks, hr, hRf, hRl, hN⟩ := C
  intro H locs ls hP hD hS hl
  subst hq
  subst hst
  obtain ⟨h1, h2, h3, h4, h5, h6, h7⟩ := hw
  cases hF : Fn with
  | none => rw [hF] at hf; cases hf
  | some z =>
    rw [hF] at hf
    have hM := hM z hF H.size
    have hFc := x_fr hD hS hA
    have hRR : (xRm fr lo).frames + 1 ≤ R.frames ∧ 8 + (maxL + 11) + (xRm fr lo).locals ≤ R.locals := by rw [hRf, hRl]; exact hR
    refine va_callv (va_runV (As := As) (rest := st) ⟨hx, hb, hml, hown, hts⟩ hM ⟨callB_of n hts (x_gin _ h4) rfl rfl rfl (hts _ h3) (hts _ hlk) ⟨h5, h6, h7⟩ hRR, hts _ h1, hts _ h2⟩ ⟨x_blind, va_recv hK hP (ci := ci) (q0 := q0) hc he, fun U hU hW => ⟨rfl, by rw [hU], by rw [hU]; exact hP, va_K.moved hW.alike hK, hD.weaken (fun _ _ _ _ => trivial)⟩⟩ rfl hn hl.1 rfl (lv_room hsum) hd ⟨Nat.zero_le _, Nat.zero_le _⟩) hS (fun q _ h => hFc q h) hFc (fun u t H1 locs1 ht hvm hw hB hz1 hk1 hS1 => ?_)
    subst hw
    obtain ⟨hP1, hK1, hD1⟩ := hB
    rw [ht] at hP1
    exact kk _ hf H1 locs1 ls hP1 (hD1.weaken (fun k q _ h => hFc q.1 h)) hS1 hl
theorem x_csIP (q : Nat) (C : xC Y X cc own ret N F Lc) {y : MethodName} {bytes : ByteArray} {maxL : Nat} {rt : Option FieldType} {fr lo n idx : Nat} (As : List Value) (hw : xms y bytes maxL rt n) (hlk : Cond.methodLink own idx y ∈ xw) (hd : decode cc pc = .ok (.invokestatic idx, 3)) (hq : pc + 3 = q) (hR : fr + 1 ≤ F ∧ 8 + (maxL + 11) + lo ≤ Lc) {st0 : List Value} (hst : st0 = As.reverse ++ st) (hn : As.length = n) (hsum : (st.map fun v => v.category).sum ≤ 8) {ρ : Type} {r : ρ} {Fn : Option (Int32)} {K : Int32 → Option ρ} (hM : ∀ x, Fn = some x → xcI l Y wf y bytes maxL rt fr lo As M x M) (hf : Fn.bind K = some r) (kk : ∀ x : Int32, K x = some r → xG Y l X wf M q lv (.int x :: st)) : xG Y l X wf M pc lv (st0) := by
  obtain ⟨p, e, R, s, m, args, below, meth, c, A, nL, Qc⟩ := X
  obtain ⟨hx, hb, hml, hown, hts, hK, hA, hlocks, hr, hRf, hRl, hN⟩ := C
  intro H locs ls hP hD hS hl
  subst hq
  subst hst
  obtain ⟨h1, h3, h4, h5, h6, h7⟩ := hw
  cases hF : Fn with
  | none => rw [hF] at hf; cases hf
  | some x =>
    rw [hF] at hf
    have hM := hM x hF H.size
    have hFc := x_fr hD hS hA
    have hRR : (xRm fr lo).frames + 1 ≤ R.frames ∧ 8 + (maxL + 11) + (xRm fr lo).locals ≤ R.locals := by rw [hRf, hRl]; exact hR
    refine va_calli (va_runS (As := As) (rest := st) ⟨hx, hb, hml, hown, hts⟩ hM ⟨callB_of n hts (x_gin _ h4) rfl rfl rfl (hts _ h3) (hts _ hlk) ⟨h5, h6, h7⟩ hRR, hts _ h1⟩ ⟨x_blind, fun U hU hW => ⟨rfl, by rw [hU], by rw [hU]; exact hP, va_K.moved hW.alike hK, hD.weaken (fun _ _ _ _ => trivial)⟩⟩ rfl hn hl.1 rfl (lv_room hsum) hd ⟨Nat.zero_le _, Nat.zero_le _⟩) hS (fun q _ h => hFc q h) hFc (fun r1 u t H1 locs1 ht hvm hw hB hz1 hk1 hS1 => ?_)
    obtain ⟨rfl, rfl⟩ := hw
    obtain ⟨hP1, hK1, hD1⟩ := hB
    rw [ht] at hP1
    exact kk _ hf H1 locs1 ls hP1 (hD1.weaken (fun k q _ h => hFc q.1 h)) hS1 hl
theorem x_csIM (q : Nat) (C : xC Y X cc own ret N F Lc) {y : MethodName} {bytes : ByteArray} {maxL : Nat} {rt : Option FieldType} {fr lo n idx : Nat} (As : List Value) (hw : xms y bytes maxL rt n) (hlk : Cond.methodLink own idx y ∈ xw) (hd : decode cc pc = .ok (.invokestatic idx, 3)) (hq : pc + 3 = q) (hR : fr + 1 ≤ F ∧ 8 + (maxL + 11) + lo ≤ Lc) {st0 : List Value} (hst : st0 = As.reverse ++ st) (hn : As.length = n) (hsum : (st.map fun v => v.category).sum ≤ 8) {ρ : Type} {r : ρ} {Fn : Option (Int32 × xM)} {K : Int32 × xM → Option ρ} (hM : ∀ z, Fn = some z → xcI l Y wf y bytes maxL rt fr lo As M z.1 z.2) (hf : Fn.bind K = some r) (kk : ∀ z : Int32 × xM, K z = some r → xG Y l X wf z.2 q lv (.int z.1 :: st)) : xG Y l X wf M pc lv (st0) := by
  obtain ⟨p, e, R, s, m, args, below, meth, c, A, nL, Qc⟩ := X
  obtain ⟨hx, hb, hml, hown, hts, hK, hA, hlocks, hr, hRf, hRl, hN⟩ := C
  intro H locs ls hP hD hS hl
  subst hq
  subst hst
  obtain ⟨h1, h3, h4, h5, h6, h7⟩ := hw
  cases hF : Fn with
  | none => rw [hF] at hf; cases hf
  | some z =>
    rw [hF] at hf
    have hM := hM z hF H.size
    have hFc := x_fr hD hS hA
    have hRR : (xRm fr lo).frames + 1 ≤ R.frames ∧ 8 + (maxL + 11) + (xRm fr lo).locals ≤ R.locals := by rw [hRf, hRl]; exact hR
    refine va_calli (va_runS (As := As) (rest := st) ⟨hx, hb, hml, hown, hts⟩ hM ⟨callB_of n hts (x_gin _ h4) rfl rfl rfl (hts _ h3) (hts _ hlk) ⟨h5, h6, h7⟩ hRR, hts _ h1⟩ ⟨x_blind, fun U hU hW => ⟨rfl, by rw [hU], by rw [hU]; exact hP, va_K.moved hW.alike hK, hD.weaken (fun _ _ _ _ => trivial)⟩⟩ rfl hn hl.1 rfl (lv_room hsum) hd ⟨Nat.zero_le _, Nat.zero_le _⟩) hS (fun q _ h => hFc q h) hFc (fun r1 u t H1 locs1 ht hvm hw hB hz1 hk1 hS1 => ?_)
    obtain ⟨rfl, rfl⟩ := hw
    obtain ⟨hP1, hK1, hD1⟩ := hB
    rw [ht] at hP1
    exact kk _ hf H1 locs1 ls hP1 (hD1.weaken (fun k q _ h => hFc q.1 h)) hS1 hl
theorem x_csLP (q : Nat) (C : xC Y X cc own ret N F Lc) {y : MethodName} {bytes : ByteArray} {maxL : Nat} {rt : Option FieldType} {fr lo n idx : Nat} (As : List Value) (hw : xms y bytes maxL rt n) (hlk : Cond.methodLink own idx y ∈ xw) (hd : decode cc pc = .ok (.invokestatic idx, 3)) (hq : pc + 3 = q) (hR : fr + 1 ≤ F ∧ 8 + (maxL + 11) + lo ≤ Lc) {st0 : List Value} (hst : st0 = As.reverse ++ st) (hn : As.length = n) (hsum : (st.map fun v => v.category).sum ≤ 8) {ρ : Type} {r : ρ} {Fn : Option (Int64)} {K : Int64 → Option ρ} (hM : ∀ x, Fn = some x → xcL l Y wf y bytes maxL rt fr lo As M x M) (hf : Fn.bind K = some r) (kk : ∀ x : Int64, K x = some r → xG Y l X wf M q lv (.long x :: st)) : xG Y l X wf M pc lv (st0) := by
  obtain ⟨p, e, R, s, m, args, below, meth, c, A, nL, Qc⟩ := X
  obtain ⟨hx, hb, hml, hown, hts, hK, hA, hlocks, hr, hRf, hRl, hN⟩ := C
  intro H locs ls hP hD hS hl
  subst hq
  subst hst
  obtain ⟨h1, h3, h4, h5, h6, h7⟩ := hw
  cases hF : Fn with
  | none => rw [hF] at hf; cases hf
  | some x =>
    rw [hF] at hf
    have hM := hM x hF H.size
    have hFc := x_fr hD hS hA
    have hRR : (xRm fr lo).frames + 1 ≤ R.frames ∧ 8 + (maxL + 11) + (xRm fr lo).locals ≤ R.locals := by rw [hRf, hRl]; exact hR
    refine va_calll (va_runS (As := As) (rest := st) ⟨hx, hb, hml, hown, hts⟩ hM ⟨callB_of n hts (x_gin _ h4) rfl rfl rfl (hts _ h3) (hts _ hlk) ⟨h5, h6, h7⟩ hRR, hts _ h1⟩ ⟨x_blind, fun U hU hW => ⟨rfl, by rw [hU], by rw [hU]; exact hP, va_K.moved hW.alike hK, hD.weaken (fun _ _ _ _ => trivial)⟩⟩ rfl hn hl.1 rfl (lv_room hsum) hd ⟨Nat.zero_le _, Nat.zero_le _⟩) hS (fun q _ h => hFc q h) hFc (fun r1 u t H1 locs1 ht hvm hw hB hz1 hk1 hS1 => ?_)
    obtain ⟨rfl, rfl⟩ := hw
    obtain ⟨hP1, hK1, hD1⟩ := hB
    rw [ht] at hP1
    exact kk _ hf H1 locs1 ls hP1 (hD1.weaken (fun k q _ h => hFc q.1 h)) hS1 hl
theorem x_csVM (q : Nat) (C : xC Y X cc own ret N F Lc) {y : MethodName} {bytes : ByteArray} {maxL : Nat} {rt : Option FieldType} {fr lo n idx : Nat} (As : List Value) (hw : xms y bytes maxL rt n) (hlk : Cond.methodLink own idx y ∈ xw) (hd : decode cc pc = .ok (.invokestatic idx, 3)) (hq : pc + 3 = q) (hR : fr + 1 ≤ F ∧ 8 + (maxL + 11) + lo ≤ Lc) {st0 : List Value} (hst : st0 = As.reverse ++ st) (hn : As.length = n) (hsum : (st.map fun v => v.category).sum ≤ 8) {ρ : Type} {r : ρ} {Fn : Option (xM)} {K : xM → Option ρ} (hM : ∀ z, Fn = some z → xcV l Y wf y bytes maxL rt fr lo As M z) (hf : Fn.bind K = some r) (kk : ∀ z : xM, K z = some r → xG Y l X wf z q lv (st)) : xG Y l X wf M pc lv (st0) := by
  obtain ⟨p, e, R, s, m, args, below, meth, c, A, nL, Qc⟩ := X
  obtain ⟨hx, hb, hml, hown, hts, hK, hA, hlocks, hr, hRf, hRl, hN⟩ := C
  intro H locs ls hP hD hS hl
  subst hq
  subst hst
  obtain ⟨h1, h3, h4, h5, h6, h7⟩ := hw
  cases hF : Fn with
  | none => rw [hF] at hf; cases hf
  | some z =>
    rw [hF] at hf
    have hM := hM z hF H.size
    have hFc := x_fr hD hS hA
    have hRR : (xRm fr lo).frames + 1 ≤ R.frames ∧ 8 + (maxL + 11) + (xRm fr lo).locals ≤ R.locals := by rw [hRf, hRl]; exact hR
    refine va_callv (va_runS (As := As) (rest := st) ⟨hx, hb, hml, hown, hts⟩ hM ⟨callB_of n hts (x_gin _ h4) rfl rfl rfl (hts _ h3) (hts _ hlk) ⟨h5, h6, h7⟩ hRR, hts _ h1⟩ ⟨x_blind, fun U hU hW => ⟨rfl, by rw [hU], by rw [hU]; exact hP, va_K.moved hW.alike hK, hD.weaken (fun _ _ _ _ => trivial)⟩⟩ rfl hn hl.1 rfl (lv_room hsum) hd ⟨Nat.zero_le _, Nat.zero_le _⟩) hS (fun q _ h => hFc q h) hFc (fun u t H1 locs1 ht hvm hw hB hz1 hk1 hS1 => ?_)
    subst hw
    obtain ⟨hP1, hK1, hD1⟩ := hB
    rw [ht] at hP1
    exact kk _ hf H1 locs1 ls hP1 (hD1.weaken (fun k q _ h => hFc q.1 h)) hS1 hl
end XR
end
section
def xpf {ρ : Type} (M : xM) (k j : Nat) (v : Int32) (K : xM → Option ρ) : Option ρ := K (xI M k j v)
def wC (Y : xY) (ad : Nat → Nat) (fr : va_W) (M : xM) : va_W := (ad 0, .inr (2, [.int (M.1 0 0), .int (M.1 0 1), .int (M.1 0 2), .int (M.1 0 3), .int (M.1 0 4), .ref (ad 1), .ref (ad 2), .ref (ad 3), .ref (ad 4), .ref (ad 5), .ref (ad 6), .ref (ad 7), .ref (ad 8), .ref (ad 9), .ref (ad 10), .ref (ad 11), .ref (ad 12), .ref (ad 13), .ref (ad 14)])) ::
  (ad 1, .inl (Y.2.1, 8, .inl (M.1 1))) ::
  (ad 2, .inl (Y.2.1, 8, .inl (M.1 2))) ::
  (ad 3, .inl (Y.2.1, 24, .inl (M.1 3))) ::
  (ad 4, .inl (Y.2.1, 24, .inl (M.1 4))) ::
  (ad 5, .inl (Y.2.1, 24, .inl (M.1 5))) ::
  (ad 6, .inl (Y.2.1, 24, .inl (M.1 6))) ::
  (ad 7, .inl (Y.2.1, 24, .inl (M.1 7))) ::
  (ad 8, .inl (Y.2.1, 24, .inl (M.1 8))) ::
  (ad 9, .inl (Y.2.2.1, 24, .inr (.inl (M.2 9)))) ::
  (ad 10, .inl (Y.2.1, 24, .inl (M.1 10))) ::
  (ad 11, .inl (Y.2.1, 8, .inl (M.1 11))) ::
  (ad 12, .inl (Y.2.1, 64, .inl (M.1 12))) ::
  (ad 13, .inl (Y.2.1, 64, .inl (M.1 13))) ::
  (ad 14, .inl (Y.2.1, 10, .inl (M.1 14))) ::
  (ad 15, .inr (0, [.ref (ad 0), .ref (ad 16), .ref (ad 17), .ref (ad 18), .ref (ad 19), .ref (ad 20), .ref (ad 21)])) ::
  (ad 16, .inl (Y.2.1, 8, .inl (M.1 16))) ::
  (ad 17, .inl (Y.2.1, 8, .inl (M.1 17))) ::
  (ad 18, .inl (Y.2.1, 8, .inl (M.1 18))) ::
  (ad 19, .inl (Y.2.1, 24, .inl (M.1 19))) ::
  (ad 20, .inl (Y.2.2.1, 8, .inr (.inl (M.2 20)))) ::
  (ad 21, .inl (Y.2.1, 8, .inl (M.1 21))) ::
  (ad 22, .inr (3, [.ref (ad 0), .ref (ad 15), .ref (ad 23), .ref (ad 24), .ref (ad 25), .ref (ad 26)])) ::
  (ad 23, .inl (Y.2.2.1, 24, .inr (.inl (M.2 23)))) ::
  (ad 24, .inl (Y.2.1, 24, .inl (M.1 24))) ::
  (ad 25, .inl (Y.2.1, 10, .inl (M.1 25))) ::
  (ad 26, .inl (Y.2.1, 10, .inl (M.1 26))) ::
  (ad 27, .inr (1, [.ref (ad 0), .ref (ad 28), .ref (ad 29), .int (M.1 27 0)])) ::
  (ad 28, .inl (Y.2.1, 64, .inl (M.1 28))) ::
  (ad 29, .inl (Y.2.1, 64, .inl (M.1 29))) ::
  (ad 30, .inr (4, [.ref (ad 0), .ref (ad 31)])) ::
  (ad 31, .inl (Y.2.1, 18, .inl (M.1 31))) ::
  (ad 32, .inr (5, [.ref (ad 0), .ref (ad 15), .ref (ad 22), .ref (ad 27), .ref (ad 30), .ref (ad 33)])) :: fr
section W_wC
variable {Y : xY} {l : Launch} {X : xE} {ad : Nat → Nat} {fr : va_W} {M : xM} {cc : ByteArray} {own : String} {ret : Option FieldType} {N F Lc : Nat} {pc : Nat} {lv : List (Nat × Value)} {st : List Value}
theorem wC_at_0 : (wC Y ad fr M)[0]? = some (ad 0, .inr (2, [.int (M.1 0 0), .int (M.1 0 1), .int (M.1 0 2), .int (M.1 0 3), .int (M.1 0 4), .ref (ad 1), .ref (ad 2), .ref (ad 3), .ref (ad 4), .ref (ad 5), .ref (ad 6), .ref (ad 7), .ref (ad 8), .ref (ad 9), .ref (ad 10), .ref (ad 11), .ref (ad 12), .ref (ad 13), .ref (ad 14)])) := rfl
theorem xgX3_0 (q : Nat) (C : xC Y X cc own ret N F Lc) {idx : Nat} (hw : Cond.fieldLink own idx "SpanningTreeProtocol$Network" "bridgeCount" "I" ∈ xw) (hd : decode cc pc = .ok (.getfield idx, 3)) (hq : pc + 3 = q) (kk : xG Y l X (wC Y ad fr) M q lv (.int (M.1 0 0) :: st)) : xG Y l X (wC Y ad fr) M pc lv (.ref (ad 0) :: st) := x_get q C 0 (k := 0) (T := TX3) wC_at_0 rfl rfl inX3 (by decide) hw hd hq kk
theorem xpX3_0 (q : Nat) (C : xC Y X cc own ret N F Lc) {idx : Nat} {v : Int32} {ρ : Type} {r : ρ} {K : xM → Option ρ} (hw : Cond.fieldLink own idx "SpanningTreeProtocol$Network" "bridgeCount" "I" ∈ xw) (hd : decode cc pc = .ok (.putfield idx, 3)) (hq : pc + 3 = q) (hf : xpf M 0 0 v K = some r) (kk : ∀ M2 : xM, K M2 = some r → xG Y l X (wC Y ad fr) M2 q lv (st)) : xG Y l X (wC Y ad fr) M pc lv (.int v :: .ref (ad 0) :: st) := x_putI q C 0 (k := 0) (T := TX3) (M2 := xI M 0 0 v) tyX3 tyX3_ok nmX3 wC_at_0 rfl rfl inX3 (by decide) (Nat.le_of_ble_eq_true rfl) hw rfl (by decide +kernel) hd hq (kk _ hf)
theorem xgX3_1 (q : Nat) (C : xC Y X cc own ret N F Lc) {idx : Nat} (hw : Cond.fieldLink own idx "SpanningTreeProtocol$Network" "segmentCount" "I" ∈ xw) (hd : decode cc pc = .ok (.getfield idx, 3)) (hq : pc + 3 = q) (kk : xG Y l X (wC Y ad fr) M q lv (.int (M.1 0 1) :: st)) : xG Y l X (wC Y ad fr) M pc lv (.ref (ad 0) :: st) := x_get q C 0 (k := 1) (T := TX3) wC_at_0 rfl rfl inX3 (by decide) hw hd hq kk
theorem xpX3_1 (q : Nat) (C : xC Y X cc own ret N F Lc) {idx : Nat} {v : Int32} {ρ : Type} {r : ρ} {K : xM → Option ρ} (hw : Cond.fieldLink own idx "SpanningTreeProtocol$Network" "segmentCount" "I" ∈ xw) (hd : decode cc pc = .ok (.putfield idx, 3)) (hq : pc + 3 = q) (hf : xpf M 0 1 v K = some r) (kk : ∀ M2 : xM, K M2 = some r → xG Y l X (wC Y ad fr) M2 q lv (st)) : xG Y l X (wC Y ad fr) M pc lv (.int v :: .ref (ad 0) :: st) := x_putI q C 0 (k := 1) (T := TX3) (M2 := xI M 0 1 v) tyX3 tyX3_ok nmX3 wC_at_0 rfl rfl inX3 (by decide) (Nat.le_of_ble_eq_true rfl) hw rfl (by decide +kernel) hd hq (kk _ hf)
theorem xgX3_2 (q : Nat) (C : xC Y X cc own ret N F Lc) {idx : Nat} (hw : Cond.fieldLink own idx "SpanningTreeProtocol$Network" "portCount" "I" ∈ xw) (hd : decode cc pc = .ok (.getfield idx, 3)) (hq : pc + 3 = q) (kk : xG Y l X (wC Y ad fr) M q lv (.int (M.1 0 2) :: st)) : xG Y l X (wC Y ad fr) M pc lv (.ref (ad 0) :: st) := x_get q C 0 (k := 2) (T := TX3) wC_at_0 rfl rfl inX3 (by decide) hw hd hq kk
theorem xpX3_2 (q : Nat) (C : xC Y X cc own ret N F Lc) {idx : Nat} {v : Int32} {ρ : Type} {r : ρ} {K : xM → Option ρ} (hw : Cond.fieldLink own idx "SpanningTreeProtocol$Network" "portCount" "I" ∈ xw) (hd : decode cc pc = .ok (.putfield idx, 3)) (hq : pc + 3 = q) (hf : xpf M 0 2 v K = some r) (kk : ∀ M2 : xM, K M2 = some r → xG Y l X (wC Y ad fr) M2 q lv (st)) : xG Y l X (wC Y ad fr) M pc lv (.int v :: .ref (ad 0) :: st) := x_putI q C 0 (k := 2) (T := TX3) (M2 := xI M 0 2 v) tyX3 tyX3_ok nmX3 wC_at_0 rfl rfl inX3 (by decide) (Nat.le_of_ble_eq_true rfl) hw rfl (by decide +kernel) hd hq (kk _ hf)
theorem xgX3_3 (q : Nat) (C : xC Y X cc own ret N F Lc) {idx : Nat} (hw : Cond.fieldLink own idx "SpanningTreeProtocol$Network" "stationCount" "I" ∈ xw) (hd : decode cc pc = .ok (.getfield idx, 3)) (hq : pc + 3 = q) (kk : xG Y l X (wC Y ad fr) M q lv (.int (M.1 0 3) :: st)) : xG Y l X (wC Y ad fr) M pc lv (.ref (ad 0) :: st) := x_get q C 0 (k := 3) (T := TX3) wC_at_0 rfl rfl inX3 (by decide) hw hd hq kk
theorem xpX3_3 (q : Nat) (C : xC Y X cc own ret N F Lc) {idx : Nat} {v : Int32} {ρ : Type} {r : ρ} {K : xM → Option ρ} (hw : Cond.fieldLink own idx "SpanningTreeProtocol$Network" "stationCount" "I" ∈ xw) (hd : decode cc pc = .ok (.putfield idx, 3)) (hq : pc + 3 = q) (hf : xpf M 0 3 v K = some r) (kk : ∀ M2 : xM, K M2 = some r → xG Y l X (wC Y ad fr) M2 q lv (st)) : xG Y l X (wC Y ad fr) M pc lv (.int v :: .ref (ad 0) :: st) := x_putI q C 0 (k := 3) (T := TX3) (M2 := xI M 0 3 v) tyX3 tyX3_ok nmX3 wC_at_0 rfl rfl inX3 (by decide) (Nat.le_of_ble_eq_true rfl) hw rfl (by decide +kernel) hd hq (kk _ hf)
theorem xgX3_4 (q : Nat) (C : xC Y X cc own ret N F Lc) {idx : Nat} (hw : Cond.fieldLink own idx "SpanningTreeProtocol$Network" "time" "I" ∈ xw) (hd : decode cc pc = .ok (.getfield idx, 3)) (hq : pc + 3 = q) (kk : xG Y l X (wC Y ad fr) M q lv (.int (M.1 0 4) :: st)) : xG Y l X (wC Y ad fr) M pc lv (.ref (ad 0) :: st) := x_get q C 0 (k := 4) (T := TX3) wC_at_0 rfl rfl inX3 (by decide) hw hd hq kk
theorem xpX3_4 (q : Nat) (C : xC Y X cc own ret N F Lc) {idx : Nat} {v : Int32} {ρ : Type} {r : ρ} {K : xM → Option ρ} (hw : Cond.fieldLink own idx "SpanningTreeProtocol$Network" "time" "I" ∈ xw) (hd : decode cc pc = .ok (.putfield idx, 3)) (hq : pc + 3 = q) (hf : xpf M 0 4 v K = some r) (kk : ∀ M2 : xM, K M2 = some r → xG Y l X (wC Y ad fr) M2 q lv (st)) : xG Y l X (wC Y ad fr) M pc lv (.int v :: .ref (ad 0) :: st) := x_putI q C 0 (k := 4) (T := TX3) (M2 := xI M 0 4 v) tyX3 tyX3_ok nmX3 wC_at_0 rfl rfl inX3 (by decide) (Nat.le_of_ble_eq_true rfl) hw rfl (by decide +kernel) hd hq (kk _ hf)
theorem xgX3_5 (q : Nat) (C : xC Y X cc own ret N F Lc) {idx : Nat} (hw : Cond.fieldLink own idx "SpanningTreeProtocol$Network" "priority" "[I" ∈ xw) (hd : decode cc pc = .ok (.getfield idx, 3)) (hq : pc + 3 = q) (kk : xG Y l X (wC Y ad fr) M q lv (.ref (ad 1) :: st)) : xG Y l X (wC Y ad fr) M pc lv (.ref (ad 0) :: st) := x_get q C 0 (k := 5) (T := TX3) wC_at_0 rfl rfl inX3 (by decide) hw hd hq kk
theorem xgX3_6 (q : Nat) (C : xC Y X cc own ret N F Lc) {idx : Nat} (hw : Cond.fieldLink own idx "SpanningTreeProtocol$Network" "bridgePower" "[I" ∈ xw) (hd : decode cc pc = .ok (.getfield idx, 3)) (hq : pc + 3 = q) (kk : xG Y l X (wC Y ad fr) M q lv (.ref (ad 2) :: st)) : xG Y l X (wC Y ad fr) M pc lv (.ref (ad 0) :: st) := x_get q C 0 (k := 6) (T := TX3) wC_at_0 rfl rfl inX3 (by decide) hw hd hq kk
theorem xgX3_7 (q : Nat) (C : xC Y X cc own ret N F Lc) {idx : Nat} (hw : Cond.fieldLink own idx "SpanningTreeProtocol$Network" "portBridge" "[I" ∈ xw) (hd : decode cc pc = .ok (.getfield idx, 3)) (hq : pc + 3 = q) (kk : xG Y l X (wC Y ad fr) M q lv (.ref (ad 3) :: st)) : xG Y l X (wC Y ad fr) M pc lv (.ref (ad 0) :: st) := x_get q C 0 (k := 7) (T := TX3) wC_at_0 rfl rfl inX3 (by decide) hw hd hq kk
theorem xgX3_8 (q : Nat) (C : xC Y X cc own ret N F Lc) {idx : Nat} (hw : Cond.fieldLink own idx "SpanningTreeProtocol$Network" "portSegment" "[I" ∈ xw) (hd : decode cc pc = .ok (.getfield idx, 3)) (hq : pc + 3 = q) (kk : xG Y l X (wC Y ad fr) M q lv (.ref (ad 4) :: st)) : xG Y l X (wC Y ad fr) M pc lv (.ref (ad 0) :: st) := x_get q C 0 (k := 8) (T := TX3) wC_at_0 rfl rfl inX3 (by decide) hw hd hq kk
theorem xgX3_9 (q : Nat) (C : xC Y X cc own ret N F Lc) {idx : Nat} (hw : Cond.fieldLink own idx "SpanningTreeProtocol$Network" "portCost" "[I" ∈ xw) (hd : decode cc pc = .ok (.getfield idx, 3)) (hq : pc + 3 = q) (kk : xG Y l X (wC Y ad fr) M q lv (.ref (ad 5) :: st)) : xG Y l X (wC Y ad fr) M pc lv (.ref (ad 0) :: st) := x_get q C 0 (k := 9) (T := TX3) wC_at_0 rfl rfl inX3 (by decide) hw hd hq kk
theorem xgX3_10 (q : Nat) (C : xC Y X cc own ret N F Lc) {idx : Nat} (hw : Cond.fieldLink own idx "SpanningTreeProtocol$Network" "portPower" "[I" ∈ xw) (hd : decode cc pc = .ok (.getfield idx, 3)) (hq : pc + 3 = q) (kk : xG Y l X (wC Y ad fr) M q lv (.ref (ad 6) :: st)) : xG Y l X (wC Y ad fr) M pc lv (.ref (ad 0) :: st) := x_get q C 0 (k := 10) (T := TX3) wC_at_0 rfl rfl inX3 (by decide) hw hd hq kk
theorem xgX3_11 (q : Nat) (C : xC Y X cc own ret N F Lc) {idx : Nat} (hw : Cond.fieldLink own idx "SpanningTreeProtocol$Network" "portState" "[I" ∈ xw) (hd : decode cc pc = .ok (.getfield idx, 3)) (hq : pc + 3 = q) (kk : xG Y l X (wC Y ad fr) M q lv (.ref (ad 7) :: st)) : xG Y l X (wC Y ad fr) M pc lv (.ref (ad 0) :: st) := x_get q C 0 (k := 11) (T := TX3) wC_at_0 rfl rfl inX3 (by decide) hw hd hq kk
theorem xgX3_12 (q : Nat) (C : xC Y X cc own ret N F Lc) {idx : Nat} (hw : Cond.fieldLink own idx "SpanningTreeProtocol$Network" "stateCounter" "[I" ∈ xw) (hd : decode cc pc = .ok (.getfield idx, 3)) (hq : pc + 3 = q) (kk : xG Y l X (wC Y ad fr) M q lv (.ref (ad 8) :: st)) : xG Y l X (wC Y ad fr) M pc lv (.ref (ad 0) :: st) := x_get q C 0 (k := 12) (T := TX3) wC_at_0 rfl rfl inX3 (by decide) hw hd hq kk
theorem xgX3_13 (q : Nat) (C : xC Y X cc own ret N F Lc) {idx : Nat} (hw : Cond.fieldLink own idx "SpanningTreeProtocol$Network" "message" "[J" ∈ xw) (hd : decode cc pc = .ok (.getfield idx, 3)) (hq : pc + 3 = q) (kk : xG Y l X (wC Y ad fr) M q lv (.ref (ad 9) :: st)) : xG Y l X (wC Y ad fr) M pc lv (.ref (ad 0) :: st) := x_get q C 0 (k := 13) (T := TX3) wC_at_0 rfl rfl inX3 (by decide) hw hd hq kk
theorem xgX3_14 (q : Nat) (C : xC Y X cc own ret N F Lc) {idx : Nat} (hw : Cond.fieldLink own idx "SpanningTreeProtocol$Network" "messageLifetime" "[I" ∈ xw) (hd : decode cc pc = .ok (.getfield idx, 3)) (hq : pc + 3 = q) (kk : xG Y l X (wC Y ad fr) M q lv (.ref (ad 10) :: st)) : xG Y l X (wC Y ad fr) M pc lv (.ref (ad 0) :: st) := x_get q C 0 (k := 14) (T := TX3) wC_at_0 rfl rfl inX3 (by decide) hw hd hq kk
theorem xgX3_15 (q : Nat) (C : xC Y X cc own ret N F Lc) {idx : Nat} (hw : Cond.fieldLink own idx "SpanningTreeProtocol$Network" "stationSegment" "[I" ∈ xw) (hd : decode cc pc = .ok (.getfield idx, 3)) (hq : pc + 3 = q) (kk : xG Y l X (wC Y ad fr) M q lv (.ref (ad 11) :: st)) : xG Y l X (wC Y ad fr) M pc lv (.ref (ad 0) :: st) := x_get q C 0 (k := 15) (T := TX3) wC_at_0 rfl rfl inX3 (by decide) hw hd hq kk
theorem xgX3_16 (q : Nat) (C : xC Y X cc own ret N F Lc) {idx : Nat} (hw : Cond.fieldLink own idx "SpanningTreeProtocol$Network" "entryPort" "[I" ∈ xw) (hd : decode cc pc = .ok (.getfield idx, 3)) (hq : pc + 3 = q) (kk : xG Y l X (wC Y ad fr) M q lv (.ref (ad 12) :: st)) : xG Y l X (wC Y ad fr) M pc lv (.ref (ad 0) :: st) := x_get q C 0 (k := 16) (T := TX3) wC_at_0 rfl rfl inX3 (by decide) hw hd hq kk
theorem xgX3_17 (q : Nat) (C : xC Y X cc own ret N F Lc) {idx : Nat} (hw : Cond.fieldLink own idx "SpanningTreeProtocol$Network" "entryLifetime" "[I" ∈ xw) (hd : decode cc pc = .ok (.getfield idx, 3)) (hq : pc + 3 = q) (kk : xG Y l X (wC Y ad fr) M q lv (.ref (ad 13) :: st)) : xG Y l X (wC Y ad fr) M pc lv (.ref (ad 0) :: st) := x_get q C 0 (k := 17) (T := TX3) wC_at_0 rfl rfl inX3 (by decide) hw hd hq kk
theorem xgX3_18 (q : Nat) (C : xC Y X cc own ret N F Lc) {idx : Nat} (hw : Cond.fieldLink own idx "SpanningTreeProtocol$Network" "transmitted" "[I" ∈ xw) (hd : decode cc pc = .ok (.getfield idx, 3)) (hq : pc + 3 = q) (kk : xG Y l X (wC Y ad fr) M q lv (.ref (ad 14) :: st)) : xG Y l X (wC Y ad fr) M pc lv (.ref (ad 0) :: st) := x_get q C 0 (k := 18) (T := TX3) wC_at_0 rfl rfl inX3 (by decide) hw hd hq kk
theorem wC_at_1 : (wC Y ad fr M)[1]? = some (ad 1, .inl (Y.2.1, 8, .inl (M.1 1))) := rfl
theorem wC_set_1 (j : Nat) (v : Int32) : (wC Y ad fr M).set 1 (ad 1, .inl (Y.2.1, 8, .inl (upd (M.1 1) j v))) = wC Y ad fr (xI M 1 j v) := rfl
theorem xrC_1 (q : Nat) (C : xC Y X cc own ret N F Lc) {i : Int32} {ρ : Type} {r : ρ} {K : Int32 → Option ρ} (hd : decode cc pc = .ok (.iaload, 1)) (hq : pc + 1 = q) (hf : xrd 8 (M.1 1) i K = some r) (kk : ∀ x : Int32, K x = some r → xG Y l X (wC Y ad fr) M q lv (.int x :: st)) : xG Y l X (wC Y ad fr) M pc lv (.int i :: .ref (ad 1) :: st) := x_iald q C 1 wC_at_1 hd hq hf kk
theorem xwC_1 (q : Nat) (C : xC Y X cc own ret N F Lc) {i : Int32} {x : Int32} {ρ : Type} {r : ρ} {K : xM → Option ρ} (hd : decode cc pc = .ok (.iastore, 1)) (hq : pc + 1 = q) (hf : xwI 8 M 1 i x K = some r) (kk : ∀ M2 : xM, K M2 = some r → xG Y l X (wC Y ad fr) M2 q lv (st)) : xG Y l X (wC Y ad fr) M pc lv (.int x :: .int i :: .ref (ad 1) :: st) := x_iast q C 1 (k := 1) wC_at_1 wC_set_1 hd hq hf kk
theorem wC_at_2 : (wC Y ad fr M)[2]? = some (ad 2, .inl (Y.2.1, 8, .inl (M.1 2))) := rfl
theorem wC_set_2 (j : Nat) (v : Int32) : (wC Y ad fr M).set 2 (ad 2, .inl (Y.2.1, 8, .inl (upd (M.1 2) j v))) = wC Y ad fr (xI M 2 j v) := rfl
theorem xrC_2 (q : Nat) (C : xC Y X cc own ret N F Lc) {i : Int32} {ρ : Type} {r : ρ} {K : Int32 → Option ρ} (hd : decode cc pc = .ok (.iaload, 1)) (hq : pc + 1 = q) (hf : xrd 8 (M.1 2) i K = some r) (kk : ∀ x : Int32, K x = some r → xG Y l X (wC Y ad fr) M q lv (.int x :: st)) : xG Y l X (wC Y ad fr) M pc lv (.int i :: .ref (ad 2) :: st) := x_iald q C 2 wC_at_2 hd hq hf kk
theorem xwC_2 (q : Nat) (C : xC Y X cc own ret N F Lc) {i : Int32} {x : Int32} {ρ : Type} {r : ρ} {K : xM → Option ρ} (hd : decode cc pc = .ok (.iastore, 1)) (hq : pc + 1 = q) (hf : xwI 8 M 2 i x K = some r) (kk : ∀ M2 : xM, K M2 = some r → xG Y l X (wC Y ad fr) M2 q lv (st)) : xG Y l X (wC Y ad fr) M pc lv (.int x :: .int i :: .ref (ad 2) :: st) := x_iast q C 2 (k := 2) wC_at_2 wC_set_2 hd hq hf kk
theorem wC_at_3 : (wC Y ad fr M)[3]? = some (ad 3, .inl (Y.2.1, 24, .inl (M.1 3))) := rfl
theorem wC_set_3 (j : Nat) (v : Int32) : (wC Y ad fr M).set 3 (ad 3, .inl (Y.2.1, 24, .inl (upd (M.1 3) j v))) = wC Y ad fr (xI M 3 j v) := rfl
theorem xrC_3 (q : Nat) (C : xC Y X cc own ret N F Lc) {i : Int32} {ρ : Type} {r : ρ} {K : Int32 → Option ρ} (hd : decode cc pc = .ok (.iaload, 1)) (hq : pc + 1 = q) (hf : xrd 24 (M.1 3) i K = some r) (kk : ∀ x : Int32, K x = some r → xG Y l X (wC Y ad fr) M q lv (.int x :: st)) : xG Y l X (wC Y ad fr) M pc lv (.int i :: .ref (ad 3) :: st) := x_iald q C 3 wC_at_3 hd hq hf kk
theorem xwC_3 (q : Nat) (C : xC Y X cc own ret N F Lc) {i : Int32} {x : Int32} {ρ : Type} {r : ρ} {K : xM → Option ρ} (hd : decode cc pc = .ok (.iastore, 1)) (hq : pc + 1 = q) (hf : xwI 24 M 3 i x K = some r) (kk : ∀ M2 : xM, K M2 = some r → xG Y l X (wC Y ad fr) M2 q lv (st)) : xG Y l X (wC Y ad fr) M pc lv (.int x :: .int i :: .ref (ad 3) :: st) := x_iast q C 3 (k := 3) wC_at_3 wC_set_3 hd hq hf kk
theorem wC_at_4 : (wC Y ad fr M)[4]? = some (ad 4, .inl (Y.2.1, 24, .inl (M.1 4))) := rfl
theorem wC_set_4 (j : Nat) (v : Int32) : (wC Y ad fr M).set 4 (ad 4, .inl (Y.2.1, 24, .inl (upd (M.1 4) j v))) = wC Y ad fr (xI M 4 j v) := rfl
theorem xrC_4 (q : Nat) (C : xC Y X cc own ret N F Lc) {i : Int32} {ρ : Type} {r : ρ} {K : Int32 → Option ρ} (hd : decode cc pc = .ok (.iaload, 1)) (hq : pc + 1 = q) (hf : xrd 24 (M.1 4) i K = some r) (kk : ∀ x : Int32, K x = some r → xG Y l X (wC Y ad fr) M q lv (.int x :: st)) : xG Y l X (wC Y ad fr) M pc lv (.int i :: .ref (ad 4) :: st) := x_iald q C 4 wC_at_4 hd hq hf kk
theorem xwC_4 (q : Nat) (C : xC Y X cc own ret N F Lc) {i : Int32} {x : Int32} {ρ : Type} {r : ρ} {K : xM → Option ρ} (hd : decode cc pc = .ok (.iastore, 1)) (hq : pc + 1 = q) (hf : xwI 24 M 4 i x K = some r) (kk : ∀ M2 : xM, K M2 = some r → xG Y l X (wC Y ad fr) M2 q lv (st)) : xG Y l X (wC Y ad fr) M pc lv (.int x :: .int i :: .ref (ad 4) :: st) := x_iast q C 4 (k := 4) wC_at_4 wC_set_4 hd hq hf kk
theorem wC_at_5 : (wC Y ad fr M)[5]? = some (ad 5, .inl (Y.2.1, 24, .inl (M.1 5))) := rfl
theorem wC_set_5 (j : Nat) (v : Int32) : (wC Y ad fr M).set 5 (ad 5, .inl (Y.2.1, 24, .inl (upd (M.1 5) j v))) = wC Y ad fr (xI M 5 j v) := rfl
theorem xrC_5 (q : Nat) (C : xC Y X cc own ret N F Lc) {i : Int32} {ρ : Type} {r : ρ} {K : Int32 → Option ρ} (hd : decode cc pc = .ok (.iaload, 1)) (hq : pc + 1 = q) (hf : xrd 24 (M.1 5) i K = some r) (kk : ∀ x : Int32, K x = some r → xG Y l X (wC Y ad fr) M q lv (.int x :: st)) : xG Y l X (wC Y ad fr) M pc lv (.int i :: .ref (ad 5) :: st) := x_iald q C 5 wC_at_5 hd hq hf kk
theorem xwC_5 (q : Nat) (C : xC Y X cc own ret N F Lc) {i : Int32} {x : Int32} {ρ : Type} {r : ρ} {K : xM → Option ρ} (hd : decode cc pc = .ok (.iastore, 1)) (hq : pc + 1 = q) (hf : xwI 24 M 5 i x K = some r) (kk : ∀ M2 : xM, K M2 = some r → xG Y l X (wC Y ad fr) M2 q lv (st)) : xG Y l X (wC Y ad fr) M pc lv (.int x :: .int i :: .ref (ad 5) :: st) := x_iast q C 5 (k := 5) wC_at_5 wC_set_5 hd hq hf kk
theorem wC_at_6 : (wC Y ad fr M)[6]? = some (ad 6, .inl (Y.2.1, 24, .inl (M.1 6))) := rfl
theorem wC_set_6 (j : Nat) (v : Int32) : (wC Y ad fr M).set 6 (ad 6, .inl (Y.2.1, 24, .inl (upd (M.1 6) j v))) = wC Y ad fr (xI M 6 j v) := rfl
theorem xrC_6 (q : Nat) (C : xC Y X cc own ret N F Lc) {i : Int32} {ρ : Type} {r : ρ} {K : Int32 → Option ρ} (hd : decode cc pc = .ok (.iaload, 1)) (hq : pc + 1 = q) (hf : xrd 24 (M.1 6) i K = some r) (kk : ∀ x : Int32, K x = some r → xG Y l X (wC Y ad fr) M q lv (.int x :: st)) : xG Y l X (wC Y ad fr) M pc lv (.int i :: .ref (ad 6) :: st) := x_iald q C 6 wC_at_6 hd hq hf kk
theorem xwC_6 (q : Nat) (C : xC Y X cc own ret N F Lc) {i : Int32} {x : Int32} {ρ : Type} {r : ρ} {K : xM → Option ρ} (hd : decode cc pc = .ok (.iastore, 1)) (hq : pc + 1 = q) (hf : xwI 24 M 6 i x K = some r) (kk : ∀ M2 : xM, K M2 = some r → xG Y l X (wC Y ad fr) M2 q lv (st)) : xG Y l X (wC Y ad fr) M pc lv (.int x :: .int i :: .ref (ad 6) :: st) := x_iast q C 6 (k := 6) wC_at_6 wC_set_6 hd hq hf kk
theorem wC_at_7 : (wC Y ad fr M)[7]? = some (ad 7, .inl (Y.2.1, 24, .inl (M.1 7))) := rfl
theorem wC_set_7 (j : Nat) (v : Int32) : (wC Y ad fr M).set 7 (ad 7, .inl (Y.2.1, 24, .inl (upd (M.1 7) j v))) = wC Y ad fr (xI M 7 j v) := rfl
theorem xrC_7 (q : Nat) (C : xC Y X cc own ret N F Lc) {i : Int32} {ρ : Type} {r : ρ} {K : Int32 → Option ρ} (hd : decode cc pc = .ok (.iaload, 1)) (hq : pc + 1 = q) (hf : xrd 24 (M.1 7) i K = some r) (kk : ∀ x : Int32, K x = some r → xG Y l X (wC Y ad fr) M q lv (.int x :: st)) : xG Y l X (wC Y ad fr) M pc lv (.int i :: .ref (ad 7) :: st) := x_iald q C 7 wC_at_7 hd hq hf kk
theorem xwC_7 (q : Nat) (C : xC Y X cc own ret N F Lc) {i : Int32} {x : Int32} {ρ : Type} {r : ρ} {K : xM → Option ρ} (hd : decode cc pc = .ok (.iastore, 1)) (hq : pc + 1 = q) (hf : xwI 24 M 7 i x K = some r) (kk : ∀ M2 : xM, K M2 = some r → xG Y l X (wC Y ad fr) M2 q lv (st)) : xG Y l X (wC Y ad fr) M pc lv (.int x :: .int i :: .ref (ad 7) :: st) := x_iast q C 7 (k := 7) wC_at_7 wC_set_7 hd hq hf kk
theorem wC_at_8 : (wC Y ad fr M)[8]? = some (ad 8, .inl (Y.2.1, 24, .inl (M.1 8))) := rfl
theorem wC_set_8 (j : Nat) (v : Int32) : (wC Y ad fr M).set 8 (ad 8, .inl (Y.2.1, 24, .inl (upd (M.1 8) j v))) = wC Y ad fr (xI M 8 j v) := rfl
theorem xrC_8 (q : Nat) (C : xC Y X cc own ret N F Lc) {i : Int32} {ρ : Type} {r : ρ} {K : Int32 → Option ρ} (hd : decode cc pc = .ok (.iaload, 1)) (hq : pc + 1 = q) (hf : xrd 24 (M.1 8) i K = some r) (kk : ∀ x : Int32, K x = some r → xG Y l X (wC Y ad fr) M q lv (.int x :: st)) : xG Y l X (wC Y ad fr) M pc lv (.int i :: .ref (ad 8) :: st) := x_iald q C 8 wC_at_8 hd hq hf kk
theorem xwC_8 (q : Nat) (C : xC Y X cc own ret N F Lc) {i : Int32} {x : Int32} {ρ : Type} {r : ρ} {K : xM → Option ρ} (hd : decode cc pc = .ok (.iastore, 1)) (hq : pc + 1 = q) (hf : xwI 24 M 8 i x K = some r) (kk : ∀ M2 : xM, K M2 = some r → xG Y l X (wC Y ad fr) M2 q lv (st)) : xG Y l X (wC Y ad fr) M pc lv (.int x :: .int i :: .ref (ad 8) :: st) := x_iast q C 8 (k := 8) wC_at_8 wC_set_8 hd hq hf kk
theorem wC_at_9 : (wC Y ad fr M)[9]? = some (ad 9, .inl (Y.2.2.1, 24, .inr (.inl (M.2 9)))) := rfl
theorem wC_set_9 (j : Nat) (v : Int64) : (wC Y ad fr M).set 9 (ad 9, .inl (Y.2.2.1, 24, .inr (.inl (vp_updL (M.2 9) j v)))) = wC Y ad fr (xJ M 9 j v) := rfl
theorem xrC_9 (q : Nat) (C : xC Y X cc own ret N F Lc) {i : Int32} {ρ : Type} {r : ρ} {K : Int64 → Option ρ} (hd : decode cc pc = .ok (.laload, 1)) (hq : pc + 1 = q) (hf : xrd 24 (M.2 9) i K = some r) (kk : ∀ x : Int64, K x = some r → xG Y l X (wC Y ad fr) M q lv (.long x :: st)) : xG Y l X (wC Y ad fr) M pc lv (.int i :: .ref (ad 9) :: st) := x_lald q C 9 wC_at_9 hd hq hf kk
theorem xwC_9 (q : Nat) (C : xC Y X cc own ret N F Lc) {i : Int32} {x : Int64} {ρ : Type} {r : ρ} {K : xM → Option ρ} (hd : decode cc pc = .ok (.lastore, 1)) (hq : pc + 1 = q) (hf : xwJ 24 M 9 i x K = some r) (kk : ∀ M2 : xM, K M2 = some r → xG Y l X (wC Y ad fr) M2 q lv (st)) : xG Y l X (wC Y ad fr) M pc lv (.long x :: .int i :: .ref (ad 9) :: st) := x_last q C 9 (k := 9) wC_at_9 wC_set_9 hd hq hf kk
theorem wC_at_10 : (wC Y ad fr M)[10]? = some (ad 10, .inl (Y.2.1, 24, .inl (M.1 10))) := rfl
theorem wC_set_10 (j : Nat) (v : Int32) : (wC Y ad fr M).set 10 (ad 10, .inl (Y.2.1, 24, .inl (upd (M.1 10) j v))) = wC Y ad fr (xI M 10 j v) := rfl
theorem xrC_10 (q : Nat) (C : xC Y X cc own ret N F Lc) {i : Int32} {ρ : Type} {r : ρ} {K : Int32 → Option ρ} (hd : decode cc pc = .ok (.iaload, 1)) (hq : pc + 1 = q) (hf : xrd 24 (M.1 10) i K = some r) (kk : ∀ x : Int32, K x = some r → xG Y l X (wC Y ad fr) M q lv (.int x :: st)) : xG Y l X (wC Y ad fr) M pc lv (.int i :: .ref (ad 10) :: st) := x_iald q C 10 wC_at_10 hd hq hf kk
theorem xwC_10 (q : Nat) (C : xC Y X cc own ret N F Lc) {i : Int32} {x : Int32} {ρ : Type} {r : ρ} {K : xM → Option ρ} (hd : decode cc pc = .ok (.iastore, 1)) (hq : pc + 1 = q) (hf : xwI 24 M 10 i x K = some r) (kk : ∀ M2 : xM, K M2 = some r → xG Y l X (wC Y ad fr) M2 q lv (st)) : xG Y l X (wC Y ad fr) M pc lv (.int x :: .int i :: .ref (ad 10) :: st) := x_iast q C 10 (k := 10) wC_at_10 wC_set_10 hd hq hf kk
theorem wC_at_11 : (wC Y ad fr M)[11]? = some (ad 11, .inl (Y.2.1, 8, .inl (M.1 11))) := rfl
theorem wC_set_11 (j : Nat) (v : Int32) : (wC Y ad fr M).set 11 (ad 11, .inl (Y.2.1, 8, .inl (upd (M.1 11) j v))) = wC Y ad fr (xI M 11 j v) := rfl
theorem xrC_11 (q : Nat) (C : xC Y X cc own ret N F Lc) {i : Int32} {ρ : Type} {r : ρ} {K : Int32 → Option ρ} (hd : decode cc pc = .ok (.iaload, 1)) (hq : pc + 1 = q) (hf : xrd 8 (M.1 11) i K = some r) (kk : ∀ x : Int32, K x = some r → xG Y l X (wC Y ad fr) M q lv (.int x :: st)) : xG Y l X (wC Y ad fr) M pc lv (.int i :: .ref (ad 11) :: st) := x_iald q C 11 wC_at_11 hd hq hf kk
theorem xwC_11 (q : Nat) (C : xC Y X cc own ret N F Lc) {i : Int32} {x : Int32} {ρ : Type} {r : ρ} {K : xM → Option ρ} (hd : decode cc pc = .ok (.iastore, 1)) (hq : pc + 1 = q) (hf : xwI 8 M 11 i x K = some r) (kk : ∀ M2 : xM, K M2 = some r → xG Y l X (wC Y ad fr) M2 q lv (st)) : xG Y l X (wC Y ad fr) M pc lv (.int x :: .int i :: .ref (ad 11) :: st) := x_iast q C 11 (k := 11) wC_at_11 wC_set_11 hd hq hf kk
theorem wC_at_12 : (wC Y ad fr M)[12]? = some (ad 12, .inl (Y.2.1, 64, .inl (M.1 12))) := rfl
theorem wC_set_12 (j : Nat) (v : Int32) : (wC Y ad fr M).set 12 (ad 12, .inl (Y.2.1, 64, .inl (upd (M.1 12) j v))) = wC Y ad fr (xI M 12 j v) := rfl
theorem xrC_12 (q : Nat) (C : xC Y X cc own ret N F Lc) {i : Int32} {ρ : Type} {r : ρ} {K : Int32 → Option ρ} (hd : decode cc pc = .ok (.iaload, 1)) (hq : pc + 1 = q) (hf : xrd 64 (M.1 12) i K = some r) (kk : ∀ x : Int32, K x = some r → xG Y l X (wC Y ad fr) M q lv (.int x :: st)) : xG Y l X (wC Y ad fr) M pc lv (.int i :: .ref (ad 12) :: st) := x_iald q C 12 wC_at_12 hd hq hf kk
theorem xwC_12 (q : Nat) (C : xC Y X cc own ret N F Lc) {i : Int32} {x : Int32} {ρ : Type} {r : ρ} {K : xM → Option ρ} (hd : decode cc pc = .ok (.iastore, 1)) (hq : pc + 1 = q) (hf : xwI 64 M 12 i x K = some r) (kk : ∀ M2 : xM, K M2 = some r → xG Y l X (wC Y ad fr) M2 q lv (st)) : xG Y l X (wC Y ad fr) M pc lv (.int x :: .int i :: .ref (ad 12) :: st) := x_iast q C 12 (k := 12) wC_at_12 wC_set_12 hd hq hf kk
theorem wC_at_13 : (wC Y ad fr M)[13]? = some (ad 13, .inl (Y.2.1, 64, .inl (M.1 13))) := rfl
theorem wC_set_13 (j : Nat) (v : Int32) : (wC Y ad fr M).set 13 (ad 13, .inl (Y.2.1, 64, .inl (upd (M.1 13) j v))) = wC Y ad fr (xI M 13 j v) := rfl
theorem xrC_13 (q : Nat) (C : xC Y X cc own ret N F Lc) {i : Int32} {ρ : Type} {r : ρ} {K : Int32 → Option ρ} (hd : decode cc pc = .ok (.iaload, 1)) (hq : pc + 1 = q) (hf : xrd 64 (M.1 13) i K = some r) (kk : ∀ x : Int32, K x = some r → xG Y l X (wC Y ad fr) M q lv (.int x :: st)) : xG Y l X (wC Y ad fr) M pc lv (.int i :: .ref (ad 13) :: st) := x_iald q C 13 wC_at_13 hd hq hf kk
theorem xwC_13 (q : Nat) (C : xC Y X cc own ret N F Lc) {i : Int32} {x : Int32} {ρ : Type} {r : ρ} {K : xM → Option ρ} (hd : decode cc pc = .ok (.iastore, 1)) (hq : pc + 1 = q) (hf : xwI 64 M 13 i x K = some r) (kk : ∀ M2 : xM, K M2 = some r → xG Y l X (wC Y ad fr) M2 q lv (st)) : xG Y l X (wC Y ad fr) M pc lv (.int x :: .int i :: .ref (ad 13) :: st) := x_iast q C 13 (k := 13) wC_at_13 wC_set_13 hd hq hf kk
theorem wC_at_14 : (wC Y ad fr M)[14]? = some (ad 14, .inl (Y.2.1, 10, .inl (M.1 14))) := rfl
theorem wC_set_14 (j : Nat) (v : Int32) : (wC Y ad fr M).set 14 (ad 14, .inl (Y.2.1, 10, .inl (upd (M.1 14) j v))) = wC Y ad fr (xI M 14 j v) := rfl
theorem xrC_14 (q : Nat) (C : xC Y X cc own ret N F Lc) {i : Int32} {ρ : Type} {r : ρ} {K : Int32 → Option ρ} (hd : decode cc pc = .ok (.iaload, 1)) (hq : pc + 1 = q) (hf : xrd 10 (M.1 14) i K = some r) (kk : ∀ x : Int32, K x = some r → xG Y l X (wC Y ad fr) M q lv (.int x :: st)) : xG Y l X (wC Y ad fr) M pc lv (.int i :: .ref (ad 14) :: st) := x_iald q C 14 wC_at_14 hd hq hf kk
theorem xwC_14 (q : Nat) (C : xC Y X cc own ret N F Lc) {i : Int32} {x : Int32} {ρ : Type} {r : ρ} {K : xM → Option ρ} (hd : decode cc pc = .ok (.iastore, 1)) (hq : pc + 1 = q) (hf : xwI 10 M 14 i x K = some r) (kk : ∀ M2 : xM, K M2 = some r → xG Y l X (wC Y ad fr) M2 q lv (st)) : xG Y l X (wC Y ad fr) M pc lv (.int x :: .int i :: .ref (ad 14) :: st) := x_iast q C 14 (k := 14) wC_at_14 wC_set_14 hd hq hf kk
theorem wC_at_15 : (wC Y ad fr M)[15]? = some (ad 15, .inr (0, [.ref (ad 0), .ref (ad 16), .ref (ad 17), .ref (ad 18), .ref (ad 19), .ref (ad 20), .ref (ad 21)])) := rfl
theorem xgX0_0 (q : Nat) (C : xC Y X cc own ret N F Lc) {idx : Nat} (hw : Cond.fieldLink own idx "SpanningTreeProtocol$Election" "net" "LSpanningTreeProtocol$Network;" ∈ xw) (hd : decode cc pc = .ok (.getfield idx, 3)) (hq : pc + 3 = q) (kk : xG Y l X (wC Y ad fr) M q lv (.ref (ad 0) :: st)) : xG Y l X (wC Y ad fr) M pc lv (.ref (ad 15) :: st) := x_get q C 15 (k := 0) (T := TX0) wC_at_15 rfl rfl inX0 (by decide) hw hd hq kk
theorem xgX0_1 (q : Nat) (C : xC Y X cc own ret N F Lc) {idx : Nat} (hw : Cond.fieldLink own idx "SpanningTreeProtocol$Election" "bridgeRoot" "[I" ∈ xw) (hd : decode cc pc = .ok (.getfield idx, 3)) (hq : pc + 3 = q) (kk : xG Y l X (wC Y ad fr) M q lv (.ref (ad 16) :: st)) : xG Y l X (wC Y ad fr) M pc lv (.ref (ad 15) :: st) := x_get q C 15 (k := 1) (T := TX0) wC_at_15 rfl rfl inX0 (by decide) hw hd hq kk
theorem xgX0_2 (q : Nat) (C : xC Y X cc own ret N F Lc) {idx : Nat} (hw : Cond.fieldLink own idx "SpanningTreeProtocol$Election" "bridgeRootCost" "[I" ∈ xw) (hd : decode cc pc = .ok (.getfield idx, 3)) (hq : pc + 3 = q) (kk : xG Y l X (wC Y ad fr) M q lv (.ref (ad 17) :: st)) : xG Y l X (wC Y ad fr) M pc lv (.ref (ad 15) :: st) := x_get q C 15 (k := 2) (T := TX0) wC_at_15 rfl rfl inX0 (by decide) hw hd hq kk
theorem xgX0_3 (q : Nat) (C : xC Y X cc own ret N F Lc) {idx : Nat} (hw : Cond.fieldLink own idx "SpanningTreeProtocol$Election" "bridgeRootPort" "[I" ∈ xw) (hd : decode cc pc = .ok (.getfield idx, 3)) (hq : pc + 3 = q) (kk : xG Y l X (wC Y ad fr) M q lv (.ref (ad 18) :: st)) : xG Y l X (wC Y ad fr) M pc lv (.ref (ad 15) :: st) := x_get q C 15 (k := 3) (T := TX0) wC_at_15 rfl rfl inX0 (by decide) hw hd hq kk
theorem xgX0_4 (q : Nat) (C : xC Y X cc own ret N F Lc) {idx : Nat} (hw : Cond.fieldLink own idx "SpanningTreeProtocol$Election" "portRole" "[I" ∈ xw) (hd : decode cc pc = .ok (.getfield idx, 3)) (hq : pc + 3 = q) (kk : xG Y l X (wC Y ad fr) M q lv (.ref (ad 19) :: st)) : xG Y l X (wC Y ad fr) M pc lv (.ref (ad 15) :: st) := x_get q C 15 (k := 4) (T := TX0) wC_at_15 rfl rfl inX0 (by decide) hw hd hq kk
theorem xgX0_5 (q : Nat) (C : xC Y X cc own ret N F Lc) {idx : Nat} (hw : Cond.fieldLink own idx "SpanningTreeProtocol$Election" "bestOffer" "[J" ∈ xw) (hd : decode cc pc = .ok (.getfield idx, 3)) (hq : pc + 3 = q) (kk : xG Y l X (wC Y ad fr) M q lv (.ref (ad 20) :: st)) : xG Y l X (wC Y ad fr) M pc lv (.ref (ad 15) :: st) := x_get q C 15 (k := 5) (T := TX0) wC_at_15 rfl rfl inX0 (by decide) hw hd hq kk
theorem xgX0_6 (q : Nat) (C : xC Y X cc own ret N F Lc) {idx : Nat} (hw : Cond.fieldLink own idx "SpanningTreeProtocol$Election" "bestOfferPort" "[I" ∈ xw) (hd : decode cc pc = .ok (.getfield idx, 3)) (hq : pc + 3 = q) (kk : xG Y l X (wC Y ad fr) M q lv (.ref (ad 21) :: st)) : xG Y l X (wC Y ad fr) M pc lv (.ref (ad 15) :: st) := x_get q C 15 (k := 6) (T := TX0) wC_at_15 rfl rfl inX0 (by decide) hw hd hq kk
theorem wC_at_16 : (wC Y ad fr M)[16]? = some (ad 16, .inl (Y.2.1, 8, .inl (M.1 16))) := rfl
theorem wC_set_16 (j : Nat) (v : Int32) : (wC Y ad fr M).set 16 (ad 16, .inl (Y.2.1, 8, .inl (upd (M.1 16) j v))) = wC Y ad fr (xI M 16 j v) := rfl
theorem xrC_16 (q : Nat) (C : xC Y X cc own ret N F Lc) {i : Int32} {ρ : Type} {r : ρ} {K : Int32 → Option ρ} (hd : decode cc pc = .ok (.iaload, 1)) (hq : pc + 1 = q) (hf : xrd 8 (M.1 16) i K = some r) (kk : ∀ x : Int32, K x = some r → xG Y l X (wC Y ad fr) M q lv (.int x :: st)) : xG Y l X (wC Y ad fr) M pc lv (.int i :: .ref (ad 16) :: st) := x_iald q C 16 wC_at_16 hd hq hf kk
theorem xwC_16 (q : Nat) (C : xC Y X cc own ret N F Lc) {i : Int32} {x : Int32} {ρ : Type} {r : ρ} {K : xM → Option ρ} (hd : decode cc pc = .ok (.iastore, 1)) (hq : pc + 1 = q) (hf : xwI 8 M 16 i x K = some r) (kk : ∀ M2 : xM, K M2 = some r → xG Y l X (wC Y ad fr) M2 q lv (st)) : xG Y l X (wC Y ad fr) M pc lv (.int x :: .int i :: .ref (ad 16) :: st) := x_iast q C 16 (k := 16) wC_at_16 wC_set_16 hd hq hf kk
theorem wC_at_17 : (wC Y ad fr M)[17]? = some (ad 17, .inl (Y.2.1, 8, .inl (M.1 17))) := rfl
theorem wC_set_17 (j : Nat) (v : Int32) : (wC Y ad fr M).set 17 (ad 17, .inl (Y.2.1, 8, .inl (upd (M.1 17) j v))) = wC Y ad fr (xI M 17 j v) := rfl
theorem xrC_17 (q : Nat) (C : xC Y X cc own ret N F Lc) {i : Int32} {ρ : Type} {r : ρ} {K : Int32 → Option ρ} (hd : decode cc pc = .ok (.iaload, 1)) (hq : pc + 1 = q) (hf : xrd 8 (M.1 17) i K = some r) (kk : ∀ x : Int32, K x = some r → xG Y l X (wC Y ad fr) M q lv (.int x :: st)) : xG Y l X (wC Y ad fr) M pc lv (.int i :: .ref (ad 17) :: st) := x_iald q C 17 wC_at_17 hd hq hf kk
theorem xwC_17 (q : Nat) (C : xC Y X cc own ret N F Lc) {i : Int32} {x : Int32} {ρ : Type} {r : ρ} {K : xM → Option ρ} (hd : decode cc pc = .ok (.iastore, 1)) (hq : pc + 1 = q) (hf : xwI 8 M 17 i x K = some r) (kk : ∀ M2 : xM, K M2 = some r → xG Y l X (wC Y ad fr) M2 q lv (st)) : xG Y l X (wC Y ad fr) M pc lv (.int x :: .int i :: .ref (ad 17) :: st) := x_iast q C 17 (k := 17) wC_at_17 wC_set_17 hd hq hf kk
theorem wC_at_18 : (wC Y ad fr M)[18]? = some (ad 18, .inl (Y.2.1, 8, .inl (M.1 18))) := rfl
theorem wC_set_18 (j : Nat) (v : Int32) : (wC Y ad fr M).set 18 (ad 18, .inl (Y.2.1, 8, .inl (upd (M.1 18) j v))) = wC Y ad fr (xI M 18 j v) := rfl
theorem xrC_18 (q : Nat) (C : xC Y X cc own ret N F Lc) {i : Int32} {ρ : Type} {r : ρ} {K : Int32 → Option ρ} (hd : decode cc pc = .ok (.iaload, 1)) (hq : pc + 1 = q) (hf : xrd 8 (M.1 18) i K = some r) (kk : ∀ x : Int32, K x = some r → xG Y l X (wC Y ad fr) M q lv (.int x :: st)) : xG Y l X (wC Y ad fr) M pc lv (.int i :: .ref (ad 18) :: st) := x_iald q C 18 wC_at_18 hd hq hf kk
theorem xwC_18 (q : Nat) (C : xC Y X cc own ret N F Lc) {i : Int32} {x : Int32} {ρ : Type} {r : ρ} {K : xM → Option ρ} (hd : decode cc pc = .ok (.iastore, 1)) (hq : pc + 1 = q) (hf : xwI 8 M 18 i x K = some r) (kk : ∀ M2 : xM, K M2 = some r → xG Y l X (wC Y ad fr) M2 q lv (st)) : xG Y l X (wC Y ad fr) M pc lv (.int x :: .int i :: .ref (ad 18) :: st) := x_iast q C 18 (k := 18) wC_at_18 wC_set_18 hd hq hf kk
theorem wC_at_19 : (wC Y ad fr M)[19]? = some (ad 19, .inl (Y.2.1, 24, .inl (M.1 19))) := rfl
theorem wC_set_19 (j : Nat) (v : Int32) : (wC Y ad fr M).set 19 (ad 19, .inl (Y.2.1, 24, .inl (upd (M.1 19) j v))) = wC Y ad fr (xI M 19 j v) := rfl
theorem xrC_19 (q : Nat) (C : xC Y X cc own ret N F Lc) {i : Int32} {ρ : Type} {r : ρ} {K : Int32 → Option ρ} (hd : decode cc pc = .ok (.iaload, 1)) (hq : pc + 1 = q) (hf : xrd 24 (M.1 19) i K = some r) (kk : ∀ x : Int32, K x = some r → xG Y l X (wC Y ad fr) M q lv (.int x :: st)) : xG Y l X (wC Y ad fr) M pc lv (.int i :: .ref (ad 19) :: st) := x_iald q C 19 wC_at_19 hd hq hf kk
theorem xwC_19 (q : Nat) (C : xC Y X cc own ret N F Lc) {i : Int32} {x : Int32} {ρ : Type} {r : ρ} {K : xM → Option ρ} (hd : decode cc pc = .ok (.iastore, 1)) (hq : pc + 1 = q) (hf : xwI 24 M 19 i x K = some r) (kk : ∀ M2 : xM, K M2 = some r → xG Y l X (wC Y ad fr) M2 q lv (st)) : xG Y l X (wC Y ad fr) M pc lv (.int x :: .int i :: .ref (ad 19) :: st) := x_iast q C 19 (k := 19) wC_at_19 wC_set_19 hd hq hf kk
theorem wC_at_20 : (wC Y ad fr M)[20]? = some (ad 20, .inl (Y.2.2.1, 8, .inr (.inl (M.2 20)))) := rfl
theorem wC_set_20 (j : Nat) (v : Int64) : (wC Y ad fr M).set 20 (ad 20, .inl (Y.2.2.1, 8, .inr (.inl (vp_updL (M.2 20) j v)))) = wC Y ad fr (xJ M 20 j v) := rfl
theorem xrC_20 (q : Nat) (C : xC Y X cc own ret N F Lc) {i : Int32} {ρ : Type} {r : ρ} {K : Int64 → Option ρ} (hd : decode cc pc = .ok (.laload, 1)) (hq : pc + 1 = q) (hf : xrd 8 (M.2 20) i K = some r) (kk : ∀ x : Int64, K x = some r → xG Y l X (wC Y ad fr) M q lv (.long x :: st)) : xG Y l X (wC Y ad fr) M pc lv (.int i :: .ref (ad 20) :: st) := x_lald q C 20 wC_at_20 hd hq hf kk
theorem xwC_20 (q : Nat) (C : xC Y X cc own ret N F Lc) {i : Int32} {x : Int64} {ρ : Type} {r : ρ} {K : xM → Option ρ} (hd : decode cc pc = .ok (.lastore, 1)) (hq : pc + 1 = q) (hf : xwJ 8 M 20 i x K = some r) (kk : ∀ M2 : xM, K M2 = some r → xG Y l X (wC Y ad fr) M2 q lv (st)) : xG Y l X (wC Y ad fr) M pc lv (.long x :: .int i :: .ref (ad 20) :: st) := x_last q C 20 (k := 20) wC_at_20 wC_set_20 hd hq hf kk
theorem wC_at_21 : (wC Y ad fr M)[21]? = some (ad 21, .inl (Y.2.1, 8, .inl (M.1 21))) := rfl
theorem wC_set_21 (j : Nat) (v : Int32) : (wC Y ad fr M).set 21 (ad 21, .inl (Y.2.1, 8, .inl (upd (M.1 21) j v))) = wC Y ad fr (xI M 21 j v) := rfl
theorem xrC_21 (q : Nat) (C : xC Y X cc own ret N F Lc) {i : Int32} {ρ : Type} {r : ρ} {K : Int32 → Option ρ} (hd : decode cc pc = .ok (.iaload, 1)) (hq : pc + 1 = q) (hf : xrd 8 (M.1 21) i K = some r) (kk : ∀ x : Int32, K x = some r → xG Y l X (wC Y ad fr) M q lv (.int x :: st)) : xG Y l X (wC Y ad fr) M pc lv (.int i :: .ref (ad 21) :: st) := x_iald q C 21 wC_at_21 hd hq hf kk
theorem xwC_21 (q : Nat) (C : xC Y X cc own ret N F Lc) {i : Int32} {x : Int32} {ρ : Type} {r : ρ} {K : xM → Option ρ} (hd : decode cc pc = .ok (.iastore, 1)) (hq : pc + 1 = q) (hf : xwI 8 M 21 i x K = some r) (kk : ∀ M2 : xM, K M2 = some r → xG Y l X (wC Y ad fr) M2 q lv (st)) : xG Y l X (wC Y ad fr) M pc lv (.int x :: .int i :: .ref (ad 21) :: st) := x_iast q C 21 (k := 21) wC_at_21 wC_set_21 hd hq hf kk
theorem wC_at_22 : (wC Y ad fr M)[22]? = some (ad 22, .inr (3, [.ref (ad 0), .ref (ad 15), .ref (ad 23), .ref (ad 24), .ref (ad 25), .ref (ad 26)])) := rfl
theorem xgX4_0 (q : Nat) (C : xC Y X cc own ret N F Lc) {idx : Nat} (hw : Cond.fieldLink own idx "SpanningTreeProtocol$Ticker" "net" "LSpanningTreeProtocol$Network;" ∈ xw) (hd : decode cc pc = .ok (.getfield idx, 3)) (hq : pc + 3 = q) (kk : xG Y l X (wC Y ad fr) M q lv (.ref (ad 0) :: st)) : xG Y l X (wC Y ad fr) M pc lv (.ref (ad 22) :: st) := x_get q C 22 (k := 0) (T := TX4) wC_at_22 rfl rfl inX4 (by decide) hw hd hq kk
theorem xgX4_1 (q : Nat) (C : xC Y X cc own ret N F Lc) {idx : Nat} (hw : Cond.fieldLink own idx "SpanningTreeProtocol$Ticker" "election" "LSpanningTreeProtocol$Election;" ∈ xw) (hd : decode cc pc = .ok (.getfield idx, 3)) (hq : pc + 3 = q) (kk : xG Y l X (wC Y ad fr) M q lv (.ref (ad 15) :: st)) : xG Y l X (wC Y ad fr) M pc lv (.ref (ad 22) :: st) := x_get q C 22 (k := 1) (T := TX4) wC_at_22 rfl rfl inX4 (by decide) hw hd hq kk
theorem xgX4_2 (q : Nat) (C : xC Y X cc own ret N F Lc) {idx : Nat} (hw : Cond.fieldLink own idx "SpanningTreeProtocol$Ticker" "sentMessage" "[J" ∈ xw) (hd : decode cc pc = .ok (.getfield idx, 3)) (hq : pc + 3 = q) (kk : xG Y l X (wC Y ad fr) M q lv (.ref (ad 23) :: st)) : xG Y l X (wC Y ad fr) M pc lv (.ref (ad 22) :: st) := x_get q C 22 (k := 2) (T := TX4) wC_at_22 rfl rfl inX4 (by decide) hw hd hq kk
theorem xgX4_3 (q : Nat) (C : xC Y X cc own ret N F Lc) {idx : Nat} (hw : Cond.fieldLink own idx "SpanningTreeProtocol$Ticker" "sentAge" "[I" ∈ xw) (hd : decode cc pc = .ok (.getfield idx, 3)) (hq : pc + 3 = q) (kk : xG Y l X (wC Y ad fr) M q lv (.ref (ad 24) :: st)) : xG Y l X (wC Y ad fr) M pc lv (.ref (ad 22) :: st) := x_get q C 22 (k := 3) (T := TX4) wC_at_22 rfl rfl inX4 (by decide) hw hd hq kk
theorem xgX4_4 (q : Nat) (C : xC Y X cc own ret N F Lc) {idx : Nat} (hw : Cond.fieldLink own idx "SpanningTreeProtocol$Ticker" "bestSender" "[I" ∈ xw) (hd : decode cc pc = .ok (.getfield idx, 3)) (hq : pc + 3 = q) (kk : xG Y l X (wC Y ad fr) M q lv (.ref (ad 25) :: st)) : xG Y l X (wC Y ad fr) M pc lv (.ref (ad 22) :: st) := x_get q C 22 (k := 4) (T := TX4) wC_at_22 rfl rfl inX4 (by decide) hw hd hq kk
theorem xgX4_5 (q : Nat) (C : xC Y X cc own ret N F Lc) {idx : Nat} (hw : Cond.fieldLink own idx "SpanningTreeProtocol$Ticker" "nextBestSender" "[I" ∈ xw) (hd : decode cc pc = .ok (.getfield idx, 3)) (hq : pc + 3 = q) (kk : xG Y l X (wC Y ad fr) M q lv (.ref (ad 26) :: st)) : xG Y l X (wC Y ad fr) M pc lv (.ref (ad 22) :: st) := x_get q C 22 (k := 5) (T := TX4) wC_at_22 rfl rfl inX4 (by decide) hw hd hq kk
theorem wC_at_23 : (wC Y ad fr M)[23]? = some (ad 23, .inl (Y.2.2.1, 24, .inr (.inl (M.2 23)))) := rfl
theorem wC_set_23 (j : Nat) (v : Int64) : (wC Y ad fr M).set 23 (ad 23, .inl (Y.2.2.1, 24, .inr (.inl (vp_updL (M.2 23) j v)))) = wC Y ad fr (xJ M 23 j v) := rfl
theorem xrC_23 (q : Nat) (C : xC Y X cc own ret N F Lc) {i : Int32} {ρ : Type} {r : ρ} {K : Int64 → Option ρ} (hd : decode cc pc = .ok (.laload, 1)) (hq : pc + 1 = q) (hf : xrd 24 (M.2 23) i K = some r) (kk : ∀ x : Int64, K x = some r → xG Y l X (wC Y ad fr) M q lv (.long x :: st)) : xG Y l X (wC Y ad fr) M pc lv (.int i :: .ref (ad 23) :: st) := x_lald q C 23 wC_at_23 hd hq hf kk
theorem xwC_23 (q : Nat) (C : xC Y X cc own ret N F Lc) {i : Int32} {x : Int64} {ρ : Type} {r : ρ} {K : xM → Option ρ} (hd : decode cc pc = .ok (.lastore, 1)) (hq : pc + 1 = q) (hf : xwJ 24 M 23 i x K = some r) (kk : ∀ M2 : xM, K M2 = some r → xG Y l X (wC Y ad fr) M2 q lv (st)) : xG Y l X (wC Y ad fr) M pc lv (.long x :: .int i :: .ref (ad 23) :: st) := x_last q C 23 (k := 23) wC_at_23 wC_set_23 hd hq hf kk
theorem wC_at_24 : (wC Y ad fr M)[24]? = some (ad 24, .inl (Y.2.1, 24, .inl (M.1 24))) := rfl
theorem wC_set_24 (j : Nat) (v : Int32) : (wC Y ad fr M).set 24 (ad 24, .inl (Y.2.1, 24, .inl (upd (M.1 24) j v))) = wC Y ad fr (xI M 24 j v) := rfl
theorem xrC_24 (q : Nat) (C : xC Y X cc own ret N F Lc) {i : Int32} {ρ : Type} {r : ρ} {K : Int32 → Option ρ} (hd : decode cc pc = .ok (.iaload, 1)) (hq : pc + 1 = q) (hf : xrd 24 (M.1 24) i K = some r) (kk : ∀ x : Int32, K x = some r → xG Y l X (wC Y ad fr) M q lv (.int x :: st)) : xG Y l X (wC Y ad fr) M pc lv (.int i :: .ref (ad 24) :: st) := x_iald q C 24 wC_at_24 hd hq hf kk
theorem xwC_24 (q : Nat) (C : xC Y X cc own ret N F Lc) {i : Int32} {x : Int32} {ρ : Type} {r : ρ} {K : xM → Option ρ} (hd : decode cc pc = .ok (.iastore, 1)) (hq : pc + 1 = q) (hf : xwI 24 M 24 i x K = some r) (kk : ∀ M2 : xM, K M2 = some r → xG Y l X (wC Y ad fr) M2 q lv (st)) : xG Y l X (wC Y ad fr) M pc lv (.int x :: .int i :: .ref (ad 24) :: st) := x_iast q C 24 (k := 24) wC_at_24 wC_set_24 hd hq hf kk
theorem wC_at_25 : (wC Y ad fr M)[25]? = some (ad 25, .inl (Y.2.1, 10, .inl (M.1 25))) := rfl
theorem wC_set_25 (j : Nat) (v : Int32) : (wC Y ad fr M).set 25 (ad 25, .inl (Y.2.1, 10, .inl (upd (M.1 25) j v))) = wC Y ad fr (xI M 25 j v) := rfl
theorem xrC_25 (q : Nat) (C : xC Y X cc own ret N F Lc) {i : Int32} {ρ : Type} {r : ρ} {K : Int32 → Option ρ} (hd : decode cc pc = .ok (.iaload, 1)) (hq : pc + 1 = q) (hf : xrd 10 (M.1 25) i K = some r) (kk : ∀ x : Int32, K x = some r → xG Y l X (wC Y ad fr) M q lv (.int x :: st)) : xG Y l X (wC Y ad fr) M pc lv (.int i :: .ref (ad 25) :: st) := x_iald q C 25 wC_at_25 hd hq hf kk
theorem xwC_25 (q : Nat) (C : xC Y X cc own ret N F Lc) {i : Int32} {x : Int32} {ρ : Type} {r : ρ} {K : xM → Option ρ} (hd : decode cc pc = .ok (.iastore, 1)) (hq : pc + 1 = q) (hf : xwI 10 M 25 i x K = some r) (kk : ∀ M2 : xM, K M2 = some r → xG Y l X (wC Y ad fr) M2 q lv (st)) : xG Y l X (wC Y ad fr) M pc lv (.int x :: .int i :: .ref (ad 25) :: st) := x_iast q C 25 (k := 25) wC_at_25 wC_set_25 hd hq hf kk
theorem wC_at_26 : (wC Y ad fr M)[26]? = some (ad 26, .inl (Y.2.1, 10, .inl (M.1 26))) := rfl
theorem wC_set_26 (j : Nat) (v : Int32) : (wC Y ad fr M).set 26 (ad 26, .inl (Y.2.1, 10, .inl (upd (M.1 26) j v))) = wC Y ad fr (xI M 26 j v) := rfl
theorem xrC_26 (q : Nat) (C : xC Y X cc own ret N F Lc) {i : Int32} {ρ : Type} {r : ρ} {K : Int32 → Option ρ} (hd : decode cc pc = .ok (.iaload, 1)) (hq : pc + 1 = q) (hf : xrd 10 (M.1 26) i K = some r) (kk : ∀ x : Int32, K x = some r → xG Y l X (wC Y ad fr) M q lv (.int x :: st)) : xG Y l X (wC Y ad fr) M pc lv (.int i :: .ref (ad 26) :: st) := x_iald q C 26 wC_at_26 hd hq hf kk
theorem xwC_26 (q : Nat) (C : xC Y X cc own ret N F Lc) {i : Int32} {x : Int32} {ρ : Type} {r : ρ} {K : xM → Option ρ} (hd : decode cc pc = .ok (.iastore, 1)) (hq : pc + 1 = q) (hf : xwI 10 M 26 i x K = some r) (kk : ∀ M2 : xM, K M2 = some r → xG Y l X (wC Y ad fr) M2 q lv (st)) : xG Y l X (wC Y ad fr) M pc lv (.int x :: .int i :: .ref (ad 26) :: st) := x_iast q C 26 (k := 26) wC_at_26 wC_set_26 hd hq hf kk
theorem wC_at_27 : (wC Y ad fr M)[27]? = some (ad 27, .inr (1, [.ref (ad 0), .ref (ad 28), .ref (ad 29), .int (M.1 27 0)])) := rfl
theorem xgX1_0 (q : Nat) (C : xC Y X cc own ret N F Lc) {idx : Nat} (hw : Cond.fieldLink own idx "SpanningTreeProtocol$Frame" "net" "LSpanningTreeProtocol$Network;" ∈ xw) (hd : decode cc pc = .ok (.getfield idx, 3)) (hq : pc + 3 = q) (kk : xG Y l X (wC Y ad fr) M q lv (.ref (ad 0) :: st)) : xG Y l X (wC Y ad fr) M pc lv (.ref (ad 27) :: st) := x_get q C 27 (k := 0) (T := TX1) wC_at_27 rfl rfl inX1 (by decide) hw hd hq kk
theorem xgX1_1 (q : Nat) (C : xC Y X cc own ret N F Lc) {idx : Nat} (hw : Cond.fieldLink own idx "SpanningTreeProtocol$Frame" "queueSegment" "[I" ∈ xw) (hd : decode cc pc = .ok (.getfield idx, 3)) (hq : pc + 3 = q) (kk : xG Y l X (wC Y ad fr) M q lv (.ref (ad 28) :: st)) : xG Y l X (wC Y ad fr) M pc lv (.ref (ad 27) :: st) := x_get q C 27 (k := 1) (T := TX1) wC_at_27 rfl rfl inX1 (by decide) hw hd hq kk
theorem xgX1_2 (q : Nat) (C : xC Y X cc own ret N F Lc) {idx : Nat} (hw : Cond.fieldLink own idx "SpanningTreeProtocol$Frame" "queuePort" "[I" ∈ xw) (hd : decode cc pc = .ok (.getfield idx, 3)) (hq : pc + 3 = q) (kk : xG Y l X (wC Y ad fr) M q lv (.ref (ad 29) :: st)) : xG Y l X (wC Y ad fr) M pc lv (.ref (ad 27) :: st) := x_get q C 27 (k := 2) (T := TX1) wC_at_27 rfl rfl inX1 (by decide) hw hd hq kk
theorem xgX1_3 (q : Nat) (C : xC Y X cc own ret N F Lc) {idx : Nat} (hw : Cond.fieldLink own idx "SpanningTreeProtocol$Frame" "made" "I" ∈ xw) (hd : decode cc pc = .ok (.getfield idx, 3)) (hq : pc + 3 = q) (kk : xG Y l X (wC Y ad fr) M q lv (.int (M.1 27 0) :: st)) : xG Y l X (wC Y ad fr) M pc lv (.ref (ad 27) :: st) := x_get q C 27 (k := 3) (T := TX1) wC_at_27 rfl rfl inX1 (by decide) hw hd hq kk
theorem xpX1_3 (q : Nat) (C : xC Y X cc own ret N F Lc) {idx : Nat} {v : Int32} {ρ : Type} {r : ρ} {K : xM → Option ρ} (hw : Cond.fieldLink own idx "SpanningTreeProtocol$Frame" "made" "I" ∈ xw) (hd : decode cc pc = .ok (.putfield idx, 3)) (hq : pc + 3 = q) (hf : xpf M 27 0 v K = some r) (kk : ∀ M2 : xM, K M2 = some r → xG Y l X (wC Y ad fr) M2 q lv (st)) : xG Y l X (wC Y ad fr) M pc lv (.int v :: .ref (ad 27) :: st) := x_putI q C 27 (k := 3) (T := TX1) (M2 := xI M 27 0 v) tyX1 tyX1_ok nmX1 wC_at_27 rfl rfl inX1 (by decide) (Nat.le_of_ble_eq_true rfl) hw rfl (by decide +kernel) hd hq (kk _ hf)
theorem wC_at_28 : (wC Y ad fr M)[28]? = some (ad 28, .inl (Y.2.1, 64, .inl (M.1 28))) := rfl
theorem wC_set_28 (j : Nat) (v : Int32) : (wC Y ad fr M).set 28 (ad 28, .inl (Y.2.1, 64, .inl (upd (M.1 28) j v))) = wC Y ad fr (xI M 28 j v) := rfl
theorem xrC_28 (q : Nat) (C : xC Y X cc own ret N F Lc) {i : Int32} {ρ : Type} {r : ρ} {K : Int32 → Option ρ} (hd : decode cc pc = .ok (.iaload, 1)) (hq : pc + 1 = q) (hf : xrd 64 (M.1 28) i K = some r) (kk : ∀ x : Int32, K x = some r → xG Y l X (wC Y ad fr) M q lv (.int x :: st)) : xG Y l X (wC Y ad fr) M pc lv (.int i :: .ref (ad 28) :: st) := x_iald q C 28 wC_at_28 hd hq hf kk
theorem xwC_28 (q : Nat) (C : xC Y X cc own ret N F Lc) {i : Int32} {x : Int32} {ρ : Type} {r : ρ} {K : xM → Option ρ} (hd : decode cc pc = .ok (.iastore, 1)) (hq : pc + 1 = q) (hf : xwI 64 M 28 i x K = some r) (kk : ∀ M2 : xM, K M2 = some r → xG Y l X (wC Y ad fr) M2 q lv (st)) : xG Y l X (wC Y ad fr) M pc lv (.int x :: .int i :: .ref (ad 28) :: st) := x_iast q C 28 (k := 28) wC_at_28 wC_set_28 hd hq hf kk
theorem wC_at_29 : (wC Y ad fr M)[29]? = some (ad 29, .inl (Y.2.1, 64, .inl (M.1 29))) := rfl
theorem wC_set_29 (j : Nat) (v : Int32) : (wC Y ad fr M).set 29 (ad 29, .inl (Y.2.1, 64, .inl (upd (M.1 29) j v))) = wC Y ad fr (xI M 29 j v) := rfl
theorem xrC_29 (q : Nat) (C : xC Y X cc own ret N F Lc) {i : Int32} {ρ : Type} {r : ρ} {K : Int32 → Option ρ} (hd : decode cc pc = .ok (.iaload, 1)) (hq : pc + 1 = q) (hf : xrd 64 (M.1 29) i K = some r) (kk : ∀ x : Int32, K x = some r → xG Y l X (wC Y ad fr) M q lv (.int x :: st)) : xG Y l X (wC Y ad fr) M pc lv (.int i :: .ref (ad 29) :: st) := x_iald q C 29 wC_at_29 hd hq hf kk
theorem xwC_29 (q : Nat) (C : xC Y X cc own ret N F Lc) {i : Int32} {x : Int32} {ρ : Type} {r : ρ} {K : xM → Option ρ} (hd : decode cc pc = .ok (.iastore, 1)) (hq : pc + 1 = q) (hf : xwI 64 M 29 i x K = some r) (kk : ∀ M2 : xM, K M2 = some r → xG Y l X (wC Y ad fr) M2 q lv (st)) : xG Y l X (wC Y ad fr) M pc lv (.int x :: .int i :: .ref (ad 29) :: st) := x_iast q C 29 (k := 29) wC_at_29 wC_set_29 hd hq hf kk
theorem wC_at_30 : (wC Y ad fr M)[30]? = some (ad 30, .inr (4, [.ref (ad 0), .ref (ad 31)])) := rfl
theorem xgX5_0 (q : Nat) (C : xC Y X cc own ret N F Lc) {idx : Nat} (hw : Cond.fieldLink own idx "SpanningTreeProtocol$Topology" "net" "LSpanningTreeProtocol$Network;" ∈ xw) (hd : decode cc pc = .ok (.getfield idx, 3)) (hq : pc + 3 = q) (kk : xG Y l X (wC Y ad fr) M q lv (.ref (ad 0) :: st)) : xG Y l X (wC Y ad fr) M pc lv (.ref (ad 30) :: st) := x_get q C 30 (k := 0) (T := TX5) wC_at_30 rfl rfl inX5 (by decide) hw hd hq kk
theorem xgX5_1 (q : Nat) (C : xC Y X cc own ret N F Lc) {idx : Nat} (hw : Cond.fieldLink own idx "SpanningTreeProtocol$Topology" "label" "[I" ∈ xw) (hd : decode cc pc = .ok (.getfield idx, 3)) (hq : pc + 3 = q) (kk : xG Y l X (wC Y ad fr) M q lv (.ref (ad 31) :: st)) : xG Y l X (wC Y ad fr) M pc lv (.ref (ad 30) :: st) := x_get q C 30 (k := 1) (T := TX5) wC_at_30 rfl rfl inX5 (by decide) hw hd hq kk
theorem wC_at_31 : (wC Y ad fr M)[31]? = some (ad 31, .inl (Y.2.1, 18, .inl (M.1 31))) := rfl
theorem wC_set_31 (j : Nat) (v : Int32) : (wC Y ad fr M).set 31 (ad 31, .inl (Y.2.1, 18, .inl (upd (M.1 31) j v))) = wC Y ad fr (xI M 31 j v) := rfl
theorem xrC_31 (q : Nat) (C : xC Y X cc own ret N F Lc) {i : Int32} {ρ : Type} {r : ρ} {K : Int32 → Option ρ} (hd : decode cc pc = .ok (.iaload, 1)) (hq : pc + 1 = q) (hf : xrd 18 (M.1 31) i K = some r) (kk : ∀ x : Int32, K x = some r → xG Y l X (wC Y ad fr) M q lv (.int x :: st)) : xG Y l X (wC Y ad fr) M pc lv (.int i :: .ref (ad 31) :: st) := x_iald q C 31 wC_at_31 hd hq hf kk
theorem xwC_31 (q : Nat) (C : xC Y X cc own ret N F Lc) {i : Int32} {x : Int32} {ρ : Type} {r : ρ} {K : xM → Option ρ} (hd : decode cc pc = .ok (.iastore, 1)) (hq : pc + 1 = q) (hf : xwI 18 M 31 i x K = some r) (kk : ∀ M2 : xM, K M2 = some r → xG Y l X (wC Y ad fr) M2 q lv (st)) : xG Y l X (wC Y ad fr) M pc lv (.int x :: .int i :: .ref (ad 31) :: st) := x_iast q C 31 (k := 31) wC_at_31 wC_set_31 hd hq hf kk
theorem wC_at_32 : (wC Y ad fr M)[32]? = some (ad 32, .inr (5, [.ref (ad 0), .ref (ad 15), .ref (ad 22), .ref (ad 27), .ref (ad 30), .ref (ad 33)])) := rfl
theorem xgX6_0 (q : Nat) (C : xC Y X cc own ret N F Lc) {idx : Nat} (hw : Cond.fieldLink own idx "SpanningTreeProtocol" "network" "LSpanningTreeProtocol$Network;" ∈ xw) (hd : decode cc pc = .ok (.getfield idx, 3)) (hq : pc + 3 = q) (kk : xG Y l X (wC Y ad fr) M q lv (.ref (ad 0) :: st)) : xG Y l X (wC Y ad fr) M pc lv (.ref (ad 32) :: st) := x_get q C 32 (k := 0) (T := TX6) wC_at_32 rfl rfl inX6 (by decide) hw hd hq kk
theorem xgX6_1 (q : Nat) (C : xC Y X cc own ret N F Lc) {idx : Nat} (hw : Cond.fieldLink own idx "SpanningTreeProtocol" "election" "LSpanningTreeProtocol$Election;" ∈ xw) (hd : decode cc pc = .ok (.getfield idx, 3)) (hq : pc + 3 = q) (kk : xG Y l X (wC Y ad fr) M q lv (.ref (ad 15) :: st)) : xG Y l X (wC Y ad fr) M pc lv (.ref (ad 32) :: st) := x_get q C 32 (k := 1) (T := TX6) wC_at_32 rfl rfl inX6 (by decide) hw hd hq kk
theorem xgX6_2 (q : Nat) (C : xC Y X cc own ret N F Lc) {idx : Nat} (hw : Cond.fieldLink own idx "SpanningTreeProtocol" "ticker" "LSpanningTreeProtocol$Ticker;" ∈ xw) (hd : decode cc pc = .ok (.getfield idx, 3)) (hq : pc + 3 = q) (kk : xG Y l X (wC Y ad fr) M q lv (.ref (ad 22) :: st)) : xG Y l X (wC Y ad fr) M pc lv (.ref (ad 32) :: st) := x_get q C 32 (k := 2) (T := TX6) wC_at_32 rfl rfl inX6 (by decide) hw hd hq kk
theorem xgX6_3 (q : Nat) (C : xC Y X cc own ret N F Lc) {idx : Nat} (hw : Cond.fieldLink own idx "SpanningTreeProtocol" "frame" "LSpanningTreeProtocol$Frame;" ∈ xw) (hd : decode cc pc = .ok (.getfield idx, 3)) (hq : pc + 3 = q) (kk : xG Y l X (wC Y ad fr) M q lv (.ref (ad 27) :: st)) : xG Y l X (wC Y ad fr) M pc lv (.ref (ad 32) :: st) := x_get q C 32 (k := 3) (T := TX6) wC_at_32 rfl rfl inX6 (by decide) hw hd hq kk
theorem xgX6_4 (q : Nat) (C : xC Y X cc own ret N F Lc) {idx : Nat} (hw : Cond.fieldLink own idx "SpanningTreeProtocol" "topology" "LSpanningTreeProtocol$Topology;" ∈ xw) (hd : decode cc pc = .ok (.getfield idx, 3)) (hq : pc + 3 = q) (kk : xG Y l X (wC Y ad fr) M q lv (.ref (ad 30) :: st)) : xG Y l X (wC Y ad fr) M pc lv (.ref (ad 32) :: st) := x_get q C 32 (k := 4) (T := TX6) wC_at_32 rfl rfl inX6 (by decide) hw hd hq kk
theorem xgX6_5 (q : Nat) (C : xC Y X cc own ret N F Lc) {idx : Nat} (hw : Cond.fieldLink own idx "SpanningTreeProtocol" "saved" "[LSpanningTreeProtocol$Network;" ∈ xw) (hd : decode cc pc = .ok (.getfield idx, 3)) (hq : pc + 3 = q) (kk : xG Y l X (wC Y ad fr) M q lv (.ref (ad 33) :: st)) : xG Y l X (wC Y ad fr) M pc lv (.ref (ad 32) :: st) := x_get q C 32 (k := 5) (T := TX6) wC_at_32 rfl rfl inX6 (by decide) hw hd hq kk
end W_wC
def wR (Y : xY) (ad : Nat → Nat) (fr : va_W) (M : xM) : va_W := (ad 0, .inr (6, [.ref (ad 1), .ref (ad 2), .ref (ad 3), .ref (ad 4), .ref (ad 5), .ref (ad 6), .ref (ad 7), .ref (ad 8), .ref (ad 9), .ref (ad 10), .ref (ad 11), .ref (ad 12), .ref (ad 13), .ref (ad 14), .ref (ad 15), .int (M.1 0 0)])) ::
  (ad 1, .inl (Y.2.1, 431, .inl (M.1 1))) ::
  (ad 2, .inl (Y.2.1, 862, .inl (M.1 2))) ::
  (ad 3, .inl (Y.2.2.2.1, 2, .inl (M.1 3))) ::
  (ad 4, .inl (Y.2.2.2.1, 24, .inl (M.1 4))) ::
  (ad 5, .inl (Y.2.1, 8, .inl (M.1 5))) ::
  (ad 6, .inl (Y.2.1, 8, .inl (M.1 6))) ::
  (ad 7, .inl (Y.2.1, 8, .inl (M.1 7))) ::
  (ad 8, .inl (Y.2.1, 24, .inl (M.1 8))) ::
  (ad 9, .inl (Y.2.1, 24, .inl (M.1 9))) ::
  (ad 10, .inl (Y.2.1, 24, .inl (M.1 10))) ::
  (ad 11, .inl (Y.2.1, 24, .inl (M.1 11))) ::
  (ad 12, .inl (Y.2.1, 24, .inl (M.1 12))) ::
  (ad 13, .inl (Y.2.1, 18, .inl (M.1 13))) ::
  (ad 14, .inl (Y.2.1, 64, .inl (M.1 14))) ::
  (ad 15, .inl (Y.2.1, 64, .inl (M.1 15))) :: fr
section W_wR
variable {Y : xY} {l : Launch} {X : xE} {ad : Nat → Nat} {fr : va_W} {M : xM} {cc : ByteArray} {own : String} {ret : Option FieldType} {N F Lc : Nat} {pc : Nat} {lv : List (Nat × Value)} {st : List Value}
theorem wR_at_0 : (wR Y ad fr M)[0]? = some (ad 0, .inr (6, [.ref (ad 1), .ref (ad 2), .ref (ad 3), .ref (ad 4), .ref (ad 5), .ref (ad 6), .ref (ad 7), .ref (ad 8), .ref (ad 9), .ref (ad 10), .ref (ad 11), .ref (ad 12), .ref (ad 13), .ref (ad 14), .ref (ad 15), .int (M.1 0 0)])) := rfl
theorem xgX7_0 (q : Nat) (C : xC Y X cc own ret N F Lc) {idx : Nat} (hw : Cond.fieldLink own idx "SpanningTreeProtocolModel" "at" "[I" ∈ xw) (hd : decode cc pc = .ok (.getfield idx, 3)) (hq : pc + 3 = q) (kk : xG Y l X (wR Y ad fr) M q lv (.ref (ad 1) :: st)) : xG Y l X (wR Y ad fr) M pc lv (.ref (ad 0) :: st) := x_get q C 0 (k := 0) (T := TX7) wR_at_0 rfl rfl inX7 (by decide) hw hd hq kk
theorem xgX7_1 (q : Nat) (C : xC Y X cc own ret N F Lc) {idx : Nat} (hw : Cond.fieldLink own idx "SpanningTreeProtocolModel" "slots" "[I" ∈ xw) (hd : decode cc pc = .ok (.getfield idx, 3)) (hq : pc + 3 = q) (kk : xG Y l X (wR Y ad fr) M q lv (.ref (ad 2) :: st)) : xG Y l X (wR Y ad fr) M pc lv (.ref (ad 0) :: st) := x_get q C 0 (k := 1) (T := TX7) wR_at_0 rfl rfl inX7 (by decide) hw hd hq kk
theorem xgX7_2 (q : Nat) (C : xC Y X cc own ret N F Lc) {idx : Nat} (hw : Cond.fieldLink own idx "SpanningTreeProtocolModel" "isSaved" "[Z" ∈ xw) (hd : decode cc pc = .ok (.getfield idx, 3)) (hq : pc + 3 = q) (kk : xG Y l X (wR Y ad fr) M q lv (.ref (ad 3) :: st)) : xG Y l X (wR Y ad fr) M pc lv (.ref (ad 0) :: st) := x_get q C 0 (k := 2) (T := TX7) wR_at_0 rfl rfl inX7 (by decide) hw hd hq kk
theorem xgX7_3 (q : Nat) (C : xC Y X cc own ret N F Lc) {idx : Nat} (hw : Cond.fieldLink own idx "SpanningTreeProtocolModel" "wasActive" "[Z" ∈ xw) (hd : decode cc pc = .ok (.getfield idx, 3)) (hq : pc + 3 = q) (kk : xG Y l X (wR Y ad fr) M q lv (.ref (ad 4) :: st)) : xG Y l X (wR Y ad fr) M pc lv (.ref (ad 0) :: st) := x_get q C 0 (k := 3) (T := TX7) wR_at_0 rfl rfl inX7 (by decide) hw hd hq kk
theorem xgX7_4 (q : Nat) (C : xC Y X cc own ret N F Lc) {idx : Nat} (hw : Cond.fieldLink own idx "SpanningTreeProtocolModel" "rootPorts" "[I" ∈ xw) (hd : decode cc pc = .ok (.getfield idx, 3)) (hq : pc + 3 = q) (kk : xG Y l X (wR Y ad fr) M q lv (.ref (ad 5) :: st)) : xG Y l X (wR Y ad fr) M pc lv (.ref (ad 0) :: st) := x_get q C 0 (k := 4) (T := TX7) wR_at_0 rfl rfl inX7 (by decide) hw hd hq kk
theorem xgX7_5 (q : Nat) (C : xC Y X cc own ret N F Lc) {idx : Nat} (hw : Cond.fieldLink own idx "SpanningTreeProtocolModel" "roots" "[I" ∈ xw) (hd : decode cc pc = .ok (.getfield idx, 3)) (hq : pc + 3 = q) (kk : xG Y l X (wR Y ad fr) M q lv (.ref (ad 6) :: st)) : xG Y l X (wR Y ad fr) M pc lv (.ref (ad 0) :: st) := x_get q C 0 (k := 5) (T := TX7) wR_at_0 rfl rfl inX7 (by decide) hw hd hq kk
theorem xgX7_6 (q : Nat) (C : xC Y X cc own ret N F Lc) {idx : Nat} (hw : Cond.fieldLink own idx "SpanningTreeProtocolModel" "rootCosts" "[I" ∈ xw) (hd : decode cc pc = .ok (.getfield idx, 3)) (hq : pc + 3 = q) (kk : xG Y l X (wR Y ad fr) M q lv (.ref (ad 7) :: st)) : xG Y l X (wR Y ad fr) M pc lv (.ref (ad 0) :: st) := x_get q C 0 (k := 6) (T := TX7) wR_at_0 rfl rfl inX7 (by decide) hw hd hq kk
theorem xgX7_7 (q : Nat) (C : xC Y X cc own ret N F Lc) {idx : Nat} (hw : Cond.fieldLink own idx "SpanningTreeProtocolModel" "roles" "[I" ∈ xw) (hd : decode cc pc = .ok (.getfield idx, 3)) (hq : pc + 3 = q) (kk : xG Y l X (wR Y ad fr) M q lv (.ref (ad 8) :: st)) : xG Y l X (wR Y ad fr) M pc lv (.ref (ad 0) :: st) := x_get q C 0 (k := 7) (T := TX7) wR_at_0 rfl rfl inX7 (by decide) hw hd hq kk
theorem xgX7_8 (q : Nat) (C : xC Y X cc own ret N F Lc) {idx : Nat} (hw : Cond.fieldLink own idx "SpanningTreeProtocolModel" "ages" "[I" ∈ xw) (hd : decode cc pc = .ok (.getfield idx, 3)) (hq : pc + 3 = q) (kk : xG Y l X (wR Y ad fr) M q lv (.ref (ad 9) :: st)) : xG Y l X (wR Y ad fr) M pc lv (.ref (ad 0) :: st) := x_get q C 0 (k := 8) (T := TX7) wR_at_0 rfl rfl inX7 (by decide) hw hd hq kk
theorem xgX7_9 (q : Nat) (C : xC Y X cc own ret N F Lc) {idx : Nat} (hw : Cond.fieldLink own idx "SpanningTreeProtocolModel" "sentRoot" "[I" ∈ xw) (hd : decode cc pc = .ok (.getfield idx, 3)) (hq : pc + 3 = q) (kk : xG Y l X (wR Y ad fr) M q lv (.ref (ad 10) :: st)) : xG Y l X (wR Y ad fr) M pc lv (.ref (ad 0) :: st) := x_get q C 0 (k := 9) (T := TX7) wR_at_0 rfl rfl inX7 (by decide) hw hd hq kk
theorem xgX7_10 (q : Nat) (C : xC Y X cc own ret N F Lc) {idx : Nat} (hw : Cond.fieldLink own idx "SpanningTreeProtocolModel" "sentCost" "[I" ∈ xw) (hd : decode cc pc = .ok (.getfield idx, 3)) (hq : pc + 3 = q) (kk : xG Y l X (wR Y ad fr) M q lv (.ref (ad 11) :: st)) : xG Y l X (wR Y ad fr) M pc lv (.ref (ad 0) :: st) := x_get q C 0 (k := 10) (T := TX7) wR_at_0 rfl rfl inX7 (by decide) hw hd hq kk
theorem xgX7_11 (q : Nat) (C : xC Y X cc own ret N F Lc) {idx : Nat} (hw : Cond.fieldLink own idx "SpanningTreeProtocolModel" "rolesBefore" "[I" ∈ xw) (hd : decode cc pc = .ok (.getfield idx, 3)) (hq : pc + 3 = q) (kk : xG Y l X (wR Y ad fr) M q lv (.ref (ad 12) :: st)) : xG Y l X (wR Y ad fr) M pc lv (.ref (ad 0) :: st) := x_get q C 0 (k := 11) (T := TX7) wR_at_0 rfl rfl inX7 (by decide) hw hd hq kk
theorem xgX7_12 (q : Nat) (C : xC Y X cc own ret N F Lc) {idx : Nat} (hw : Cond.fieldLink own idx "SpanningTreeProtocolModel" "part" "[I" ∈ xw) (hd : decode cc pc = .ok (.getfield idx, 3)) (hq : pc + 3 = q) (kk : xG Y l X (wR Y ad fr) M q lv (.ref (ad 13) :: st)) : xG Y l X (wR Y ad fr) M pc lv (.ref (ad 0) :: st) := x_get q C 0 (k := 12) (T := TX7) wR_at_0 rfl rfl inX7 (by decide) hw hd hq kk
theorem xgX7_13 (q : Nat) (C : xC Y X cc own ret N F Lc) {idx : Nat} (hw : Cond.fieldLink own idx "SpanningTreeProtocolModel" "onSegment" "[I" ∈ xw) (hd : decode cc pc = .ok (.getfield idx, 3)) (hq : pc + 3 = q) (kk : xG Y l X (wR Y ad fr) M q lv (.ref (ad 14) :: st)) : xG Y l X (wR Y ad fr) M pc lv (.ref (ad 0) :: st) := x_get q C 0 (k := 13) (T := TX7) wR_at_0 rfl rfl inX7 (by decide) hw hd hq kk
theorem xgX7_14 (q : Nat) (C : xC Y X cc own ret N F Lc) {idx : Nat} (hw : Cond.fieldLink own idx "SpanningTreeProtocolModel" "byPort" "[I" ∈ xw) (hd : decode cc pc = .ok (.getfield idx, 3)) (hq : pc + 3 = q) (kk : xG Y l X (wR Y ad fr) M q lv (.ref (ad 15) :: st)) : xG Y l X (wR Y ad fr) M pc lv (.ref (ad 0) :: st) := x_get q C 0 (k := 14) (T := TX7) wR_at_0 rfl rfl inX7 (by decide) hw hd hq kk
theorem xgX7_15 (q : Nat) (C : xC Y X cc own ret N F Lc) {idx : Nat} (hw : Cond.fieldLink own idx "SpanningTreeProtocolModel" "made" "I" ∈ xw) (hd : decode cc pc = .ok (.getfield idx, 3)) (hq : pc + 3 = q) (kk : xG Y l X (wR Y ad fr) M q lv (.int (M.1 0 0) :: st)) : xG Y l X (wR Y ad fr) M pc lv (.ref (ad 0) :: st) := x_get q C 0 (k := 15) (T := TX7) wR_at_0 rfl rfl inX7 (by decide) hw hd hq kk
theorem xpX7_15 (q : Nat) (C : xC Y X cc own ret N F Lc) {idx : Nat} {v : Int32} {ρ : Type} {r : ρ} {K : xM → Option ρ} (hw : Cond.fieldLink own idx "SpanningTreeProtocolModel" "made" "I" ∈ xw) (hd : decode cc pc = .ok (.putfield idx, 3)) (hq : pc + 3 = q) (hf : xpf M 0 0 v K = some r) (kk : ∀ M2 : xM, K M2 = some r → xG Y l X (wR Y ad fr) M2 q lv (st)) : xG Y l X (wR Y ad fr) M pc lv (.int v :: .ref (ad 0) :: st) := x_putI q C 0 (k := 15) (T := TX7) (M2 := xI M 0 0 v) tyX7 tyX7_ok nmX7 wR_at_0 rfl rfl inX7 (by decide) (Nat.le_of_ble_eq_true rfl) hw rfl (by decide +kernel) hd hq (kk _ hf)
theorem wR_at_1 : (wR Y ad fr M)[1]? = some (ad 1, .inl (Y.2.1, 431, .inl (M.1 1))) := rfl
theorem wR_set_1 (j : Nat) (v : Int32) : (wR Y ad fr M).set 1 (ad 1, .inl (Y.2.1, 431, .inl (upd (M.1 1) j v))) = wR Y ad fr (xI M 1 j v) := rfl
theorem xrR_1 (q : Nat) (C : xC Y X cc own ret N F Lc) {i : Int32} {ρ : Type} {r : ρ} {K : Int32 → Option ρ} (hd : decode cc pc = .ok (.iaload, 1)) (hq : pc + 1 = q) (hf : xrd 431 (M.1 1) i K = some r) (kk : ∀ x : Int32, K x = some r → xG Y l X (wR Y ad fr) M q lv (.int x :: st)) : xG Y l X (wR Y ad fr) M pc lv (.int i :: .ref (ad 1) :: st) := x_iald q C 1 wR_at_1 hd hq hf kk
theorem xwR_1 (q : Nat) (C : xC Y X cc own ret N F Lc) {i : Int32} {x : Int32} {ρ : Type} {r : ρ} {K : xM → Option ρ} (hd : decode cc pc = .ok (.iastore, 1)) (hq : pc + 1 = q) (hf : xwI 431 M 1 i x K = some r) (kk : ∀ M2 : xM, K M2 = some r → xG Y l X (wR Y ad fr) M2 q lv (st)) : xG Y l X (wR Y ad fr) M pc lv (.int x :: .int i :: .ref (ad 1) :: st) := x_iast q C 1 (k := 1) wR_at_1 wR_set_1 hd hq hf kk
theorem wR_at_2 : (wR Y ad fr M)[2]? = some (ad 2, .inl (Y.2.1, 862, .inl (M.1 2))) := rfl
theorem wR_set_2 (j : Nat) (v : Int32) : (wR Y ad fr M).set 2 (ad 2, .inl (Y.2.1, 862, .inl (upd (M.1 2) j v))) = wR Y ad fr (xI M 2 j v) := rfl
theorem xrR_2 (q : Nat) (C : xC Y X cc own ret N F Lc) {i : Int32} {ρ : Type} {r : ρ} {K : Int32 → Option ρ} (hd : decode cc pc = .ok (.iaload, 1)) (hq : pc + 1 = q) (hf : xrd 862 (M.1 2) i K = some r) (kk : ∀ x : Int32, K x = some r → xG Y l X (wR Y ad fr) M q lv (.int x :: st)) : xG Y l X (wR Y ad fr) M pc lv (.int i :: .ref (ad 2) :: st) := x_iald q C 2 wR_at_2 hd hq hf kk
theorem xwR_2 (q : Nat) (C : xC Y X cc own ret N F Lc) {i : Int32} {x : Int32} {ρ : Type} {r : ρ} {K : xM → Option ρ} (hd : decode cc pc = .ok (.iastore, 1)) (hq : pc + 1 = q) (hf : xwI 862 M 2 i x K = some r) (kk : ∀ M2 : xM, K M2 = some r → xG Y l X (wR Y ad fr) M2 q lv (st)) : xG Y l X (wR Y ad fr) M pc lv (.int x :: .int i :: .ref (ad 2) :: st) := x_iast q C 2 (k := 2) wR_at_2 wR_set_2 hd hq hf kk
theorem wR_at_3 : (wR Y ad fr M)[3]? = some (ad 3, .inl (Y.2.2.2.1, 2, .inl (M.1 3))) := rfl
theorem wR_set_3 (j : Nat) (v : Int32) : (wR Y ad fr M).set 3 (ad 3, .inl (Y.2.2.2.1, 2, .inl (upd (M.1 3) j v))) = wR Y ad fr (xI M 3 j v) := rfl
theorem xrR_3 (q : Nat) (C : xC Y X cc own ret N F Lc) {i : Int32} {ρ : Type} {r : ρ} {K : Int32 → Option ρ} (hd : decode cc pc = .ok (.baload, 1)) (hq : pc + 1 = q) (hf : xrd 2 (M.1 3) i K = some r) (kk : ∀ x : Int32, K x = some r → xG Y l X (wR Y ad fr) M q lv (.int x :: st)) : xG Y l X (wR Y ad fr) M pc lv (.int i :: .ref (ad 3) :: st) := x_zald q C 3 wR_at_3 hd hq hf kk
theorem xwR_3 (q : Nat) (C : xC Y X cc own ret N F Lc) {i : Int32} {x : Int32} {ρ : Type} {r : ρ} {K : xM → Option ρ} (hd : decode cc pc = .ok (.bastore, 1)) (hq : pc + 1 = q) (hf : xwI 2 M 3 i (vp_nar .boolean x) K = some r) (kk : ∀ M2 : xM, K M2 = some r → xG Y l X (wR Y ad fr) M2 q lv (st)) : xG Y l X (wR Y ad fr) M pc lv (.int x :: .int i :: .ref (ad 3) :: st) := x_zast q C 3 (k := 3) wR_at_3 wR_set_3 hd hq hf kk
theorem wR_at_4 : (wR Y ad fr M)[4]? = some (ad 4, .inl (Y.2.2.2.1, 24, .inl (M.1 4))) := rfl
theorem wR_set_4 (j : Nat) (v : Int32) : (wR Y ad fr M).set 4 (ad 4, .inl (Y.2.2.2.1, 24, .inl (upd (M.1 4) j v))) = wR Y ad fr (xI M 4 j v) := rfl
theorem xrR_4 (q : Nat) (C : xC Y X cc own ret N F Lc) {i : Int32} {ρ : Type} {r : ρ} {K : Int32 → Option ρ} (hd : decode cc pc = .ok (.baload, 1)) (hq : pc + 1 = q) (hf : xrd 24 (M.1 4) i K = some r) (kk : ∀ x : Int32, K x = some r → xG Y l X (wR Y ad fr) M q lv (.int x :: st)) : xG Y l X (wR Y ad fr) M pc lv (.int i :: .ref (ad 4) :: st) := x_zald q C 4 wR_at_4 hd hq hf kk
theorem xwR_4 (q : Nat) (C : xC Y X cc own ret N F Lc) {i : Int32} {x : Int32} {ρ : Type} {r : ρ} {K : xM → Option ρ} (hd : decode cc pc = .ok (.bastore, 1)) (hq : pc + 1 = q) (hf : xwI 24 M 4 i (vp_nar .boolean x) K = some r) (kk : ∀ M2 : xM, K M2 = some r → xG Y l X (wR Y ad fr) M2 q lv (st)) : xG Y l X (wR Y ad fr) M pc lv (.int x :: .int i :: .ref (ad 4) :: st) := x_zast q C 4 (k := 4) wR_at_4 wR_set_4 hd hq hf kk
theorem wR_at_5 : (wR Y ad fr M)[5]? = some (ad 5, .inl (Y.2.1, 8, .inl (M.1 5))) := rfl
theorem wR_set_5 (j : Nat) (v : Int32) : (wR Y ad fr M).set 5 (ad 5, .inl (Y.2.1, 8, .inl (upd (M.1 5) j v))) = wR Y ad fr (xI M 5 j v) := rfl
theorem xrR_5 (q : Nat) (C : xC Y X cc own ret N F Lc) {i : Int32} {ρ : Type} {r : ρ} {K : Int32 → Option ρ} (hd : decode cc pc = .ok (.iaload, 1)) (hq : pc + 1 = q) (hf : xrd 8 (M.1 5) i K = some r) (kk : ∀ x : Int32, K x = some r → xG Y l X (wR Y ad fr) M q lv (.int x :: st)) : xG Y l X (wR Y ad fr) M pc lv (.int i :: .ref (ad 5) :: st) := x_iald q C 5 wR_at_5 hd hq hf kk
theorem xwR_5 (q : Nat) (C : xC Y X cc own ret N F Lc) {i : Int32} {x : Int32} {ρ : Type} {r : ρ} {K : xM → Option ρ} (hd : decode cc pc = .ok (.iastore, 1)) (hq : pc + 1 = q) (hf : xwI 8 M 5 i x K = some r) (kk : ∀ M2 : xM, K M2 = some r → xG Y l X (wR Y ad fr) M2 q lv (st)) : xG Y l X (wR Y ad fr) M pc lv (.int x :: .int i :: .ref (ad 5) :: st) := x_iast q C 5 (k := 5) wR_at_5 wR_set_5 hd hq hf kk
theorem wR_at_6 : (wR Y ad fr M)[6]? = some (ad 6, .inl (Y.2.1, 8, .inl (M.1 6))) := rfl
theorem wR_set_6 (j : Nat) (v : Int32) : (wR Y ad fr M).set 6 (ad 6, .inl (Y.2.1, 8, .inl (upd (M.1 6) j v))) = wR Y ad fr (xI M 6 j v) := rfl
theorem xrR_6 (q : Nat) (C : xC Y X cc own ret N F Lc) {i : Int32} {ρ : Type} {r : ρ} {K : Int32 → Option ρ} (hd : decode cc pc = .ok (.iaload, 1)) (hq : pc + 1 = q) (hf : xrd 8 (M.1 6) i K = some r) (kk : ∀ x : Int32, K x = some r → xG Y l X (wR Y ad fr) M q lv (.int x :: st)) : xG Y l X (wR Y ad fr) M pc lv (.int i :: .ref (ad 6) :: st) := x_iald q C 6 wR_at_6 hd hq hf kk
theorem xwR_6 (q : Nat) (C : xC Y X cc own ret N F Lc) {i : Int32} {x : Int32} {ρ : Type} {r : ρ} {K : xM → Option ρ} (hd : decode cc pc = .ok (.iastore, 1)) (hq : pc + 1 = q) (hf : xwI 8 M 6 i x K = some r) (kk : ∀ M2 : xM, K M2 = some r → xG Y l X (wR Y ad fr) M2 q lv (st)) : xG Y l X (wR Y ad fr) M pc lv (.int x :: .int i :: .ref (ad 6) :: st) := x_iast q C 6 (k := 6) wR_at_6 wR_set_6 hd hq hf kk
theorem wR_at_7 : (wR Y ad fr M)[7]? = some (ad 7, .inl (Y.2.1, 8, .inl (M.1 7))) := rfl
theorem wR_set_7 (j : Nat) (v : Int32) : (wR Y ad fr M).set 7 (ad 7, .inl (Y.2.1, 8, .inl (upd (M.1 7) j v))) = wR Y ad fr (xI M 7 j v) := rfl
theorem xrR_7 (q : Nat) (C : xC Y X cc own ret N F Lc) {i : Int32} {ρ : Type} {r : ρ} {K : Int32 → Option ρ} (hd : decode cc pc = .ok (.iaload, 1)) (hq : pc + 1 = q) (hf : xrd 8 (M.1 7) i K = some r) (kk : ∀ x : Int32, K x = some r → xG Y l X (wR Y ad fr) M q lv (.int x :: st)) : xG Y l X (wR Y ad fr) M pc lv (.int i :: .ref (ad 7) :: st) := x_iald q C 7 wR_at_7 hd hq hf kk
theorem xwR_7 (q : Nat) (C : xC Y X cc own ret N F Lc) {i : Int32} {x : Int32} {ρ : Type} {r : ρ} {K : xM → Option ρ} (hd : decode cc pc = .ok (.iastore, 1)) (hq : pc + 1 = q) (hf : xwI 8 M 7 i x K = some r) (kk : ∀ M2 : xM, K M2 = some r → xG Y l X (wR Y ad fr) M2 q lv (st)) : xG Y l X (wR Y ad fr) M pc lv (.int x :: .int i :: .ref (ad 7) :: st) := x_iast q C 7 (k := 7) wR_at_7 wR_set_7 hd hq hf kk
theorem wR_at_8 : (wR Y ad fr M)[8]? = some (ad 8, .inl (Y.2.1, 24, .inl (M.1 8))) := rfl
theorem wR_set_8 (j : Nat) (v : Int32) : (wR Y ad fr M).set 8 (ad 8, .inl (Y.2.1, 24, .inl (upd (M.1 8) j v))) = wR Y ad fr (xI M 8 j v) := rfl
theorem xrR_8 (q : Nat) (C : xC Y X cc own ret N F Lc) {i : Int32} {ρ : Type} {r : ρ} {K : Int32 → Option ρ} (hd : decode cc pc = .ok (.iaload, 1)) (hq : pc + 1 = q) (hf : xrd 24 (M.1 8) i K = some r) (kk : ∀ x : Int32, K x = some r → xG Y l X (wR Y ad fr) M q lv (.int x :: st)) : xG Y l X (wR Y ad fr) M pc lv (.int i :: .ref (ad 8) :: st) := x_iald q C 8 wR_at_8 hd hq hf kk
theorem xwR_8 (q : Nat) (C : xC Y X cc own ret N F Lc) {i : Int32} {x : Int32} {ρ : Type} {r : ρ} {K : xM → Option ρ} (hd : decode cc pc = .ok (.iastore, 1)) (hq : pc + 1 = q) (hf : xwI 24 M 8 i x K = some r) (kk : ∀ M2 : xM, K M2 = some r → xG Y l X (wR Y ad fr) M2 q lv (st)) : xG Y l X (wR Y ad fr) M pc lv (.int x :: .int i :: .ref (ad 8) :: st) := x_iast q C 8 (k := 8) wR_at_8 wR_set_8 hd hq hf kk
theorem wR_at_9 : (wR Y ad fr M)[9]? = some (ad 9, .inl (Y.2.1, 24, .inl (M.1 9))) := rfl
theorem wR_set_9 (j : Nat) (v : Int32) : (wR Y ad fr M).set 9 (ad 9, .inl (Y.2.1, 24, .inl (upd (M.1 9) j v))) = wR Y ad fr (xI M 9 j v) := rfl
theorem xrR_9 (q : Nat) (C : xC Y X cc own ret N F Lc) {i : Int32} {ρ : Type} {r : ρ} {K : Int32 → Option ρ} (hd : decode cc pc = .ok (.iaload, 1)) (hq : pc + 1 = q) (hf : xrd 24 (M.1 9) i K = some r) (kk : ∀ x : Int32, K x = some r → xG Y l X (wR Y ad fr) M q lv (.int x :: st)) : xG Y l X (wR Y ad fr) M pc lv (.int i :: .ref (ad 9) :: st) := x_iald q C 9 wR_at_9 hd hq hf kk
theorem xwR_9 (q : Nat) (C : xC Y X cc own ret N F Lc) {i : Int32} {x : Int32} {ρ : Type} {r : ρ} {K : xM → Option ρ} (hd : decode cc pc = .ok (.iastore, 1)) (hq : pc + 1 = q) (hf : xwI 24 M 9 i x K = some r) (kk : ∀ M2 : xM, K M2 = some r → xG Y l X (wR Y ad fr) M2 q lv (st)) : xG Y l X (wR Y ad fr) M pc lv (.int x :: .int i :: .ref (ad 9) :: st) := x_iast q C 9 (k := 9) wR_at_9 wR_set_9 hd hq hf kk
theorem wR_at_10 : (wR Y ad fr M)[10]? = some (ad 10, .inl (Y.2.1, 24, .inl (M.1 10))) := rfl
theorem wR_set_10 (j : Nat) (v : Int32) : (wR Y ad fr M).set 10 (ad 10, .inl (Y.2.1, 24, .inl (upd (M.1 10) j v))) = wR Y ad fr (xI M 10 j v) := rfl
theorem xrR_10 (q : Nat) (C : xC Y X cc own ret N F Lc) {i : Int32} {ρ : Type} {r : ρ} {K : Int32 → Option ρ} (hd : decode cc pc = .ok (.iaload, 1)) (hq : pc + 1 = q) (hf : xrd 24 (M.1 10) i K = some r) (kk : ∀ x : Int32, K x = some r → xG Y l X (wR Y ad fr) M q lv (.int x :: st)) : xG Y l X (wR Y ad fr) M pc lv (.int i :: .ref (ad 10) :: st) := x_iald q C 10 wR_at_10 hd hq hf kk
theorem xwR_10 (q : Nat) (C : xC Y X cc own ret N F Lc) {i : Int32} {x : Int32} {ρ : Type} {r : ρ} {K : xM → Option ρ} (hd : decode cc pc = .ok (.iastore, 1)) (hq : pc + 1 = q) (hf : xwI 24 M 10 i x K = some r) (kk : ∀ M2 : xM, K M2 = some r → xG Y l X (wR Y ad fr) M2 q lv (st)) : xG Y l X (wR Y ad fr) M pc lv (.int x :: .int i :: .ref (ad 10) :: st) := x_iast q C 10 (k := 10) wR_at_10 wR_set_10 hd hq hf kk
theorem wR_at_11 : (wR Y ad fr M)[11]? = some (ad 11, .inl (Y.2.1, 24, .inl (M.1 11))) := rfl
theorem wR_set_11 (j : Nat) (v : Int32) : (wR Y ad fr M).set 11 (ad 11, .inl (Y.2.1, 24, .inl (upd (M.1 11) j v))) = wR Y ad fr (xI M 11 j v) := rfl
theorem xrR_11 (q : Nat) (C : xC Y X cc own ret N F Lc) {i : Int32} {ρ : Type} {r : ρ} {K : Int32 → Option ρ} (hd : decode cc pc = .ok (.iaload, 1)) (hq : pc + 1 = q) (hf : xrd 24 (M.1 11) i K = some r) (kk : ∀ x : Int32, K x = some r → xG Y l X (wR Y ad fr) M q lv (.int x :: st)) : xG Y l X (wR Y ad fr) M pc lv (.int i :: .ref (ad 11) :: st) := x_iald q C 11 wR_at_11 hd hq hf kk
theorem xwR_11 (q : Nat) (C : xC Y X cc own ret N F Lc) {i : Int32} {x : Int32} {ρ : Type} {r : ρ} {K : xM → Option ρ} (hd : decode cc pc = .ok (.iastore, 1)) (hq : pc + 1 = q) (hf : xwI 24 M 11 i x K = some r) (kk : ∀ M2 : xM, K M2 = some r → xG Y l X (wR Y ad fr) M2 q lv (st)) : xG Y l X (wR Y ad fr) M pc lv (.int x :: .int i :: .ref (ad 11) :: st) := x_iast q C 11 (k := 11) wR_at_11 wR_set_11 hd hq hf kk
theorem wR_at_12 : (wR Y ad fr M)[12]? = some (ad 12, .inl (Y.2.1, 24, .inl (M.1 12))) := rfl
theorem wR_set_12 (j : Nat) (v : Int32) : (wR Y ad fr M).set 12 (ad 12, .inl (Y.2.1, 24, .inl (upd (M.1 12) j v))) = wR Y ad fr (xI M 12 j v) := rfl
theorem xrR_12 (q : Nat) (C : xC Y X cc own ret N F Lc) {i : Int32} {ρ : Type} {r : ρ} {K : Int32 → Option ρ} (hd : decode cc pc = .ok (.iaload, 1)) (hq : pc + 1 = q) (hf : xrd 24 (M.1 12) i K = some r) (kk : ∀ x : Int32, K x = some r → xG Y l X (wR Y ad fr) M q lv (.int x :: st)) : xG Y l X (wR Y ad fr) M pc lv (.int i :: .ref (ad 12) :: st) := x_iald q C 12 wR_at_12 hd hq hf kk
theorem xwR_12 (q : Nat) (C : xC Y X cc own ret N F Lc) {i : Int32} {x : Int32} {ρ : Type} {r : ρ} {K : xM → Option ρ} (hd : decode cc pc = .ok (.iastore, 1)) (hq : pc + 1 = q) (hf : xwI 24 M 12 i x K = some r) (kk : ∀ M2 : xM, K M2 = some r → xG Y l X (wR Y ad fr) M2 q lv (st)) : xG Y l X (wR Y ad fr) M pc lv (.int x :: .int i :: .ref (ad 12) :: st) := x_iast q C 12 (k := 12) wR_at_12 wR_set_12 hd hq hf kk
theorem wR_at_13 : (wR Y ad fr M)[13]? = some (ad 13, .inl (Y.2.1, 18, .inl (M.1 13))) := rfl
theorem wR_set_13 (j : Nat) (v : Int32) : (wR Y ad fr M).set 13 (ad 13, .inl (Y.2.1, 18, .inl (upd (M.1 13) j v))) = wR Y ad fr (xI M 13 j v) := rfl
theorem xrR_13 (q : Nat) (C : xC Y X cc own ret N F Lc) {i : Int32} {ρ : Type} {r : ρ} {K : Int32 → Option ρ} (hd : decode cc pc = .ok (.iaload, 1)) (hq : pc + 1 = q) (hf : xrd 18 (M.1 13) i K = some r) (kk : ∀ x : Int32, K x = some r → xG Y l X (wR Y ad fr) M q lv (.int x :: st)) : xG Y l X (wR Y ad fr) M pc lv (.int i :: .ref (ad 13) :: st) := x_iald q C 13 wR_at_13 hd hq hf kk
theorem xwR_13 (q : Nat) (C : xC Y X cc own ret N F Lc) {i : Int32} {x : Int32} {ρ : Type} {r : ρ} {K : xM → Option ρ} (hd : decode cc pc = .ok (.iastore, 1)) (hq : pc + 1 = q) (hf : xwI 18 M 13 i x K = some r) (kk : ∀ M2 : xM, K M2 = some r → xG Y l X (wR Y ad fr) M2 q lv (st)) : xG Y l X (wR Y ad fr) M pc lv (.int x :: .int i :: .ref (ad 13) :: st) := x_iast q C 13 (k := 13) wR_at_13 wR_set_13 hd hq hf kk
theorem wR_at_14 : (wR Y ad fr M)[14]? = some (ad 14, .inl (Y.2.1, 64, .inl (M.1 14))) := rfl
theorem wR_set_14 (j : Nat) (v : Int32) : (wR Y ad fr M).set 14 (ad 14, .inl (Y.2.1, 64, .inl (upd (M.1 14) j v))) = wR Y ad fr (xI M 14 j v) := rfl
theorem xrR_14 (q : Nat) (C : xC Y X cc own ret N F Lc) {i : Int32} {ρ : Type} {r : ρ} {K : Int32 → Option ρ} (hd : decode cc pc = .ok (.iaload, 1)) (hq : pc + 1 = q) (hf : xrd 64 (M.1 14) i K = some r) (kk : ∀ x : Int32, K x = some r → xG Y l X (wR Y ad fr) M q lv (.int x :: st)) : xG Y l X (wR Y ad fr) M pc lv (.int i :: .ref (ad 14) :: st) := x_iald q C 14 wR_at_14 hd hq hf kk
theorem xwR_14 (q : Nat) (C : xC Y X cc own ret N F Lc) {i : Int32} {x : Int32} {ρ : Type} {r : ρ} {K : xM → Option ρ} (hd : decode cc pc = .ok (.iastore, 1)) (hq : pc + 1 = q) (hf : xwI 64 M 14 i x K = some r) (kk : ∀ M2 : xM, K M2 = some r → xG Y l X (wR Y ad fr) M2 q lv (st)) : xG Y l X (wR Y ad fr) M pc lv (.int x :: .int i :: .ref (ad 14) :: st) := x_iast q C 14 (k := 14) wR_at_14 wR_set_14 hd hq hf kk
theorem wR_at_15 : (wR Y ad fr M)[15]? = some (ad 15, .inl (Y.2.1, 64, .inl (M.1 15))) := rfl
theorem wR_set_15 (j : Nat) (v : Int32) : (wR Y ad fr M).set 15 (ad 15, .inl (Y.2.1, 64, .inl (upd (M.1 15) j v))) = wR Y ad fr (xI M 15 j v) := rfl
theorem xrR_15 (q : Nat) (C : xC Y X cc own ret N F Lc) {i : Int32} {ρ : Type} {r : ρ} {K : Int32 → Option ρ} (hd : decode cc pc = .ok (.iaload, 1)) (hq : pc + 1 = q) (hf : xrd 64 (M.1 15) i K = some r) (kk : ∀ x : Int32, K x = some r → xG Y l X (wR Y ad fr) M q lv (.int x :: st)) : xG Y l X (wR Y ad fr) M pc lv (.int i :: .ref (ad 15) :: st) := x_iald q C 15 wR_at_15 hd hq hf kk
theorem xwR_15 (q : Nat) (C : xC Y X cc own ret N F Lc) {i : Int32} {x : Int32} {ρ : Type} {r : ρ} {K : xM → Option ρ} (hd : decode cc pc = .ok (.iastore, 1)) (hq : pc + 1 = q) (hf : xwI 64 M 15 i x K = some r) (kk : ∀ M2 : xM, K M2 = some r → xG Y l X (wR Y ad fr) M2 q lv (st)) : xG Y l X (wR Y ad fr) M pc lv (.int x :: .int i :: .ref (ad 15) :: st) := x_iast q C 15 (k := 15) wR_at_15 wR_set_15 hd hq hf kk
end W_wR
theorem kb_m9 : (Int8.ofInt (-9)).toInt32 = (-9) := by decide
theorem kb_m8 : (Int8.ofInt (-8)).toInt32 = (-8) := by decide
theorem kb_m7 : (Int8.ofInt (-7)).toInt32 = (-7) := by decide
theorem kb_m6 : (Int8.ofInt (-6)).toInt32 = (-6) := by decide
theorem kb_m5 : (Int8.ofInt (-5)).toInt32 = (-5) := by decide
theorem kb_m4 : (Int8.ofInt (-4)).toInt32 = (-4) := by decide
theorem kb_m3 : (Int8.ofInt (-3)).toInt32 = (-3) := by decide
theorem kb_m2 : (Int8.ofInt (-2)).toInt32 = (-2) := by decide
theorem kb_6 : (Int8.ofInt 6).toInt32 = 6 := by decide
theorem kb_7 : (Int8.ofInt 7).toInt32 = 7 := by decide
theorem kb_8 : (Int8.ofInt 8).toInt32 = 8 := by decide
theorem kb_10 : (Int8.ofInt 10).toInt32 = 10 := by decide
theorem kb_13 : (Int8.ofInt 13).toInt32 = 13 := by decide
theorem kb_15 : (Int8.ofInt 15).toInt32 = 15 := by decide
theorem kb_16 : (Int8.ofInt 16).toInt32 = 16 := by decide
theorem kb_18 : (Int8.ofInt 18).toInt32 = 18 := by decide
theorem kb_21 : (Int8.ofInt 21).toInt32 = 21 := by decide
theorem kb_24 : (Int8.ofInt 24).toInt32 = 24 := by decide
theorem kb_40 : (Int8.ofInt 40).toInt32 = 40 := by decide
theorem kb_45 : (Int8.ofInt 45).toInt32 = 45 := by decide
theorem kb_50 : (Int8.ofInt 50).toInt32 = 50 := by decide
theorem kb_64 : (Int8.ofInt 64).toInt32 = 64 := by decide
theorem kb_69 : (Int8.ofInt 69).toInt32 = 69 := by decide
theorem kb_93 : (Int8.ofInt 93).toInt32 = 93 := by decide
theorem kb_100 : (Int8.ofInt 100).toInt32 = 100 := by decide
theorem kb_117 : (Int8.ofInt 117).toInt32 = 117 := by decide
theorem ki_m1 : Int32.ofInt (-1) = (-1) := by decide
theorem ki_0 : Int32.ofInt 0 = 0 := by decide
theorem ki_1 : Int32.ofInt 1 = 1 := by decide
theorem ki_2 : Int32.ofInt 2 = 2 := by decide
theorem ki_3 : Int32.ofInt 3 = 3 := by decide
theorem ki_4 : Int32.ofInt 4 = 4 := by decide
theorem ki_5 : Int32.ofInt 5 = 5 := by decide
theorem ks_141 : (Int16.ofInt 141).toInt32 = 141 := by decide
theorem ks_165 : (Int16.ofInt 165).toInt32 = 165 := by decide
theorem ks_200 : (Int16.ofInt 200).toInt32 = 200 := by decide
theorem ks_285 : (Int16.ofInt 285).toInt32 = 285 := by decide
theorem ks_293 : (Int16.ofInt 293).toInt32 = 293 := by decide
theorem ks_357 : (Int16.ofInt 357).toInt32 = 357 := by decide
theorem ks_421 : (Int16.ofInt 421).toInt32 = 421 := by decide
theorem ks_431 : (Int16.ofInt 431).toInt32 = 431 := by decide
theorem pnX0 : plainName RX0 = true := by decide +kernel
theorem pnX1 : plainName RX1 = true := by decide +kernel
theorem pnX2 : plainName RX2 = true := by decide +kernel
theorem pnX3 : plainName RX3 = true := by decide +kernel
theorem pnX4 : plainName RX4 = true := by decide +kernel
theorem pnX5 : plainName RX5 = true := by decide +kernel
theorem pnX6 : plainName RX6 = true := by decide +kernel
theorem pnX7 : plainName RX7 = true := by decide +kernel
theorem x_swIn {Y : xY} {l : Launch} {X : xE} {wf : xM → va_W} {M : xM} {cc : ByteArray} {own : String} {ret : Option FieldType} {N F Lc : Nat} {pc : Nat} {lv : List (Nat × Value)} {st : List Value} (q : Nat) (C : xC Y X cc own ret N F Lc) {dflt lo hi : Int} {offs : Array Int} {len : Nat} {x : Int32} {off : Int} (hd : decode cc pc = .ok (.tableswitch dflt lo hi offs, len)) (h1 : ¬ x.toInt < lo) (h2 : ¬ hi < x.toInt) (ho : offs[(x.toInt - lo).toNat]? = some off) (ht : (pc : Int) + off = (q : Int)) (kk : xG Y l X wf M q lv st) : xG Y l X wf M pc lv (.int x :: st) := by
  obtain ⟨p, e, R, s, m, args, below, meth, c, A, nL, Qc⟩ := X
  obtain ⟨hx, hb, hml, hown, hts, hK, hA, hlocks, hr, hRf, hRl, hN⟩ := C
  intro H locs ls hP hD hS hl
  exact lv_tableIn hx hb hd h1 h2 ho ht (kk H locs ls hP hD hS hl)
theorem x_swOut {Y : xY} {l : Launch} {X : xE} {wf : xM → va_W} {M : xM} {cc : ByteArray} {own : String} {ret : Option FieldType} {N F Lc : Nat} {pc : Nat} {lv : List (Nat × Value)} {st : List Value} (q : Nat) (C : xC Y X cc own ret N F Lc) {dflt lo hi : Int} {offs : Array Int} {len : Nat} {x : Int32} (hd : decode cc pc = .ok (.tableswitch dflt lo hi offs, len)) (h : x.toInt < lo ∨ hi < x.toInt) (ht : (pc : Int) + dflt = (q : Int)) (kk : xG Y l X wf M q lv st) : xG Y l X wf M pc lv (.int x :: st) := by
  obtain ⟨p, e, R, s, m, args, below, meth, c, A, nL, Qc⟩ := X
  obtain ⟨hx, hb, hml, hown, hts, hK, hA, hlocks, hr, hRf, hRl, hN⟩ := C
  intro H locs ls hP hD hS hl
  exact lv_tableOut hx hb hd h ht (kk H locs ls hP hD hS hl)
theorem x_swi {x : Int32} {n : Int} (h : ¬ x = Int32.ofInt n) (h1 : -2147483648 ≤ n) (h2 : n < 2147483648) : ¬ x.toInt = n := by
  intro e
  apply h
  apply Int32.toInt_inj.mp
  rw [e, Int32.toInt_ofInt_of_le h1 h2]
theorem x_sw4 {x : Int32} (h0 : ¬ x = 0) (h1 : ¬ x = 1) (h2 : ¬ x = 2) (h3 : ¬ x = 3) : x.toInt < 0 ∨ 3 < x.toInt := by
  have a0 := x_swi (n := 0) h0 (by decide) (by decide)
  have a1 := x_swi (n := 1) h1 (by decide) (by decide)
  have a2 := x_swi (n := 2) h2 (by decide) (by decide)
  have a3 := x_swi (n := 3) h3 (by decide) (by decide)
  omega
theorem x_sw5 {x : Int32} (h0 : ¬ x = 0) (h1 : ¬ x = 1) (h2 : ¬ x = 2) (h3 : ¬ x = 3) (h4 : ¬ x = 4) : x.toInt < 0 ∨ 4 < x.toInt := by
  have a0 := x_swi (n := 0) h0 (by decide) (by decide)
  have a1 := x_swi (n := 1) h1 (by decide) (by decide)
  have a2 := x_swi (n := 2) h2 (by decide) (by decide)
  have a3 := x_swi (n := 3) h3 (by decide) (by decide)
  have a4 := x_swi (n := 4) h4 (by decide) (by decide)
  omega
theorem hwX3_isBridgeUp : xmv yX3_isBridgeUp cX3_isBridgeUp 2 (some .boolean) 1 := ⟨mq_328, mq_329, mq_58, mq_330, by decide +kernel, by decide +kernel, by decide +kernel⟩
theorem hwX3_isActive : xmv yX3_isActive cX3_isActive 2 (some .boolean) 1 := ⟨mq_364, mq_365, mq_58, mq_366, by decide +kernel, by decide +kernel, by decide +kernel⟩
theorem hwX3_storesMessage : xmv yX3_storesMessage cX3_storesMessage 2 (some .boolean) 1 := ⟨mq_405, mq_406, mq_58, mq_407, by decide +kernel, by decide +kernel, by decide +kernel⟩
theorem hwX2_senderOf : xms yX2_senderOf cX2_senderOf 2 (some .int) 1 := ⟨mq_413, mq_64, mq_414, by decide +kernel, by decide +kernel, by decide +kernel⟩
theorem hwX3_identifierOf : xmv yX3_identifierOf cX3_identifierOf 2 (some .int) 1 := ⟨mq_417, mq_418, mq_58, mq_419, by decide +kernel, by decide +kernel, by decide +kernel⟩
theorem hwX0_isFromOwnBridge : xmv yX0_isFromOwnBridge cX0_isFromOwnBridge 2 (some .boolean) 1 := ⟨mq_410, mq_4, mq_59, mq_411, by decide +kernel, by decide +kernel, by decide +kernel⟩
theorem hwX0_hasOffer : xmv yX0_hasOffer cX0_hasOffer 2 (some .boolean) 1 := ⟨mq_401, mq_3, mq_59, mq_402, by decide +kernel, by decide +kernel, by decide +kernel⟩
theorem hwX2_withCostAdded : xms yX2_withCostAdded cX2_withCostAdded 3 (some .long) 2 := ⟨mq_425, mq_64, mq_426, by decide +kernel, by decide +kernel, by decide +kernel⟩
theorem hwX0_considerOffer : xmv yX0_considerOffer cX0_considerOffer 5 none 1 := ⟨mq_422, mq_5, mq_59, mq_423, by decide +kernel, by decide +kernel, by decide +kernel⟩
theorem hwX0_findBestOffers : xmv yX0_findBestOffers cX0_findBestOffers 2 none 0 := ⟨mq_397, mq_2, mq_59, mq_398, by decide +kernel, by decide +kernel, by decide +kernel⟩
theorem hwX2_rootOf : xms yX2_rootOf cX2_rootOf 2 (some .int) 1 := ⟨mq_432, mq_64, mq_433, by decide +kernel, by decide +kernel, by decide +kernel⟩
theorem hwX2_costOf : xms yX2_costOf cX2_costOf 2 (some .int) 1 := ⟨mq_435, mq_64, mq_436, by decide +kernel, by decide +kernel, by decide +kernel⟩
theorem hwX0_chooseRoot : xmv yX0_chooseRoot cX0_chooseRoot 4 none 1 := ⟨mq_429, mq_6, mq_59, mq_430, by decide +kernel, by decide +kernel, by decide +kernel⟩
theorem hwX2_of : xms yX2_of cX2_of 4 (some .long) 4 := ⟨mq_447, mq_64, mq_448, by decide +kernel, by decide +kernel, by decide +kernel⟩
theorem hwX0_ownMessage : xmv yX0_ownMessage cX0_ownMessage 3 (some .long) 1 := ⟨mq_443, mq_444, mq_59, mq_445, by decide +kernel, by decide +kernel, by decide +kernel⟩
theorem hwX0_roleFor : xmv yX0_roleFor cX0_roleFor 2 (some .int) 1 := ⟨mq_440, mq_7, mq_59, mq_441, by decide +kernel, by decide +kernel, by decide +kernel⟩
theorem hwX0_elect : xmv yX0_elect cX0_elect 4 (some .boolean) 0 := ⟨mq_392, mq_393, mq_59, mq_394, by decide +kernel, by decide +kernel, by decide +kernel⟩
theorem hwX1_transmit : xmv yX1_transmit cX1_transmit 3 none 2 := ⟨mq_594, mq_20, mq_61, mq_595, by decide +kernel, by decide +kernel, by decide +kernel⟩
theorem hwX3_entryIndex : xms yX3_entryIndex cX3_entryIndex 2 (some .int) 2 := ⟨mq_610, mq_58, mq_611, by decide +kernel, by decide +kernel, by decide +kernel⟩
theorem hwX3_learn : xmv yX3_learn cX3_learn 4 none 2 := ⟨mq_606, mq_607, mq_58, mq_608, by decide +kernel, by decide +kernel, by decide +kernel⟩
theorem hwX3_learnedPort : xmv yX3_learnedPort cX3_learnedPort 4 (some .int) 2 := ⟨mq_617, mq_618, mq_58, mq_619, by decide +kernel, by decide +kernel, by decide +kernel⟩
theorem hwX3_isForwarding : xmv yX3_isForwarding cX3_isForwarding 2 (some .boolean) 1 := ⟨mq_568, mq_569, mq_58, mq_570, by decide +kernel, by decide +kernel, by decide +kernel⟩
theorem hwX1_flood : xmv yX1_flood cX1_flood 4 none 2 := ⟨mq_623, mq_24, mq_61, mq_624, by decide +kernel, by decide +kernel, by decide +kernel⟩
theorem hwX1_passOn : xmv yX1_passOn cX1_passOn 5 none 2 := ⟨mq_614, mq_23, mq_61, mq_615, by decide +kernel, by decide +kernel, by decide +kernel⟩
theorem hwX1_visitPort : xmv yX1_visitPort cX1_visitPort 5 none 3 := ⟨mq_603, mq_22, mq_61, mq_604, by decide +kernel, by decide +kernel, by decide +kernel⟩
theorem hwX1_visitPorts : xmv yX1_visitPorts cX1_visitPorts 6 none 4 := ⟨mq_598, mq_21, mq_61, mq_599, by decide +kernel, by decide +kernel, by decide +kernel⟩
theorem hwX1_deliver : xmv yX1_deliver cX1_deliver 4 (some .int) 2 := ⟨mq_589, mq_590, mq_61, mq_591, by decide +kernel, by decide +kernel, by decide +kernel⟩
theorem hwX2_senderPortOf : xms yX2_senderPortOf cX2_senderPortOf 2 (some .int) 1 := ⟨mq_548, mq_64, mq_549, by decide +kernel, by decide +kernel, by decide +kernel⟩
theorem hwX2_haveSameSource : xms yX2_haveSameSource cX2_haveSameSource 4 (some .boolean) 2 := ⟨mq_481, mq_64, mq_482, by decide +kernel, by decide +kernel, by decide +kernel⟩
theorem hwX3_hasBridge : xmv yX3_hasBridge cX3_hasBridge 2 (some .boolean) 1 := ⟨mq_313, mq_314, mq_58, mq_315, by decide +kernel, by decide +kernel, by decide +kernel⟩
theorem hwX3_hasSegment : xmv yX3_hasSegment cX3_hasSegment 2 (some .boolean) 1 := ⟨mq_317, mq_318, mq_58, mq_319, by decide +kernel, by decide +kernel, by decide +kernel⟩
theorem hwX3_hasPort : xmv yX3_hasPort cX3_hasPort 2 (some .boolean) 1 := ⟨mq_348, mq_349, mq_58, mq_350, by decide +kernel, by decide +kernel, by decide +kernel⟩
theorem hwX3_hasStation : xmv yX3_hasStation cX3_hasStation 2 (some .boolean) 1 := ⟨mq_384, mq_385, mq_58, mq_386, by decide +kernel, by decide +kernel, by decide +kernel⟩
theorem hwX3_appendBridge : xmv yX3_appendBridge cX3_appendBridge 3 (some .int) 1 := ⟨mq_297, mq_298, mq_58, mq_299, by decide +kernel, by decide +kernel, by decide +kernel⟩
theorem hwX3_appendSegment : xmv yX3_appendSegment cX3_appendSegment 2 (some .int) 0 := ⟨mq_305, mq_306, mq_58, mq_307, by decide +kernel, by decide +kernel, by decide +kernel⟩
theorem hwX3_appendPort : xmv yX3_appendPort cX3_appendPort 5 (some .int) 3 := ⟨mq_324, mq_325, mq_58, mq_326, by decide +kernel, by decide +kernel, by decide +kernel⟩
theorem hwX3_appendStation : xmv yX3_appendStation cX3_appendStation 3 (some .int) 1 := ⟨mq_336, mq_337, mq_58, mq_338, by decide +kernel, by decide +kernel, by decide +kernel⟩
theorem hwX3_forgetEntriesWith : xmv yX3_forgetEntriesWith cX3_forgetEntriesWith 3 none 1 := ⟨mq_369, mq_1, mq_58, mq_370, by decide +kernel, by decide +kernel, by decide +kernel⟩
theorem hwX3_resetPort : xmv yX3_resetPort cX3_resetPort 2 none 1 := ⟨mq_361, mq_0, mq_58, mq_362, by decide +kernel, by decide +kernel, by decide +kernel⟩
theorem hwX3_switchBridge : xmv yX3_switchBridge cX3_switchBridge 5 (some .int) 2 := ⟨mq_356, mq_357, mq_58, mq_358, by decide +kernel, by decide +kernel, by decide +kernel⟩
theorem hwX3_switchPort : xmv yX3_switchPort cX3_switchPort 4 (some .int) 2 := ⟨mq_376, mq_377, mq_58, mq_378, by decide +kernel, by decide +kernel, by decide +kernel⟩
theorem hwX3_ageEntries : xmv yX3_ageEntries cX3_ageEntries 2 none 0 := ⟨mq_506, mq_507, mq_58, mq_508, by decide +kernel, by decide +kernel, by decide +kernel⟩
theorem hwX3_ageMessage : xmv yX3_ageMessage cX3_ageMessage 2 none 1 := ⟨mq_485, mq_486, mq_58, mq_487, by decide +kernel, by decide +kernel, by decide +kernel⟩
theorem hwX4_ageToSend : xmv yX4_ageToSend cX4_ageToSend 3 (some .int) 1 := ⟨mq_459, mq_9, mq_60, mq_460, by decide +kernel, by decide +kernel, by decide +kernel⟩
theorem hwX4_isBetterSender : xmv yX4_isBetterSender cX4_isBetterSender 3 (some .boolean) 2 := ⟨mq_468, mq_11, mq_60, mq_469, by decide +kernel, by decide +kernel, by decide +kernel⟩
theorem hwX4_rankSender : xmv yX4_rankSender cX4_rankSender 3 none 1 := ⟨mq_464, mq_10, mq_60, mq_465, by decide +kernel, by decide +kernel, by decide +kernel⟩
theorem hwX4_sendMessages : xmv yX4_sendMessages cX4_sendMessages 3 none 0 := ⟨mq_455, mq_8, mq_60, mq_456, by decide +kernel, by decide +kernel, by decide +kernel⟩
theorem hwX4_accepts : xmv yX4_accepts cX4_accepts 6 (some .boolean) 2 := ⟨mq_477, mq_13, mq_60, mq_478, by decide +kernel, by decide +kernel, by decide +kernel⟩
theorem hwX4_takesMessage : xmv yX4_takesMessage cX4_takesMessage 4 (some .boolean) 1 := ⟨mq_472, mq_12, mq_60, mq_473, by decide +kernel, by decide +kernel, by decide +kernel⟩
theorem hwX4_enterState : xmv yX4_enterState cX4_enterState 4 none 3 := ⟨mq_499, mq_16, mq_60, mq_500, by decide +kernel, by decide +kernel, by decide +kernel⟩
theorem hwX4_moveTowardsForwarding : xmv yX4_moveTowardsForwarding cX4_moveTowardsForwarding 3 none 1 := ⟨mq_503, mq_17, mq_60, mq_504, by decide +kernel, by decide +kernel, by decide +kernel⟩
theorem hwX4_moveState : xmv yX4_moveState cX4_moveState 3 none 2 := ⟨mq_495, mq_15, mq_60, mq_496, by decide +kernel, by decide +kernel, by decide +kernel⟩
theorem hwX4_moveStates : xmv yX4_moveStates cX4_moveStates 4 (some .boolean) 0 := ⟨mq_491, mq_14, mq_60, mq_492, by decide +kernel, by decide +kernel, by decide +kernel⟩
theorem hwX4_makeTick : xmv yX4_makeTick cX4_makeTick 3 (some .boolean) 0 := ⟨mq_450, mq_451, mq_60, mq_452, by decide +kernel, by decide +kernel, by decide +kernel⟩
theorem hwX5_countVertices : xmv yX5_countVertices cX5_countVertices 3 (some .int) 0 := ⟨mq_564, mq_18, mq_62, mq_565, by decide +kernel, by decide +kernel, by decide +kernel⟩
theorem hwX5_join : xmv yX5_join cX5_join 5 (some .boolean) 1 := ⟨mq_573, mq_19, mq_62, mq_574, by decide +kernel, by decide +kernel, by decide +kernel⟩
theorem hwX5_countParts : xmv yX5_countParts cX5_countParts 3 (some .int) 0 := ⟨mq_559, mq_560, mq_62, mq_561, by decide +kernel, by decide +kernel, by decide +kernel⟩
theorem hwX5_countLoops : xmv yX5_countLoops cX5_countLoops 3 (some .int) 0 := ⟨mq_580, mq_581, mq_62, mq_582, by decide +kernel, by decide +kernel, by decide +kernel⟩
theorem hwX6_isPriority : xms yX6_isPriority cX6_isPriority 1 (some .boolean) 1 := ⟨mq_294, mq_57, mq_295, by decide +kernel, by decide +kernel, by decide +kernel⟩
theorem hwX6_addBridge : xmv yX6_addBridge cX6_addBridge 2 (some .int) 1 := ⟨mq_290, mq_291, mq_57, mq_292, by decide +kernel, by decide +kernel, by decide +kernel⟩
theorem hwX6_addSegment : xmv yX6_addSegment cX6_addSegment 1 (some .int) 0 := ⟨mq_301, mq_302, mq_57, mq_303, by decide +kernel, by decide +kernel, by decide +kernel⟩
theorem hwX6_isCost : xms yX6_isCost cX6_isCost 1 (some .boolean) 1 := ⟨mq_321, mq_57, mq_322, by decide +kernel, by decide +kernel, by decide +kernel⟩
theorem hwX6_addPort : xmv yX6_addPort cX6_addPort 4 (some .int) 3 := ⟨mq_309, mq_310, mq_57, mq_311, by decide +kernel, by decide +kernel, by decide +kernel⟩
theorem hwX6_addStation : xmv yX6_addStation cX6_addStation 2 (some .int) 1 := ⟨mq_332, mq_333, mq_57, mq_334, by decide +kernel, by decide +kernel, by decide +kernel⟩
theorem hwX6_setPriority : xmv yX6_setPriority cX6_setPriority 4 (some .int) 2 := ⟨mq_340, mq_341, mq_57, mq_342, by decide +kernel, by decide +kernel, by decide +kernel⟩
theorem hwX6_setCost : xmv yX6_setCost cX6_setCost 4 (some .int) 2 := ⟨mq_344, mq_345, mq_57, mq_346, by decide +kernel, by decide +kernel, by decide +kernel⟩
theorem hwX6_setBridge : xmv yX6_setBridge cX6_setBridge 3 (some .int) 2 := ⟨mq_352, mq_353, mq_57, mq_354, by decide +kernel, by decide +kernel, by decide +kernel⟩
theorem hwX6_setPort : xmv yX6_setPort cX6_setPort 3 (some .int) 2 := ⟨mq_372, mq_373, mq_57, mq_374, by decide +kernel, by decide +kernel, by decide +kernel⟩
theorem hwX6_moveStation : xmv yX6_moveStation cX6_moveStation 4 (some .int) 2 := ⟨mq_380, mq_381, mq_57, mq_382, by decide +kernel, by decide +kernel, by decide +kernel⟩
theorem hwX6_tick : xmv yX6_tick cX6_tick 3 (some .int) 1 := ⟨mq_388, mq_389, mq_57, mq_390, by decide +kernel, by decide +kernel, by decide +kernel⟩
theorem hwX6_settle : xmv yX6_settle cX6_settle 5 (some .int) 1 := ⟨mq_510, mq_511, mq_57, mq_512, by decide +kernel, by decide +kernel, by decide +kernel⟩
theorem hwX6_identifier : xmv yX6_identifier cX6_identifier 2 (some .int) 1 := ⟨mq_514, mq_515, mq_57, mq_516, by decide +kernel, by decide +kernel, by decide +kernel⟩
theorem hwX6_root : xmv yX6_root cX6_root 2 (some .int) 1 := ⟨mq_519, mq_520, mq_57, mq_521, by decide +kernel, by decide +kernel, by decide +kernel⟩
theorem hwX6_rootCost : xmv yX6_rootCost cX6_rootCost 2 (some .int) 1 := ⟨mq_524, mq_525, mq_57, mq_526, by decide +kernel, by decide +kernel, by decide +kernel⟩
theorem hwX6_rootPort : xmv yX6_rootPort cX6_rootPort 3 (some .int) 1 := ⟨mq_528, mq_529, mq_57, mq_530, by decide +kernel, by decide +kernel, by decide +kernel⟩
theorem hwX6_role : xmv yX6_role cX6_role 2 (some .int) 1 := ⟨mq_532, mq_533, mq_57, mq_534, by decide +kernel, by decide +kernel, by decide +kernel⟩
theorem hwX6_state : xmv yX6_state cX6_state 2 (some .int) 1 := ⟨mq_536, mq_537, mq_57, mq_538, by decide +kernel, by decide +kernel, by decide +kernel⟩
theorem hwX6_stored : xmv yX6_stored cX6_stored 5 (some .int) 2 := ⟨mq_540, mq_541, mq_57, mq_542, by decide +kernel, by decide +kernel, by decide +kernel⟩
theorem hwX6_portsIn : xmv yX6_portsIn cX6_portsIn 4 (some .int) 1 := ⟨mq_551, mq_552, mq_57, mq_553, by decide +kernel, by decide +kernel, by decide +kernel⟩
theorem hwX6_parts : xmv yX6_parts cX6_parts 1 (some .int) 0 := ⟨mq_555, mq_556, mq_57, mq_557, by decide +kernel, by decide +kernel, by decide +kernel⟩
theorem hwX6_loops : xmv yX6_loops cX6_loops 1 (some .int) 0 := ⟨mq_576, mq_577, mq_57, mq_578, by decide +kernel, by decide +kernel, by decide +kernel⟩
theorem hwX6_send : xmv yX6_send cX6_send 3 (some .int) 2 := ⟨mq_585, mq_586, mq_57, mq_587, by decide +kernel, by decide +kernel, by decide +kernel⟩
theorem hwX6_transmissions : xmv yX6_transmissions cX6_transmissions 2 (some .int) 1 := ⟨mq_626, mq_627, mq_57, mq_628, by decide +kernel, by decide +kernel, by decide +kernel⟩
theorem hwX6_entry : xmv yX6_entry cX6_entry 4 (some .int) 2 := ⟨mq_630, mq_631, mq_57, mq_632, by decide +kernel, by decide +kernel, by decide +kernel⟩
theorem hwX6_count : xmv yX6_count cX6_count 2 (some .int) 1 := ⟨mq_635, mq_636, mq_57, mq_637, by decide +kernel, by decide +kernel, by decide +kernel⟩
theorem hwX6_isSlot : xms yX6_isSlot cX6_isSlot 1 (some .boolean) 1 := ⟨mq_643, mq_57, mq_644, by decide +kernel, by decide +kernel, by decide +kernel⟩
theorem hwX7_in : xms yX7_in cX7_in 3 (some .boolean) 3 := ⟨mq_723, mq_63, mq_724, by decide +kernel, by decide +kernel, by decide +kernel⟩
theorem hwX7_isBridge : xmv yX7_isBridge cX7_isBridge 2 (some .boolean) 1 := ⟨mq_735, mq_25, mq_63, mq_736, by decide +kernel, by decide +kernel, by decide +kernel⟩
theorem hwX7_isSegment : xmv yX7_isSegment cX7_isSegment 2 (some .boolean) 1 := ⟨mq_739, mq_26, mq_63, mq_740, by decide +kernel, by decide +kernel, by decide +kernel⟩
theorem hwX7_isPort : xmv yX7_isPort cX7_isPort 2 (some .boolean) 1 := ⟨mq_771, mq_31, mq_63, mq_772, by decide +kernel, by decide +kernel, by decide +kernel⟩
theorem hwX7_isStation : xmv yX7_isStation cX7_isStation 2 (some .boolean) 1 := ⟨mq_795, mq_34, mq_63, mq_796, by decide +kernel, by decide +kernel, by decide +kernel⟩
theorem hwX7_ports : xmv yX7_ports cX7_ports 1 (some .int) 0 := ⟨mq_743, mq_27, mq_63, mq_744, by decide +kernel, by decide +kernel, by decide +kernel⟩
theorem hwX7_bridgeOf : xmv yX7_bridgeOf cX7_bridgeOf 2 (some .int) 1 := ⟨mq_751, mq_29, mq_63, mq_752, by decide +kernel, by decide +kernel, by decide +kernel⟩
theorem hwX7_isActive : xmv yX7_isActive cX7_isActive 2 (some .boolean) 1 := ⟨mq_747, mq_28, mq_63, mq_748, by decide +kernel, by decide +kernel, by decide +kernel⟩
theorem hwX7_idOf : xmv yX7_idOf cX7_idOf 2 (some .int) 1 := ⟨mq_823, mq_40, mq_63, mq_824, by decide +kernel, by decide +kernel, by decide +kernel⟩
theorem hwX7_message : xmv yX7_message cX7_message 3 (some .int) 2 := ⟨mq_819, mq_39, mq_63, mq_820, by decide +kernel, by decide +kernel, by decide +kernel⟩
theorem hwX7_stores : xmv yX7_stores cX7_stores 2 (some .boolean) 1 := ⟨mq_815, mq_38, mq_63, mq_816, by decide +kernel, by decide +kernel, by decide +kernel⟩
theorem hwX7_addBridge : xmv yX7_addBridge cX7_addBridge 3 (some .int) 1 := ⟨mq_719, mq_720, mq_63, mq_721, by decide +kernel, by decide +kernel, by decide +kernel⟩
theorem hwX7_addSegment : xmv yX7_addSegment cX7_addSegment 1 (some .int) 0 := ⟨mq_726, mq_727, mq_63, mq_728, by decide +kernel, by decide +kernel, by decide +kernel⟩
theorem hwX7_addPort : xmv yX7_addPort cX7_addPort 5 (some .int) 3 := ⟨mq_730, mq_731, mq_63, mq_732, by decide +kernel, by decide +kernel, by decide +kernel⟩
theorem hwX7_addStation : xmv yX7_addStation cX7_addStation 2 (some .int) 1 := ⟨mq_754, mq_755, mq_63, mq_756, by decide +kernel, by decide +kernel, by decide +kernel⟩
theorem hwX7_set : xmv yX7_set cX7_set 4 (some .int) 2 := ⟨mq_763, mq_30, mq_63, mq_764, by decide +kernel, by decide +kernel, by decide +kernel⟩
theorem hwX7_setPriority : xmv yX7_setPriority cX7_setPriority 3 (some .int) 2 := ⟨mq_758, mq_759, mq_63, mq_760, by decide +kernel, by decide +kernel, by decide +kernel⟩
theorem hwX7_setCost : xmv yX7_setCost cX7_setCost 3 (some .int) 2 := ⟨mq_766, mq_767, mq_63, mq_768, by decide +kernel, by decide +kernel, by decide +kernel⟩
theorem hwX7_turn : xmv yX7_turn cX7_turn 5 none 2 := ⟨mq_783, mq_33, mq_63, mq_784, by decide +kernel, by decide +kernel, by decide +kernel⟩
theorem hwX7_turnAll : xmv yX7_turnAll cX7_turnAll 5 (some .int) 2 := ⟨mq_779, mq_32, mq_63, mq_780, by decide +kernel, by decide +kernel, by decide +kernel⟩
theorem hwX7_setBridge : xmv yX7_setBridge cX7_setBridge 3 (some .int) 2 := ⟨mq_774, mq_775, mq_63, mq_776, by decide +kernel, by decide +kernel, by decide +kernel⟩
theorem hwX7_setPort : xmv yX7_setPort cX7_setPort 3 (some .int) 2 := ⟨mq_786, mq_787, mq_63, mq_788, by decide +kernel, by decide +kernel, by decide +kernel⟩
theorem hwX7_moveStation : xmv yX7_moveStation cX7_moveStation 3 (some .int) 2 := ⟨mq_790, mq_791, mq_63, mq_792, by decide +kernel, by decide +kernel, by decide +kernel⟩
theorem hwX7_isBetterOffer : xmv yX7_isBetterOffer cX7_isBetterOffer 5 (some .boolean) 2 := ⟨mq_827, mq_41, mq_63, mq_828, by decide +kernel, by decide +kernel, by decide +kernel⟩
theorem hwX7_layRoot : xmv yX7_layRoot cX7_layRoot 5 none 1 := ⟨mq_811, mq_37, mq_63, mq_812, by decide +kernel, by decide +kernel, by decide +kernel⟩
theorem hwX7_isBetter : xms yX7_isBetter cX7_isBetter 8 (some .boolean) 8 := ⟨mq_838, mq_63, mq_839, by decide +kernel, by decide +kernel, by decide +kernel⟩
theorem hwX7_isOwnBetter : xmv yX7_isOwnBetter cX7_isOwnBetter 3 (some .boolean) 1 := ⟨mq_835, mq_43, mq_63, mq_836, by decide +kernel, by decide +kernel, by decide +kernel⟩
theorem hwX7_roleOf : xmv yX7_roleOf cX7_roleOf 3 (some .int) 1 := ⟨mq_831, mq_42, mq_63, mq_832, by decide +kernel, by decide +kernel, by decide +kernel⟩
theorem hwX7_layRoles : xmv yX7_layRoles cX7_layRoles 2 none 0 := ⟨mq_807, mq_36, mq_63, mq_808, by decide +kernel, by decide +kernel, by decide +kernel⟩
theorem hwX7_sendAll : xmv yX7_sendAll cX7_sendAll 4 none 0 := ⟨mq_842, mq_44, mq_63, mq_843, by decide +kernel, by decide +kernel, by decide +kernel⟩
theorem hwX7_isBetterSent : xmv yX7_isBetterSent cX7_isBetterSent 3 (some .boolean) 2 := ⟨mq_854, mq_47, mq_63, mq_855, by decide +kernel, by decide +kernel, by decide +kernel⟩
theorem hwX7_heardBy : xmv yX7_heardBy cX7_heardBy 5 (some .int) 1 := ⟨mq_850, mq_46, mq_63, mq_851, by decide +kernel, by decide +kernel, by decide +kernel⟩
theorem hwX7_hear : xmv yX7_hear cX7_hear 7 none 1 := ⟨mq_846, mq_45, mq_63, mq_847, by decide +kernel, by decide +kernel, by decide +kernel⟩
theorem hwX7_goOn : xmv yX7_goOn cX7_goOn 3 none 1 := ⟨mq_858, mq_48, mq_63, mq_859, by decide +kernel, by decide +kernel, by decide +kernel⟩
theorem hwX7_tickOnce : xmv yX7_tickOnce cX7_tickOnce 4 (some .boolean) 0 := ⟨mq_803, mq_35, mq_63, mq_804, by decide +kernel, by decide +kernel, by decide +kernel⟩
theorem hwX7_tick : xmv yX7_tick cX7_tick 4 (some .int) 1 := ⟨mq_798, mq_799, mq_63, mq_800, by decide +kernel, by decide +kernel, by decide +kernel⟩
theorem hwX7_settle : xmv yX7_settle cX7_settle 4 (some .int) 1 := ⟨mq_861, mq_862, mq_63, mq_863, by decide +kernel, by decide +kernel, by decide +kernel⟩
theorem hwX7_identifier : xmv yX7_identifier cX7_identifier 2 (some .int) 1 := ⟨mq_865, mq_866, mq_63, mq_867, by decide +kernel, by decide +kernel, by decide +kernel⟩
theorem hwX7_isUp : xmv yX7_isUp cX7_isUp 2 (some .boolean) 1 := ⟨mq_874, mq_49, mq_63, mq_875, by decide +kernel, by decide +kernel, by decide +kernel⟩
theorem hwX7_root : xmv yX7_root cX7_root 2 (some .int) 1 := ⟨mq_869, mq_870, mq_63, mq_871, by decide +kernel, by decide +kernel, by decide +kernel⟩
theorem hwX7_rootCost : xmv yX7_rootCost cX7_rootCost 2 (some .int) 1 := ⟨mq_877, mq_878, mq_63, mq_879, by decide +kernel, by decide +kernel, by decide +kernel⟩
theorem hwX7_rootPort : xmv yX7_rootPort cX7_rootPort 2 (some .int) 1 := ⟨mq_881, mq_882, mq_63, mq_883, by decide +kernel, by decide +kernel, by decide +kernel⟩
theorem hwX7_role : xmv yX7_role cX7_role 2 (some .int) 1 := ⟨mq_885, mq_886, mq_63, mq_887, by decide +kernel, by decide +kernel, by decide +kernel⟩
theorem hwX7_state : xmv yX7_state cX7_state 2 (some .int) 1 := ⟨mq_889, mq_890, mq_63, mq_891, by decide +kernel, by decide +kernel, by decide +kernel⟩
theorem hwX7_stored : xmv yX7_stored cX7_stored 3 (some .int) 2 := ⟨mq_893, mq_894, mq_63, mq_895, by decide +kernel, by decide +kernel, by decide +kernel⟩
theorem hwX7_portsIn : xmv yX7_portsIn cX7_portsIn 4 (some .int) 1 := ⟨mq_897, mq_898, mq_63, mq_899, by decide +kernel, by decide +kernel, by decide +kernel⟩
theorem hwX7_joinAll : xmv yX7_joinAll cX7_joinAll 6 (some .int) 0 := ⟨mq_906, mq_50, mq_63, mq_907, by decide +kernel, by decide +kernel, by decide +kernel⟩
theorem hwX7_isVertex : xmv yX7_isVertex cX7_isVertex 2 (some .boolean) 1 := ⟨mq_914, mq_52, mq_63, mq_915, by decide +kernel, by decide +kernel, by decide +kernel⟩
theorem hwX7_vertices : xmv yX7_vertices cX7_vertices 3 (some .int) 0 := ⟨mq_922, mq_53, mq_63, mq_923, by decide +kernel, by decide +kernel, by decide +kernel⟩
theorem hwX7_partsNow : xmv yX7_partsNow cX7_partsNow 5 (some .int) 0 := ⟨mq_910, mq_51, mq_63, mq_911, by decide +kernel, by decide +kernel, by decide +kernel⟩
theorem hwX7_parts : xmv yX7_parts cX7_parts 2 (some .int) 0 := ⟨mq_901, mq_902, mq_63, mq_903, by decide +kernel, by decide +kernel, by decide +kernel⟩
theorem hwX7_loops : xmv yX7_loops cX7_loops 2 (some .int) 0 := ⟨mq_917, mq_918, mq_63, mq_919, by decide +kernel, by decide +kernel, by decide +kernel⟩
theorem hwX7_transmit : xmv yX7_transmit cX7_transmit 3 none 2 := ⟨mq_930, mq_54, mq_63, mq_931, by decide +kernel, by decide +kernel, by decide +kernel⟩
theorem hwX7_cell : xms yX7_cell cX7_cell 2 (some .int) 2 := ⟨mq_937, mq_63, mq_938, by decide +kernel, by decide +kernel, by decide +kernel⟩
theorem hwX7_receive : xmv yX7_receive cX7_receive 9 none 3 := ⟨mq_934, mq_55, mq_63, mq_935, by decide +kernel, by decide +kernel, by decide +kernel⟩
theorem hwX7_send : xmv yX7_send cX7_send 5 (some .int) 2 := ⟨mq_925, mq_926, mq_63, mq_927, by decide +kernel, by decide +kernel, by decide +kernel⟩
theorem hwX7_transmissions : xmv yX7_transmissions cX7_transmissions 2 (some .int) 1 := ⟨mq_940, mq_941, mq_63, mq_942, by decide +kernel, by decide +kernel, by decide +kernel⟩
theorem hwX7_entry : xmv yX7_entry cX7_entry 3 (some .int) 2 := ⟨mq_944, mq_945, mq_63, mq_946, by decide +kernel, by decide +kernel, by decide +kernel⟩
theorem hwX7_count : xmv yX7_count cX7_count 2 (some .int) 1 := ⟨mq_948, mq_949, mq_63, mq_950, by decide +kernel, by decide +kernel, by decide +kernel⟩
theorem hwX7_save : xmv yX7_save cX7_save 3 (some .int) 1 := ⟨mq_952, mq_953, mq_63, mq_954, by decide +kernel, by decide +kernel, by decide +kernel⟩
theorem hwX7_restore : xmv yX7_restore cX7_restore 3 (some .int) 1 := ⟨mq_956, mq_957, mq_63, mq_958, by decide +kernel, by decide +kernel, by decide +kernel⟩
end
section
def fX3_isBridgeUp (M : xM) (p1 : Int32) : Option (Int32) :=
  xrd 8 (M.1 2) p1 fun x1 =>
  if x1 = 1 then
    some 1
  else
    some 0
def fX3_isActive (M : xM) (p1 : Int32) : Option (Int32) :=
  xrd 24 (M.1 6) p1 fun x1 =>
  if x1 = 1 then
    xrd 24 (M.1 3) p1 fun x2 =>
    (fX3_isBridgeUp M x2).bind fun z3 =>
    if z3 = 0 then
      some 0
    else
      some 1
  else
    some 0
def fX3_storesMessage (M : xM) (p1 : Int32) : Option (Int32) :=
  xrd 24 (M.1 10) p1 fun x1 =>
  if x1 ≤ 0 then
    some 0
  else
    some 1
def fX2_senderOf (M : xM) (p1 : Int64) : Option (Int32) :=
  some (((p1 >>> ((8 : Int32).toInt64 &&& 63)) &&& 255 : Int64).toInt32)
def fX3_identifierOf (M : xM) (p1 : Int32) : Option (Int32) :=
  xrd 8 (M.1 1) p1 fun x1 =>
  some ((16 * x1) + p1)
def fX0_isFromOwnBridge (M : xM) (p1 : Int32) : Option (Int32) :=
  xrd 24 (M.2 9) p1 fun x1 =>
  (fX2_senderOf M x1).bind fun z2 =>
  xrd 24 (M.1 3) p1 fun x3 =>
  (fX3_identifierOf M x3).bind fun z4 =>
  if z2 = z4 then
    some 1
  else
    some 0
def fX0_hasOffer (M : xM) (p1 : Int32) : Option (Int32) :=
  (fX3_isActive M p1).bind fun z1 =>
  if z1 = 0 then
    some 0
  else
    (fX3_storesMessage M p1).bind fun z2 =>
    if z2 = 0 then
      some 0
    else
      (fX0_isFromOwnBridge M p1).bind fun z3 =>
      if z3 = 0 then
        some 1
      else
        some 0
def fX2_withCostAdded (M : xM) (p1 : Int64) (p2 : Int32) : Option (Int64) :=
  some (p1 + (((p2 : Int32).toInt64) <<< ((16 : Int32).toInt64 &&& 63)))
def fX0_considerOffer_j53 (M : xM) (v1 : Int32) (v2 : Int32) (v3 : Int64) : Option (xM) :=
  xwJ 8 M 20 v2 v3 fun M6 =>
  xwI 8 M6 21 v2 v1 fun M7 =>
  some M7
def fX0_considerOffer (M : xM) (p1 : Int32) : Option (xM) :=
  xrd 24 (M.1 3) p1 fun x1 =>
  xrd 24 (M.2 9) p1 fun x2 =>
  xrd 24 (M.1 5) p1 fun x3 =>
  (fX2_withCostAdded M x2 x3).bind fun z4 =>
  xrd 8 (M.1 21) x1 fun x5 =>
  if x5 = ((-1)) then
    fX0_considerOffer_j53 M p1 x1 z4
  else
    xrd 8 (M.2 20) x1 fun x8 =>
    if 0 ≤ (lg_cmp z4 x8) then
      some M
    else
      fX0_considerOffer_j53 M p1 x1 z4
def fX0_findBestOffers_B2  (k26 : xM → Option (xM)) (M : xM) (v1 : Int32) (b2 : xM → Int32 → Option (xM)) : Option (xM) :=
  if (M.1 0 0) ≤ v1 then
    k26 M
  else
    xwI 8 M 21 v1 ((-1)) fun M1 =>
    b2 M1 (v1 + 1)
def fX0_findBestOffers_L2  (k26 : xM → Option (xM)) : Nat → xM → Int32 → Option (xM)
  | 0, _, _ => none
  | n + 1, M, v1 => fX0_findBestOffers_B2 k26 M v1 (fun M v1 => fX0_findBestOffers_L2 k26 n M v1)
def fX0_findBestOffers_B28  (k58 : xM → Option (xM)) (M : xM) (v1 : Int32) (b28 : xM → Int32 → Option (xM)) : Option (xM) :=
  if (M.1 0 2) ≤ v1 then
    k58 M
  else
    (fX0_hasOffer M v1).bind fun z3 =>
    if z3 = 0 then
      b28 M (v1 + 1)
    else
      (fX0_considerOffer M v1).bind fun z4 =>
      b28 z4 (v1 + 1)
def fX0_findBestOffers_L28  (k58 : xM → Option (xM)) : Nat → xM → Int32 → Option (xM)
  | 0, _, _ => none
  | n + 1, M, v1 => fX0_findBestOffers_B28 k58 M v1 (fun M v1 => fX0_findBestOffers_L28 k58 n M v1)
def fX0_findBestOffers (M : xM) : Option (xM) :=
  fX0_findBestOffers_L2 (fun M2 => 
  fX0_findBestOffers_L28 (fun M5 => 
  some M5) 512 M2 0) 512 M 0
def fX2_rootOf (M : xM) (p1 : Int64) : Option (Int32) :=
  some ((p1 >>> ((40 : Int32).toInt64 &&& 63) : Int64).toInt32)
def fX2_costOf (M : xM) (p1 : Int64) : Option (Int32) :=
  some (((p1 >>> ((16 : Int32).toInt64 &&& 63)) &&& 16777215 : Int64).toInt32)
def fX0_chooseRoot_j74 (M : xM) (v1 : Int32) (v2 : Int32) : Option (xM) :=
  xwI 8 M 16 v1 v2 fun M3 =>
  xwI 8 M3 17 v1 0 fun M4 =>
  xwI 8 M4 18 v1 ((-1)) fun M5 =>
  some M5
def fX0_chooseRoot (M : xM) (p1 : Int32) : Option (xM) :=
  (fX3_identifierOf M p1).bind fun z1 =>
  xrd 8 (M.1 21) p1 fun x2 =>
  if x2 = ((-1)) then
    fX0_chooseRoot_j74 M p1 z1
  else
    xrd 8 (M.2 20) p1 fun x6 =>
    (fX2_rootOf M x6).bind fun z7 =>
    if z1 ≤ z7 then
      fX0_chooseRoot_j74 M p1 z1
    else
      xrd 8 (M.2 20) p1 fun x8 =>
      (fX2_rootOf M x8).bind fun z9 =>
      xwI 8 M 16 p1 z9 fun M10 =>
      xrd 8 (M10.2 20) p1 fun x11 =>
      (fX2_costOf M10 x11).bind fun z12 =>
      xwI 8 M10 17 p1 z12 fun M13 =>
      xwI 8 M13 18 p1 x2 fun M14 =>
      some M14
def fX2_of (M : xM) (p1 : Int32) (p2 : Int32) (p3 : Int32) (p4 : Int32) : Option (Int64) :=
  some ((((((p1 : Int32).toInt64) <<< ((40 : Int32).toInt64 &&& 63)) ||| (((p2 : Int32).toInt64) <<< ((16 : Int32).toInt64 &&& 63))) ||| (((p3 : Int32).toInt64) <<< ((8 : Int32).toInt64 &&& 63))) ||| ((p4 : Int32).toInt64))
def fX0_ownMessage (M : xM) (p1 : Int32) : Option (Int64) :=
  xrd 24 (M.1 3) p1 fun x1 =>
  xrd 8 (M.1 16) x1 fun x2 =>
  xrd 8 (M.1 17) x1 fun x3 =>
  (fX3_identifierOf M x1).bind fun z4 =>
  (fX2_of M x2 x3 z4 p1).bind fun z5 =>
  some z5
def fX0_roleFor (M : xM) (p1 : Int32) : Option (Int32) :=
  (fX3_isActive M p1).bind fun z1 =>
  if z1 = 0 then
    some 0
  else
    xrd 24 (M.1 3) p1 fun x2 =>
    xrd 8 (M.1 18) x2 fun x3 =>
    if x3 = p1 then
      some 1
    else
      (fX3_storesMessage M p1).bind fun z4 =>
      if z4 = 0 then
        some 2
      else
        (fX0_ownMessage M p1).bind fun z5 =>
        xrd 24 (M.2 9) p1 fun x6 =>
        if 0 ≤ (lg_cmp z5 x6) then
          (fX0_isFromOwnBridge M p1).bind fun z7 =>
          if z7 = 0 then
            some 3
          else
            some 4
        else
          some 2
def fX0_elect_B6  (k28 : xM → Option (Int32 × xM)) (M : xM) (v1 : Int32) (b6 : xM → Int32 → Option (Int32 × xM)) : Option (Int32 × xM) :=
  if (M.1 0 0) ≤ v1 then
    k28 M
  else
    (fX0_chooseRoot M v1).bind fun z2 =>
    b6 z2 (v1 + 1)
def fX0_elect_L6  (k28 : xM → Option (Int32 × xM)) : Nat → xM → Int32 → Option (Int32 × xM)
  | 0, _, _ => none
  | n + 1, M, v1 => fX0_elect_B6 k28 M v1 (fun M v1 => fX0_elect_L6 k28 n M v1)
def fX0_elect_j68 (M : xM) (v2 : Int32) (v3 : Int32) (s0 : Int32) (b32 : xM → Int32 → Int32 → Option (Int32 × xM)) : Option (Int32 × xM) :=
  xwI 24 M 19 v2 v3 fun M5 =>
  b32 M5 s0 (v2 + 1)
def fX0_elect_B32  (k82 : xM → Int32 → Option (Int32 × xM)) (M : xM) (v1 : Int32) (v2 : Int32) (b32 : xM → Int32 → Int32 → Option (Int32 × xM)) : Option (Int32 × xM) :=
  if (M.1 0 2) ≤ v2 then
    k82 M v1
  else
    (fX0_roleFor M v2).bind fun z4 =>
    if v1 = 0 then
      xrd 24 (M.1 19) v2 fun x6 =>
      if z4 = x6 then
        fX0_elect_j68 M v2 z4 0 b32
      else
        fX0_elect_j68 M v2 z4 1 b32
    else
      fX0_elect_j68 M v2 z4 1 b32
def fX0_elect_L32  (k82 : xM → Int32 → Option (Int32 × xM)) : Nat → xM → Int32 → Int32 → Option (Int32 × xM)
  | 0, _, _, _ => none
  | n + 1, M, v1, v2 => fX0_elect_B32 k82 M v1 v2 (fun M v1 v2 => fX0_elect_L32 k82 n M v1 v2)
def fX0_elect (M : xM) : Option (Int32 × xM) :=
  (fX0_findBestOffers M).bind fun z1 =>
  fX0_elect_L6 (fun M3 => 
  fX0_elect_L32 (fun M8 v7 => 
  xzb v7 (some (v7, M8))) 512 M3 0 0) 512 z1 0
def fX1_transmit (M : xM) (p1 : Int32) (p2 : Int32) : Option (xM) :=
  if (M.1 27 0) < 64 then
    xwI 64 M 28 (M.1 27 0) p1 fun M1 =>
    xwI 64 M1 29 (M1.1 27 0) p2 fun M2 =>
    xpf M2 27 0 ((M2.1 27 0) + 1) fun M3 =>
    xrd 10 (M3.1 14) p1 fun x4 =>
    xwI 10 M3 14 p1 (x4 + 1) fun M5 =>
    some M5
  else
    some M
def fX3_entryIndex (M : xM) (p1 : Int32) (p2 : Int32) : Option (Int32) :=
  some ((p1 * 8) + p2)
def fX3_learn (M : xM) (p1 : Int32) (p2 : Int32) : Option (xM) :=
  xrd 24 (M.1 3) p2 fun x1 =>
  (fX3_entryIndex M x1 p1).bind fun z2 =>
  xwI 64 M 12 z2 p2 fun M3 =>
  xwI 64 M3 13 z2 10 fun M4 =>
  some M4
def fX3_learnedPort (M : xM) (p1 : Int32) (p2 : Int32) : Option (Int32) :=
  (fX3_entryIndex M p1 p2).bind fun z1 =>
  xrd 64 (M.1 13) z1 fun x2 =>
  if x2 ≤ 0 then
    some ((-1))
  else
    xrd 64 (M.1 12) z1 fun x3 =>
    some x3
def fX3_isForwarding (M : xM) (p1 : Int32) : Option (Int32) :=
  xrd 24 (M.1 7) p1 fun x1 =>
  if x1 = 4 then
    some 1
  else
    some 0
def fX1_flood_B2 (v1 : Int32) (v2 : Int32) (k62 : xM → Option (xM)) (M : xM) (v3 : Int32) (b2 : xM → Int32 → Option (xM)) : Option (xM) :=
  if (M.1 0 2) ≤ v3 then
    k62 M
  else
    xrd 24 (M.1 3) v3 fun x1 =>
    if x1 = v1 then
      if v3 = v2 then
        b2 M (v3 + 1)
      else
        (fX3_isForwarding M v3).bind fun z2 =>
        if z2 = 0 then
          b2 M (v3 + 1)
        else
          xrd 24 (M.1 4) v3 fun x3 =>
          (fX1_transmit M x3 v3).bind fun z4 =>
          b2 z4 (v3 + 1)
    else
      b2 M (v3 + 1)
def fX1_flood_L2 (v1 : Int32) (v2 : Int32) (k62 : xM → Option (xM)) : Nat → xM → Int32 → Option (xM)
  | 0, _, _ => none
  | n + 1, M, v3 => fX1_flood_B2 v1 v2 k62 M v3 (fun M v3 => fX1_flood_L2 v1 v2 k62 n M v3)
def fX1_flood (M : xM) (p1 : Int32) (p2 : Int32) : Option (xM) :=
  fX1_flood_L2 p1 p2 (fun M5 => 
  some M5) 512 M 0
def fX1_passOn_j48 (M : xM) (v1 : Int32) (v3 : Int32) : Option (xM) :=
  (fX1_flood M v3 v1).bind fun z3 =>
  some z3
def fX1_passOn_j28 (M : xM) (v1 : Int32) (v3 : Int32) (s0 : Int32) : Option (xM) :=
  if s0 = ((-1)) then
    fX1_passOn_j48 M v1 v3
  else
    (fX3_isForwarding M s0).bind fun z4 =>
    if z4 = 0 then
      fX1_passOn_j48 M v1 v3
    else
      if s0 = v1 then
        some M
      else
        xrd 24 (M.1 4) s0 fun x5 =>
        (fX1_transmit M x5 s0).bind fun z6 =>
        some z6
def fX1_passOn (M : xM) (p1 : Int32) (p2 : Int32) : Option (xM) :=
  xrd 24 (M.1 3) p1 fun x1 =>
  if p2 = ((-1)) then
    fX1_passOn_j28 M p1 x1 ((-1))
  else
    (fX3_learnedPort M x1 p2).bind fun z2 =>
    fX1_passOn_j28 M p1 x1 z2
def fX1_visitPort_j32 (M : xM) (v1 : Int32) (v3 : Int32) (v4 : Int32) : Option (xM) :=
  if v4 = 4 then
    (fX1_passOn M v1 v3).bind fun z3 =>
    some z3
  else
    some M
def fX1_visitPort_j23 (M : xM) (v1 : Int32) (v2 : Int32) (v3 : Int32) (v4 : Int32) : Option (xM) :=
  (fX3_learn M v2 v1).bind fun z2 =>
  fX1_visitPort_j32 z2 v1 v3 v4
def fX1_visitPort (M : xM) (p1 : Int32) (p2 : Int32) (p3 : Int32) : Option (xM) :=
  xrd 24 (M.1 7) p1 fun x1 =>
  if x1 = 3 then
    fX1_visitPort_j23 M p1 p2 p3 x1
  else
    if x1 = 4 then
      fX1_visitPort_j23 M p1 p2 p3 x1
    else
      fX1_visitPort_j32 M p1 p3 x1
def fX1_visitPorts_B3 (v1 : Int32) (v2 : Int32) (v3 : Int32) (v4 : Int32) (k62 : xM → Option (xM)) (M : xM) (v5 : Int32) (b3 : xM → Int32 → Option (xM)) : Option (xM) :=
  if (M.1 0 2) ≤ v5 then
    k62 M
  else
    xrd 24 (M.1 4) v5 fun x1 =>
    if x1 = v1 then
      if v5 = v2 then
        b3 M (v5 + 1)
      else
        (fX3_isActive M v5).bind fun z2 =>
        if z2 = 0 then
          b3 M (v5 + 1)
        else
          (fX1_visitPort M v5 v3 v4).bind fun z3 =>
          b3 z3 (v5 + 1)
    else
      b3 M (v5 + 1)
def fX1_visitPorts_L3 (v1 : Int32) (v2 : Int32) (v3 : Int32) (v4 : Int32) (k62 : xM → Option (xM)) : Nat → xM → Int32 → Option (xM)
  | 0, _, _ => none
  | n + 1, M, v5 => fX1_visitPorts_B3 v1 v2 v3 v4 k62 M v5 (fun M v5 => fX1_visitPorts_L3 v1 v2 v3 v4 k62 n M v5)
def fX1_visitPorts (M : xM) (p1 : Int32) (p2 : Int32) (p3 : Int32) (p4 : Int32) : Option (xM) :=
  fX1_visitPorts_L3 p1 p2 p3 p4 (fun M4 => 
  some M4) 512 M 0
def fX1_deliver_B7 (v1 : Int32) (v2 : Int32) (k29 : xM → Option (Int32 × xM)) (M : xM) (v3 : Int32) (b7 : xM → Int32 → Option (Int32 × xM)) : Option (Int32 × xM) :=
  if 10 ≤ v3 then
    k29 M
  else
    xwI 10 M 14 v3 0 fun M2 =>
    b7 M2 (v3 + 1)
def fX1_deliver_L7 (v1 : Int32) (v2 : Int32) (k29 : xM → Option (Int32 × xM)) : Nat → xM → Int32 → Option (Int32 × xM)
  | 0, _, _ => none
  | n + 1, M, v3 => fX1_deliver_B7 v1 v2 k29 M v3 (fun M v3 => fX1_deliver_L7 v1 v2 k29 n M v3)
def fX1_deliver_B45 (v1 : Int32) (v2 : Int32) (k83 : xM → Option (Int32 × xM)) (M : xM) (v3 : Int32) (b45 : xM → Int32 → Option (Int32 × xM)) : Option (Int32 × xM) :=
  if (M.1 27 0) ≤ v3 then
    k83 M
  else
    if 64 ≤ v3 then
      k83 M
    else
      xrd 64 (M.1 28) v3 fun x6 =>
      xrd 64 (M.1 29) v3 fun x7 =>
      (fX1_visitPorts M x6 x7 v1 v2).bind fun z8 =>
      b45 z8 (v3 + 1)
def fX1_deliver_L45 (v1 : Int32) (v2 : Int32) (k83 : xM → Option (Int32 × xM)) : Nat → xM → Int32 → Option (Int32 × xM)
  | 0, _, _ => none
  | n + 1, M, v3 => fX1_deliver_B45 v1 v2 k83 M v3 (fun M v3 => fX1_deliver_L45 v1 v2 k83 n M v3)
def fX1_deliver_j83 (M : xM) : Option (Int32 × xM) :=
  some (M.1 27 0, M)
def fX1_deliver (M : xM) (p1 : Int32) (p2 : Int32) : Option (Int32 × xM) :=
  xpf M 27 0 0 fun M1 =>
  fX1_deliver_L7 p1 p2 (fun M3 => 
  xrd 8 (M3.1 11) p1 fun x4 =>
  (fX1_transmit M3 x4 ((-1))).bind fun z5 =>
  fX1_deliver_L45 p1 p2 (fun M9 => 
  fX1_deliver_j83 M9) 512 z5 0) 512 M1 0
def fX2_senderPortOf (M : xM) (p1 : Int64) : Option (Int32) :=
  some ((p1 &&& 255 : Int64).toInt32)
def fX2_haveSameSource (M : xM) (p1 : Int64) (p2 : Int64) : Option (Int32) :=
  if (lg_cmp (p1 &&& 65535) (p2 &&& 65535)) = 0 then
    some 1
  else
    some 0
def fX3_hasBridge (M : xM) (p1 : Int32) : Option (Int32) :=
  if p1 < 0 then
    some 0
  else
    if (M.1 0 0) ≤ p1 then
      some 0
    else
      some 1
def fX3_hasSegment (M : xM) (p1 : Int32) : Option (Int32) :=
  if p1 < 0 then
    some 0
  else
    if (M.1 0 1) ≤ p1 then
      some 0
    else
      some 1
def fX3_hasPort (M : xM) (p1 : Int32) : Option (Int32) :=
  if p1 < 0 then
    some 0
  else
    if (M.1 0 2) ≤ p1 then
      some 0
    else
      some 1
def fX3_hasStation (M : xM) (p1 : Int32) : Option (Int32) :=
  if p1 < 0 then
    some 0
  else
    if (M.1 0 3) ≤ p1 then
      some 0
    else
      some 1
def fX3_appendBridge (M : xM) (p1 : Int32) : Option (Int32 × xM) :=
  xwI 8 M 1 (M.1 0 0) p1 fun M1 =>
  xwI 8 M1 2 (M.1 0 0) 1 fun M2 =>
  xpf M2 0 0 ((M2.1 0 0) + 1) fun M3 =>
  some (M.1 0 0, M3)
def fX3_appendSegment (M : xM) : Option (Int32 × xM) :=
  xpf M 0 1 ((M.1 0 1) + 1) fun M1 =>
  some (M.1 0 1, M1)
def fX3_appendPort_j57 (M : xM) (v4 : Int32) (s0 : Int32) (s1 : Int32) : Option (Int32 × xM) :=
  xwI 24 M 7 s1 s0 fun M6 =>
  xpf M6 0 2 ((M6.1 0 2) + 1) fun M7 =>
  some (v4, M7)
def fX3_appendPort (M : xM) (p1 : Int32) (p2 : Int32) (p3 : Int32) : Option (Int32 × xM) :=
  xwI 24 M 3 (M.1 0 2) p1 fun M1 =>
  xwI 24 M1 4 (M.1 0 2) p2 fun M2 =>
  xwI 24 M2 5 (M.1 0 2) p3 fun M3 =>
  xwI 24 M3 6 (M.1 0 2) 1 fun M4 =>
  (fX3_isBridgeUp M4 p1).bind fun z5 =>
  if z5 = 0 then
    fX3_appendPort_j57 M4 (M.1 0 2) 0 (M.1 0 2)
  else
    fX3_appendPort_j57 M4 (M.1 0 2) 1 (M.1 0 2)
def fX3_appendStation (M : xM) (p1 : Int32) : Option (Int32 × xM) :=
  xwI 8 M 11 (M.1 0 3) p1 fun M1 =>
  xpf M1 0 3 ((M1.1 0 3) + 1) fun M2 =>
  some (M.1 0 3, M2)
def fX3_forgetEntriesWith_B2 (v1 : Int32) (k34 : xM → Option (xM)) (M : xM) (v2 : Int32) (b2 : xM → Int32 → Option (xM)) : Option (xM) :=
  if 64 ≤ v2 then
    k34 M
  else
    xrd 64 (M.1 12) v2 fun x1 =>
    if x1 = v1 then
      xwI 64 M 13 v2 0 fun M2 =>
      b2 M2 (v2 + 1)
    else
      b2 M (v2 + 1)
def fX3_forgetEntriesWith_L2 (v1 : Int32) (k34 : xM → Option (xM)) : Nat → xM → Int32 → Option (xM)
  | 0, _, _ => none
  | n + 1, M, v2 => fX3_forgetEntriesWith_B2 v1 k34 M v2 (fun M v2 => fX3_forgetEntriesWith_L2 v1 k34 n M v2)
def fX3_forgetEntriesWith (M : xM) (p1 : Int32) : Option (xM) :=
  fX3_forgetEntriesWith_L2 p1 (fun M3 => 
  some M3) 512 M 0
def fX3_resetPort (M : xM) (p1 : Int32) : Option (xM) :=
  xwI 24 M 10 p1 0 fun M1 =>
  xwI 24 M1 8 p1 0 fun M2 =>
  (fX3_isActive M2 p1).bind fun z3 =>
  if z3 = 0 then
    xwI 24 M2 7 p1 0 fun M4 =>
    (fX3_forgetEntriesWith M4 p1).bind fun z5 =>
    some z5
  else
    xwI 24 M2 7 p1 1 fun M6 =>
    some M6
def fX3_switchBridge_B17 (v1 : Int32) (v2 : Int32) (v3 : Int32) (k65 : xM → Option (Int32 × xM)) (M : xM) (v4 : Int32) (b17 : xM → Int32 → Option (Int32 × xM)) : Option (Int32 × xM) :=
  if (M.1 0 2) ≤ v4 then
    k65 M
  else
    if v3 = v2 then
      b17 M (v4 + 1)
    else
      xrd 24 (M.1 3) v4 fun x3 =>
      if x3 = v1 then
        xrd 24 (M.1 6) v4 fun x4 =>
        if x4 = 1 then
          (fX3_resetPort M v4).bind fun z5 =>
          b17 z5 (v4 + 1)
        else
          b17 M (v4 + 1)
      else
        b17 M (v4 + 1)
def fX3_switchBridge_L17 (v1 : Int32) (v2 : Int32) (v3 : Int32) (k65 : xM → Option (Int32 × xM)) : Nat → xM → Int32 → Option (Int32 × xM)
  | 0, _, _ => none
  | n + 1, M, v4 => fX3_switchBridge_B17 v1 v2 v3 k65 M v4 (fun M v4 => fX3_switchBridge_L17 v1 v2 v3 k65 n M v4)
def fX3_switchBridge (M : xM) (p1 : Int32) (p2 : Int32) : Option (Int32 × xM) :=
  xrd 8 (M.1 2) p1 fun x1 =>
  xwI 8 M 2 p1 p2 fun M2 =>
  fX3_switchBridge_L17 p1 p2 x1 (fun M6 => 
  some (x1, M6)) 512 M2 0
def fX3_switchPort (M : xM) (p1 : Int32) (p2 : Int32) : Option (Int32 × xM) :=
  xrd 24 (M.1 6) p1 fun x1 =>
  xwI 24 M 6 p1 p2 fun M2 =>
  if x1 = p2 then
    some (x1, M2)
  else
    xrd 24 (M2.1 3) p1 fun x3 =>
    (fX3_isBridgeUp M2 x3).bind fun z4 =>
    if z4 = 0 then
      some (x1, M2)
    else
      (fX3_resetPort M2 p1).bind fun z5 =>
      some (x1, z5)
def fX3_ageEntries_B2  (k36 : xM → Option (xM)) (M : xM) (v1 : Int32) (b2 : xM → Int32 → Option (xM)) : Option (xM) :=
  if 64 ≤ v1 then
    k36 M
  else
    xrd 64 (M.1 13) v1 fun x1 =>
    if x1 ≤ 0 then
      b2 M (v1 + 1)
    else
      xrd 64 (M.1 13) v1 fun x2 =>
      xwI 64 M 13 v1 (x2 - 1) fun M3 =>
      b2 M3 (v1 + 1)
def fX3_ageEntries_L2  (k36 : xM → Option (xM)) : Nat → xM → Int32 → Option (xM)
  | 0, _, _ => none
  | n + 1, M, v1 => fX3_ageEntries_B2 k36 M v1 (fun M v1 => fX3_ageEntries_L2 k36 n M v1)
def fX3_ageEntries (M : xM) : Option (xM) :=
  fX3_ageEntries_L2 (fun M4 => 
  some M4) 512 M 0
def fX3_ageMessage (M : xM) (p1 : Int32) : Option (xM) :=
  xrd 24 (M.1 10) p1 fun x1 =>
  if x1 ≤ 0 then
    some M
  else
    xrd 24 (M.1 10) p1 fun x2 =>
    xwI 24 M 10 p1 (x2 - 1) fun M3 =>
    some M3
def fX4_ageToSend (M : xM) (p1 : Int32) : Option (Int32) :=
  xrd 24 (M.1 3) p1 fun x1 =>
  xrd 8 (M.1 18) x1 fun x2 =>
  if x2 = ((-1)) then
    some 0
  else
    xrd 24 (M.1 10) x2 fun x3 =>
    some (7 - x3)
def fX4_isBetterSender (M : xM) (p1 : Int32) (p2 : Int32) : Option (Int32) :=
  if p2 = ((-1)) then
    some 1
  else
    xrd 24 (M.2 23) p1 fun x1 =>
    xrd 24 (M.2 23) p2 fun x2 =>
    if 0 ≤ (lg_cmp x1 x2) then
      some 0
    else
      some 1
def fX4_rankSender (M : xM) (p1 : Int32) : Option (xM) :=
  xrd 24 (M.1 4) p1 fun x1 =>
  xrd 10 (M.1 25) x1 fun x2 =>
  (fX4_isBetterSender M p1 x2).bind fun z3 =>
  if z3 = 0 then
    xrd 10 (M.1 26) x1 fun x4 =>
    (fX4_isBetterSender M p1 x4).bind fun z5 =>
    if z5 = 0 then
      some M
    else
      xwI 10 M 26 x1 p1 fun M6 =>
      some M6
  else
    xrd 10 (M.1 25) x1 fun x7 =>
    xwI 10 M 26 x1 x7 fun M8 =>
    xwI 10 M8 25 x1 p1 fun M9 =>
    some M9
def fX4_sendMessages_B2  (k33 : xM → Option (xM)) (M : xM) (v1 : Int32) (b2 : xM → Int32 → Option (xM)) : Option (xM) :=
  if (M.1 0 1) ≤ v1 then
    k33 M
  else
    xwI 10 M 25 v1 ((-1)) fun M1 =>
    xwI 10 M1 26 v1 ((-1)) fun M2 =>
    b2 M2 (v1 + 1)
def fX4_sendMessages_L2  (k33 : xM → Option (xM)) : Nat → xM → Int32 → Option (xM)
  | 0, _, _ => none
  | n + 1, M, v1 => fX4_sendMessages_B2 k33 M v1 (fun M v1 => fX4_sendMessages_L2 k33 n M v1)
def fX4_sendMessages_B35  (k102 : xM → Option (xM)) (M : xM) (v1 : Int32) (b35 : xM → Int32 → Option (xM)) : Option (xM) :=
  if (M.1 0 2) ≤ v1 then
    k102 M
  else
    (fX4_ageToSend M v1).bind fun z4 =>
    xrd 24 (M.1 19) v1 fun x5 =>
    if x5 = 2 then
      if 5 < z4 then
        b35 M (v1 + 1)
      else
        (fX0_ownMessage M v1).bind fun z6 =>
        xwJ 24 M 23 v1 z6 fun M7 =>
        xwI 24 M7 24 v1 z4 fun M8 =>
        (fX4_rankSender M8 v1).bind fun z9 =>
        b35 z9 (v1 + 1)
    else
      b35 M (v1 + 1)
def fX4_sendMessages_L35  (k102 : xM → Option (xM)) : Nat → xM → Int32 → Option (xM)
  | 0, _, _ => none
  | n + 1, M, v1 => fX4_sendMessages_B35 k102 M v1 (fun M v1 => fX4_sendMessages_L35 k102 n M v1)
def fX4_sendMessages (M : xM) : Option (xM) :=
  fX4_sendMessages_L2 (fun M3 => 
  fX4_sendMessages_L35 (fun M10 => 
  some M10) 512 M3 0) 512 M 0
def fX4_accepts (M : xM) (p1 : Int32) (p2 : Int64) : Option (Int32) :=
  (fX3_storesMessage M p1).bind fun z1 =>
  if z1 = 0 then
    some 1
  else
    xrd 24 (M.2 9) p1 fun x2 =>
    if (lg_cmp p2 x2) ≤ 0 then
      some 1
    else
      (fX2_haveSameSource M p2 x2).bind fun z3 =>
      if z3 = 0 then
        some 0
      else
        some 1
def fX4_takesMessage_j48 (M : xM) (v1 : Int32) (s0 : Int32) : Option (Int32 × xM) :=
  if s0 = ((-1)) then
    some (0, M)
  else
    xrd 24 (M.2 23) s0 fun x5 =>
    (fX4_accepts M v1 x5).bind fun z6 =>
    if z6 = 0 then
      some (0, M)
    else
      xrd 24 (M.2 23) s0 fun x7 =>
      xwJ 24 M 9 v1 x7 fun M8 =>
      xrd 24 (M8.1 24) s0 fun x9 =>
      xwI 24 M8 10 v1 (6 - x9) fun M10 =>
      some (1, M10)
def fX4_takesMessage (M : xM) (p1 : Int32) : Option (Int32 × xM) :=
  (fX3_isActive M p1).bind fun z1 =>
  if z1 = 0 then
    some (0, M)
  else
    xrd 24 (M.1 4) p1 fun x2 =>
    xrd 10 (M.1 25) x2 fun x3 =>
    if x3 = p1 then
      xrd 10 (M.1 26) x2 fun x11 =>
      fX4_takesMessage_j48 M p1 x11
    else
      xrd 10 (M.1 25) x2 fun x4 =>
      fX4_takesMessage_j48 M p1 x4
def fX4_enterState (M : xM) (p1 : Int32) (p2 : Int32) (p3 : Int32) : Option (xM) :=
  xwI 24 M 7 p1 p2 fun M1 =>
  xwI 24 M1 8 p1 p3 fun M2 =>
  some M2
def fX4_moveTowardsForwarding_j75 (M : xM) (s0 : Int32) (s1 : Int32) (s2 : Int32) : Option (xM) :=
  (fX4_enterState M s2 s1 s0).bind fun z5 =>
  some z5
def fX4_moveTowardsForwarding_j35 (M : xM) (v1 : Int32) (v2 : Int32) : Option (xM) :=
  xrd 24 (M.1 8) v1 fun x2 =>
  xwI 24 M 8 v1 (x2 - 1) fun M3 =>
  xrd 24 (M3.1 8) v1 fun x4 =>
  if 0 < x4 then
    some M3
  else
    if v2 = 2 then
      fX4_moveTowardsForwarding_j75 M3 2 (v2 + 1) v1
    else
      fX4_moveTowardsForwarding_j75 M3 0 (v2 + 1) v1
def fX4_moveTowardsForwarding (M : xM) (p1 : Int32) : Option (xM) :=
  xrd 24 (M.1 7) p1 fun x1 =>
  if x1 = 1 then
    (fX4_enterState M p1 2 2).bind fun z6 =>
    some z6
  else
    if x1 = 2 then
      fX4_moveTowardsForwarding_j35 M p1 x1
    else
      if x1 = 3 then
        fX4_moveTowardsForwarding_j35 M p1 x1
      else
        some M
def fX4_moveState_j10 (M : xM) (v1 : Int32) : Option (xM) :=
  (fX4_enterState M v1 1 0).bind fun z1 =>
  some z1
def fX4_moveState_j30 (M : xM) (v1 : Int32) : Option (xM) :=
  (fX4_moveTowardsForwarding M v1).bind fun z2 =>
  some z2
def fX4_moveState (M : xM) (p1 : Int32) (p2 : Int32) : Option (xM) :=
  if p2 = 3 then
    fX4_moveState_j10 M p1
  else
    if p2 = 4 then
      fX4_moveState_j10 M p1
    else
      if p2 = 1 then
        fX4_moveState_j30 M p1
      else
        if p2 = 2 then
          fX4_moveState_j30 M p1
        else
          some M
def fX4_moveStates_j61 (M : xM) (v2 : Int32) (s0 : Int32) (b4 : xM → Int32 → Int32 → Option (Int32 × xM)) : Option (Int32 × xM) :=
  b4 M s0 (v2 + 1)
def fX4_moveStates_B4  (k68 : xM → Int32 → Option (Int32 × xM)) (M : xM) (v1 : Int32) (v2 : Int32) (b4 : xM → Int32 → Int32 → Option (Int32 × xM)) : Option (Int32 × xM) :=
  if (M.1 0 2) ≤ v2 then
    k68 M v1
  else
    xrd 24 (M.1 7) v2 fun x1 =>
    xrd 24 (M.1 19) v2 fun x2 =>
    (fX4_moveState M v2 x2).bind fun z3 =>
    if v1 = 0 then
      xrd 24 (z3.1 7) v2 fun x4 =>
      if x4 = x1 then
        fX4_moveStates_j61 z3 v2 0 b4
      else
        fX4_moveStates_j61 z3 v2 1 b4
    else
      fX4_moveStates_j61 z3 v2 1 b4
def fX4_moveStates_L4  (k68 : xM → Int32 → Option (Int32 × xM)) : Nat → xM → Int32 → Int32 → Option (Int32 × xM)
  | 0, _, _, _ => none
  | n + 1, M, v1, v2 => fX4_moveStates_B4 k68 M v1 v2 (fun M v1 v2 => fX4_moveStates_L4 k68 n M v1 v2)
def fX4_moveStates (M : xM) : Option (Int32 × xM) :=
  fX4_moveStates_L4 (fun M6 v5 => 
  xzb v5 (some (v5, M6))) 512 M 0 0
def fX4_makeTick_B6  (k39 : xM → Option (Int32 × xM)) (M : xM) (v1 : Int32) (b6 : xM → Int32 → Option (Int32 × xM)) : Option (Int32 × xM) :=
  if (M.1 0 2) ≤ v1 then
    k39 M
  else
    (fX4_takesMessage M v1).bind fun z2 =>
    if z2.1 = 0 then
      (fX3_ageMessage z2.2 v1).bind fun z3 =>
      b6 z3 (v1 + 1)
    else
      b6 z2.2 (v1 + 1)
def fX4_makeTick_L6  (k39 : xM → Option (Int32 × xM)) : Nat → xM → Int32 → Option (Int32 × xM)
  | 0, _, _ => none
  | n + 1, M, v1 => fX4_makeTick_B6 k39 M v1 (fun M v1 => fX4_makeTick_L6 k39 n M v1)
def fX4_makeTick (M : xM) : Option (Int32 × xM) :=
  (fX4_sendMessages M).bind fun z1 =>
  fX4_makeTick_L6 (fun M4 => 
  (fX0_elect M4).bind fun z5 =>
  (fX4_moveStates z5.2).bind fun z6 =>
  (fX3_ageEntries z6.2).bind fun z7 =>
  xpf z7 0 4 ((z7.1 0 4) + 1) fun M8 =>
  if z5.1 = 0 then
    if z6.1 = 0 then
      some (0, M8)
    else
      some (1, M8)
  else
    some (1, M8)) 512 z1 0
def fX5_countVertices_B10 (M : xM)  (k41 : Int32 → Option (Int32)) (v1 : Int32) (v2 : Int32) (b10 : Int32 → Int32 → Option (Int32)) : Option (Int32) :=
  if (M.1 0 0) ≤ v2 then
    k41 v1
  else
    (fX3_isBridgeUp M v2).bind fun z1 =>
    if z1 = 0 then
      b10 v1 (v2 + 1)
    else
      b10 (v1 + 1) (v2 + 1)
def fX5_countVertices_L10 (M : xM)  (k41 : Int32 → Option (Int32)) : Nat → Int32 → Int32 → Option (Int32)
  | 0, _, _ => none
  | n + 1, v1, v2 => fX5_countVertices_B10 M k41 v1 v2 (fun v1 v2 => fX5_countVertices_L10 M k41 n v1 v2)
def fX5_countVertices (M : xM) : Option (Int32) :=
  fX5_countVertices_L10 M (fun v2 => 
  some v2) 512 (M.1 0 1) 0
def fX5_join_B43 (v2 : Int32) (v3 : Int32) (k78 : xM → Option (Int32 × xM)) (M : xM) (v4 : Int32) (b43 : xM → Int32 → Option (Int32 × xM)) : Option (Int32 × xM) :=
  if 18 ≤ v4 then
    k78 M
  else
    xrd 18 (M.1 31) v4 fun x5 =>
    if x5 = v3 then
      xwI 18 M 31 v4 v2 fun M6 =>
      b43 M6 (v4 + 1)
    else
      b43 M (v4 + 1)
def fX5_join_L43 (v2 : Int32) (v3 : Int32) (k78 : xM → Option (Int32 × xM)) : Nat → xM → Int32 → Option (Int32 × xM)
  | 0, _, _ => none
  | n + 1, M, v4 => fX5_join_B43 v2 v3 k78 M v4 (fun M v4 => fX5_join_L43 v2 v3 k78 n M v4)
def fX5_join (M : xM) (p1 : Int32) : Option (Int32 × xM) :=
  xrd 24 (M.1 4) p1 fun x1 =>
  xrd 18 (M.1 31) x1 fun x2 =>
  xrd 24 (M.1 3) p1 fun x3 =>
  xrd 18 (M.1 31) (10 + x3) fun x4 =>
  if x2 = x4 then
    some (0, M)
  else
    fX5_join_L43 x2 x4 (fun M7 => 
  some (1, M7)) 512 M 0
def fX5_countParts_B2  (k24 : xM → Option (Int32 × xM)) (M : xM) (v1 : Int32) (b2 : xM → Int32 → Option (Int32 × xM)) : Option (Int32 × xM) :=
  if 18 ≤ v1 then
    k24 M
  else
    xwI 18 M 31 v1 v1 fun M1 =>
    b2 M1 (v1 + 1)
def fX5_countParts_L2  (k24 : xM → Option (Int32 × xM)) : Nat → xM → Int32 → Option (Int32 × xM)
  | 0, _, _ => none
  | n + 1, M, v1 => fX5_countParts_B2 k24 M v1 (fun M v1 => fX5_countParts_L2 k24 n M v1)
def fX5_countParts_B31  (k70 : xM → Int32 → Option (Int32 × xM)) (M : xM) (v1 : Int32) (v2 : Int32) (b31 : xM → Int32 → Int32 → Option (Int32 × xM)) : Option (Int32 × xM) :=
  if (M.1 0 2) ≤ v2 then
    k70 M v1
  else
    (fX3_isForwarding M v2).bind fun z4 =>
    if z4 = 0 then
      b31 M v1 (v2 + 1)
    else
      (fX5_join M v2).bind fun z5 =>
      if z5.1 = 0 then
        b31 z5.2 v1 (v2 + 1)
      else
        b31 z5.2 (v1 + (-1)) (v2 + 1)
def fX5_countParts_L31  (k70 : xM → Int32 → Option (Int32 × xM)) : Nat → xM → Int32 → Int32 → Option (Int32 × xM)
  | 0, _, _, _ => none
  | n + 1, M, v1, v2 => fX5_countParts_B31 k70 M v1 v2 (fun M v1 v2 => fX5_countParts_L31 k70 n M v1 v2)
def fX5_countParts (M : xM) : Option (Int32 × xM) :=
  fX5_countParts_L2 (fun M2 => 
  (fX5_countVertices M2).bind fun z3 =>
  fX5_countParts_L31 (fun M7 v6 => 
  some (v6, M7)) 512 M2 z3 0) 512 M 0
def fX5_countLoops_B4 (M : xM)  (k35 : Int32 → Option (Int32 × xM)) (v1 : Int32) (v2 : Int32) (b4 : Int32 → Int32 → Option (Int32 × xM)) : Option (Int32 × xM) :=
  if (M.1 0 2) ≤ v2 then
    k35 v1
  else
    (fX3_isForwarding M v2).bind fun z1 =>
    if z1 = 0 then
      b4 v1 (v2 + 1)
    else
      b4 (v1 + 1) (v2 + 1)
def fX5_countLoops_L4 (M : xM)  (k35 : Int32 → Option (Int32 × xM)) : Nat → Int32 → Int32 → Option (Int32 × xM)
  | 0, _, _ => none
  | n + 1, v1, v2 => fX5_countLoops_B4 M k35 v1 v2 (fun v1 v2 => fX5_countLoops_L4 M k35 n v1 v2)
def fX5_countLoops (M : xM) : Option (Int32 × xM) :=
  fX5_countLoops_L4 M (fun v2 => 
  (fX5_countVertices M).bind fun z3 =>
  (fX5_countParts M).bind fun z4 =>
  some ((v2 - z3) + z4.1, z4.2)) 512 0 0
def fX6_isPriority (M : xM) (p1 : Int32) : Option (Int32) :=
  if p1 < 0 then
    some 0
  else
    if 15 < p1 then
      some 0
    else
      some 1
def fX6_addBridge (M : xM) (p1 : Int32) : Option (Int32 × xM) :=
  (fX6_isPriority M p1).bind fun z1 =>
  if z1 = 0 then
    some ((-5), M)
  else
    if (M.1 0 0) < 8 then
      (fX3_appendBridge M p1).bind fun z2 =>
      some (z2.1, z2.2)
    else
      some ((-6), M)
def fX6_addSegment (M : xM) : Option (Int32 × xM) :=
  if (M.1 0 1) < 10 then
    (fX3_appendSegment M).bind fun z1 =>
    some (z1.1, z1.2)
  else
    some ((-6), M)
def fX6_isCost (M : xM) (p1 : Int32) : Option (Int32) :=
  if p1 < 1 then
    some 0
  else
    if 100 < p1 then
      some 0
    else
      some 1
def fX6_addPort (M : xM) (p1 : Int32) (p2 : Int32) (p3 : Int32) : Option (Int32 × xM) :=
  (fX3_hasBridge M p1).bind fun z1 =>
  if z1 = 0 then
    some ((-1), M)
  else
    (fX3_hasSegment M p2).bind fun z2 =>
    if z2 = 0 then
      some ((-2), M)
    else
      (fX6_isCost M p3).bind fun z3 =>
      if z3 = 0 then
        some ((-5), M)
      else
        if (M.1 0 2) < 24 then
          (fX3_appendPort M p1 p2 p3).bind fun z4 =>
          some (z4.1, z4.2)
        else
          some ((-6), M)
def fX6_addStation (M : xM) (p1 : Int32) : Option (Int32 × xM) :=
  (fX3_hasSegment M p1).bind fun z1 =>
  if z1 = 0 then
    some ((-2), M)
  else
    if (M.1 0 3) < 8 then
      (fX3_appendStation M p1).bind fun z2 =>
      some (z2.1, z2.2)
    else
      some ((-6), M)
def fX6_setPriority (M : xM) (p1 : Int32) (p2 : Int32) : Option (Int32 × xM) :=
  (fX3_hasBridge M p1).bind fun z1 =>
  if z1 = 0 then
    some ((-1), M)
  else
    (fX6_isPriority M p2).bind fun z2 =>
    if z2 = 0 then
      some ((-5), M)
    else
      xrd 8 (M.1 1) p1 fun x3 =>
      xwI 8 M 1 p1 p2 fun M4 =>
      some (x3, M4)
def fX6_setCost (M : xM) (p1 : Int32) (p2 : Int32) : Option (Int32 × xM) :=
  (fX3_hasPort M p1).bind fun z1 =>
  if z1 = 0 then
    some ((-3), M)
  else
    (fX6_isCost M p2).bind fun z2 =>
    if z2 = 0 then
      some ((-5), M)
    else
      xrd 24 (M.1 5) p1 fun x3 =>
      xwI 24 M 5 p1 p2 fun M4 =>
      some (x3, M4)
def fX6_setBridge_j27 (M : xM) (s0 : Int32) (s1 : Int32) : Option (Int32 × xM) :=
  (fX3_switchBridge M s1 s0).bind fun z2 =>
  some (z2.1, z2.2)
def fX6_setBridge (M : xM) (p1 : Int32) (p2 : Int32) : Option (Int32 × xM) :=
  (fX3_hasBridge M p1).bind fun z1 =>
  if z1 = 0 then
    some ((-1), M)
  else
    if p2 = 0 then
      fX6_setBridge_j27 M 0 p1
    else
      fX6_setBridge_j27 M 1 p1
def fX6_setPort_j28 (M : xM) (s0 : Int32) (s1 : Int32) : Option (Int32 × xM) :=
  (fX3_switchPort M s1 s0).bind fun z2 =>
  some (z2.1, z2.2)
def fX6_setPort (M : xM) (p1 : Int32) (p2 : Int32) : Option (Int32 × xM) :=
  (fX3_hasPort M p1).bind fun z1 =>
  if z1 = 0 then
    some ((-3), M)
  else
    if p2 = 0 then
      fX6_setPort_j28 M 0 p1
    else
      fX6_setPort_j28 M 1 p1
def fX6_moveStation (M : xM) (p1 : Int32) (p2 : Int32) : Option (Int32 × xM) :=
  (fX3_hasStation M p1).bind fun z1 =>
  if z1 = 0 then
    some ((-4), M)
  else
    (fX3_hasSegment M p2).bind fun z2 =>
    if z2 = 0 then
      some ((-2), M)
    else
      xrd 8 (M.1 11) p1 fun x3 =>
      xwI 8 M 11 p1 p2 fun M4 =>
      some (x3, M4)
def fX6_tick_B24 (v1 : Int32) (k43 : xM → Option (Int32 × xM)) (M : xM) (v2 : Int32) (b24 : xM → Int32 → Option (Int32 × xM)) : Option (Int32 × xM) :=
  if v1 ≤ v2 then
    k43 M
  else
    (fX4_makeTick M).bind fun z2 =>
    b24 z2.2 (v2 + 1)
def fX6_tick_L24 (v1 : Int32) (k43 : xM → Option (Int32 × xM)) : Nat → xM → Int32 → Option (Int32 × xM)
  | 0, _, _ => none
  | n + 1, M, v2 => fX6_tick_B24 v1 k43 M v2 (fun M v2 => fX6_tick_L24 v1 k43 n M v2)
def fX6_tick (M : xM) (p1 : Int32) : Option (Int32 × xM) :=
  if p1 < 1 then
    some ((-5), M)
  else
    if p1 ≤ 50 then
      (fX0_elect M).bind fun z1 =>
      fX6_tick_L24 p1 (fun M3 => 
  some (M3.1 0 4, M3)) 512 z1.2 0
    else
      some ((-5), M)
def fX6_settle_j54 (M : xM) (v1 : Int32) (v3 : Int32) (s0 : Int32) (b28 : xM → Int32 → Int32 → Option (Int32 × xM)) : Option (Int32 × xM) :=
  if s0 < 8 then
    b28 M s0 (v3 + 1)
  else
    some (v3, M)
def fX6_settle_B28 (v1 : Int32) (k69 : xM → Option (Int32 × xM)) (M : xM) (v2 : Int32) (v3 : Int32) (b28 : xM → Int32 → Int32 → Option (Int32 × xM)) : Option (Int32 × xM) :=
  if v1 < v3 then
    k69 M
  else
    (fX4_makeTick M).bind fun z2 =>
    if z2.1 = 0 then
      fX6_settle_j54 z2.2 v1 v3 (v2 + 1) b28
    else
      fX6_settle_j54 z2.2 v1 v3 0 b28
def fX6_settle_L28 (v1 : Int32) (k69 : xM → Option (Int32 × xM)) : Nat → xM → Int32 → Int32 → Option (Int32 × xM)
  | 0, _, _, _ => none
  | n + 1, M, v2, v3 => fX6_settle_B28 v1 k69 M v2 v3 (fun M v2 v3 => fX6_settle_L28 v1 k69 n M v2 v3)
def fX6_settle (M : xM) (p1 : Int32) : Option (Int32 × xM) :=
  if p1 < 8 then
    some ((-5), M)
  else
    if p1 ≤ 200 then
      (fX0_elect M).bind fun z1 =>
      fX6_settle_L28 p1 (fun M3 => 
  some ((-7), M3)) 512 z1.2 0 1
    else
      some ((-5), M)
def fX6_identifier (M : xM) (p1 : Int32) : Option (Int32) :=
  (fX3_hasBridge M p1).bind fun z1 =>
  if z1 = 0 then
    some ((-1))
  else
    (fX3_identifierOf M p1).bind fun z2 =>
    some z2
def fX6_root (M : xM) (p1 : Int32) : Option (Int32 × xM) :=
  (fX3_hasBridge M p1).bind fun z1 =>
  if z1 = 0 then
    some ((-1), M)
  else
    (fX3_isBridgeUp M p1).bind fun z2 =>
    if z2 = 0 then
      some ((-9), M)
    else
      (fX0_elect M).bind fun z3 =>
      xrd 8 (z3.2.1 16) p1 fun x4 =>
      some (x4, z3.2)
def fX6_rootCost (M : xM) (p1 : Int32) : Option (Int32 × xM) :=
  (fX3_hasBridge M p1).bind fun z1 =>
  if z1 = 0 then
    some ((-1), M)
  else
    (fX3_isBridgeUp M p1).bind fun z2 =>
    if z2 = 0 then
      some ((-9), M)
    else
      (fX0_elect M).bind fun z3 =>
      xrd 8 (z3.2.1 17) p1 fun x4 =>
      some (x4, z3.2)
def fX6_rootPort (M : xM) (p1 : Int32) : Option (Int32 × xM) :=
  (fX3_hasBridge M p1).bind fun z1 =>
  if z1 = 0 then
    some ((-1), M)
  else
    (fX0_elect M).bind fun z2 =>
    xrd 8 (z2.2.1 18) p1 fun x3 =>
    if x3 = ((-1)) then
      some ((-9), z2.2)
    else
      some (x3, z2.2)
def fX6_role (M : xM) (p1 : Int32) : Option (Int32 × xM) :=
  (fX3_hasPort M p1).bind fun z1 =>
  if z1 = 0 then
    some ((-3), M)
  else
    (fX0_elect M).bind fun z2 =>
    xrd 24 (z2.2.1 19) p1 fun x3 =>
    some (x3, z2.2)
def fX6_state (M : xM) (p1 : Int32) : Option (Int32) :=
  (fX3_hasPort M p1).bind fun z1 =>
  if z1 = 0 then
    some ((-3))
  else
    xrd 24 (M.1 7) p1 fun x2 =>
    some x2
def fX6_stored (M : xM) (p1 : Int32) (p2 : Int32) : Option (Int32) :=
  (fX3_hasPort M p1).bind fun z1 =>
  if z1 = 0 then
    some ((-3))
  else
    if p2 < 0 then
      some ((-5))
    else
      if p2 ≤ 4 then
        (fX3_storesMessage M p1).bind fun z2 =>
        if z2 = 0 then
          some ((-9))
        else
          xrd 24 (M.2 9) p1 fun x3 =>
          if p2 = 0 then
            (fX2_rootOf M x3).bind fun z4 =>
            some z4
          else
            if p2 = 1 then
              (fX2_costOf M x3).bind fun z5 =>
              some z5
            else
              if p2 = 2 then
                (fX2_senderOf M x3).bind fun z6 =>
                some z6
              else
                if p2 = 3 then
                  (fX2_senderPortOf M x3).bind fun z7 =>
                  some z7
                else
                  xrd 24 (M.1 10) p1 fun x8 =>
                  some x8
      else
        some ((-5))
def fX6_portsIn_B16 (M : xM) (v1 : Int32) (k52 : Int32 → Option (Int32)) (v2 : Int32) (v3 : Int32) (b16 : Int32 → Int32 → Option (Int32)) : Option (Int32) :=
  if (M.1 0 2) ≤ v3 then
    k52 v2
  else
    xrd 24 (M.1 7) v3 fun x1 =>
    if x1 = v1 then
      b16 (v2 ||| ((1 : Int32) <<< (v3 &&& 31))) (v3 + 1)
    else
      b16 v2 (v3 + 1)
def fX6_portsIn_L16 (M : xM) (v1 : Int32) (k52 : Int32 → Option (Int32)) : Nat → Int32 → Int32 → Option (Int32)
  | 0, _, _ => none
  | n + 1, v2, v3 => fX6_portsIn_B16 M v1 k52 v2 v3 (fun v2 v3 => fX6_portsIn_L16 M v1 k52 n v2 v3)
def fX6_portsIn (M : xM) (p1 : Int32) : Option (Int32) :=
  if p1 < 0 then
    some ((-5))
  else
    if p1 ≤ 4 then
      fX6_portsIn_L16 M p1 (fun v2 => 
  some v2) 512 0 0
    else
      some ((-5))
def fX6_parts (M : xM) : Option (Int32 × xM) :=
  (fX5_countParts M).bind fun z1 =>
  some (z1.1, z1.2)
def fX6_loops (M : xM) : Option (Int32 × xM) :=
  (fX5_countLoops M).bind fun z1 =>
  some (z1.1, z1.2)
def fX6_send_j33 (M : xM) (v1 : Int32) (v2 : Int32) : Option (Int32 × xM) :=
  (fX1_deliver M v1 v2).bind fun z2 =>
  some (z2.1, z2.2)
def fX6_send (M : xM) (p1 : Int32) (p2 : Int32) : Option (Int32 × xM) :=
  (fX3_hasStation M p1).bind fun z1 =>
  if z1 = 0 then
    some ((-4), M)
  else
    if p2 = ((-1)) then
      fX6_send_j33 M p1 p2
    else
      (fX3_hasStation M p2).bind fun z3 =>
      if z3 = 0 then
        some ((-4), M)
      else
        fX6_send_j33 M p1 p2
def fX6_transmissions (M : xM) (p1 : Int32) : Option (Int32) :=
  (fX3_hasSegment M p1).bind fun z1 =>
  if z1 = 0 then
    some ((-2))
  else
    xrd 10 (M.1 14) p1 fun x2 =>
    some x2
def fX6_entry (M : xM) (p1 : Int32) (p2 : Int32) : Option (Int32) :=
  (fX3_hasBridge M p1).bind fun z1 =>
  if z1 = 0 then
    some ((-1))
  else
    (fX3_hasStation M p2).bind fun z2 =>
    if z2 = 0 then
      some ((-4))
    else
      (fX3_learnedPort M p1 p2).bind fun z3 =>
      if z3 = ((-1)) then
        some ((-9))
      else
        some z3
def fX6_count (M : xM) (p1 : Int32) : Option (Int32) :=
  if p1 = 0 then
    some (M.1 0 0)
  else
    if p1 = 1 then
      some (M.1 0 1)
    else
      if p1 = 2 then
        some (M.1 0 2)
      else
        if p1 = 3 then
          some (M.1 0 3)
        else
          if p1 = 4 then
            some (M.1 0 4)
          else
            some ((-5))
def fX6_isSlot (M : xM) (p1 : Int32) : Option (Int32) :=
  if p1 < 0 then
    some 0
  else
    if 2 ≤ p1 then
      some 0
    else
      some 1
def fX7_in (M : xM) (p1 : Int32) (p2 : Int32) (p3 : Int32) : Option (Int32) :=
  if p1 < p2 then
    some 0
  else
    if p3 < p1 then
      some 0
    else
      some 1
def fX7_isBridge (M : xM) (p1 : Int32) : Option (Int32) :=
  xrd 431 (M.1 1) 0 fun x1 =>
  (fX7_in M p1 0 (x1 - 1)).bind fun z2 =>
  xzb z2 (some z2)
def fX7_isSegment (M : xM) (p1 : Int32) : Option (Int32) :=
  xrd 431 (M.1 1) 1 fun x1 =>
  (fX7_in M p1 0 (x1 - 1)).bind fun z2 =>
  xzb z2 (some z2)
def fX7_isPort (M : xM) (p1 : Int32) : Option (Int32) :=
  xrd 431 (M.1 1) 2 fun x1 =>
  (fX7_in M p1 0 (x1 - 1)).bind fun z2 =>
  xzb z2 (some z2)
def fX7_isStation (M : xM) (p1 : Int32) : Option (Int32) :=
  xrd 431 (M.1 1) 3 fun x1 =>
  (fX7_in M p1 0 (x1 - 1)).bind fun z2 =>
  xzb z2 (some z2)
def fX7_ports (M : xM) : Option (Int32) :=
  xrd 431 (M.1 1) 2 fun x1 =>
  some x1
def fX7_bridgeOf (M : xM) (p1 : Int32) : Option (Int32) :=
  xrd 431 (M.1 1) (21 + p1) fun x1 =>
  some x1
def fX7_isActive (M : xM) (p1 : Int32) : Option (Int32) :=
  xrd 431 (M.1 1) (93 + p1) fun x1 =>
  if x1 = 1 then
    (fX7_bridgeOf M p1).bind fun z2 =>
    xrd 431 (M.1 1) (13 + z2) fun x3 =>
    if x3 = 1 then
      some 1
    else
      some 0
  else
    some 0
def fX7_idOf (M : xM) (p1 : Int32) : Option (Int32) :=
  xrd 431 (M.1 1) (5 + p1) fun x1 =>
  some ((16 * x1) + p1)
def fX7_message (M : xM) (p1 : Int32) (p2 : Int32) : Option (Int32) :=
  xrd 431 (M.1 1) ((165 + (5 * p1)) + p2) fun x1 =>
  some x1
def fX7_stores (M : xM) (p1 : Int32) : Option (Int32) :=
  (fX7_message M p1 4).bind fun z1 =>
  if z1 ≤ 0 then
    some 0
  else
    some 1
def fX7_addBridge (M : xM) (p1 : Int32) : Option (Int32 × xM) :=
  (fX7_in M p1 0 15).bind fun z1 =>
  if z1 = 0 then
    some ((-5), M)
  else
    xrd 431 (M.1 1) 0 fun x2 =>
    if x2 = 8 then
      some ((-6), M)
    else
      xrd 431 (M.1 1) 0 fun x3 =>
      xwI 431 M 1 (5 + x3) p1 fun M4 =>
      xwI 431 M4 1 (13 + x3) 1 fun M5 =>
      xrd 431 (M5.1 1) 0 fun x6 =>
      xwI 431 M5 1 0 (x6 + 1) fun M7 =>
      some (x3, M7)
def fX7_addSegment (M : xM) : Option (Int32 × xM) :=
  xrd 431 (M.1 1) 1 fun x1 =>
  if x1 = 10 then
    some ((-6), M)
  else
    xrd 431 (M.1 1) 1 fun x2 =>
    xwI 431 M 1 1 (x2 + 1) fun M3 =>
    xrd 431 (M3.1 1) 1 fun x4 =>
    some (x4 - 1, M3)
def fX7_addPort_j119 (M : xM) (v4 : Int32) (s0 : Int32) (s1 : Int32) : Option (Int32 × xM) :=
  xwI 431 M 1 s1 s0 fun M11 =>
  xrd 431 (M11.1 1) 2 fun x12 =>
  xwI 431 M11 1 2 (x12 + 1) fun M13 =>
  some (v4, M13)
def fX7_addPort (M : xM) (p1 : Int32) (p2 : Int32) (p3 : Int32) : Option (Int32 × xM) :=
  (fX7_isBridge M p1).bind fun z1 =>
  if z1 = 0 then
    some ((-1), M)
  else
    (fX7_isSegment M p2).bind fun z2 =>
    if z2 = 0 then
      some ((-2), M)
    else
      (fX7_in M p3 1 100).bind fun z3 =>
      if z3 = 0 then
        some ((-5), M)
      else
        (fX7_ports M).bind fun z4 =>
        if z4 = 24 then
          some ((-6), M)
        else
          (fX7_ports M).bind fun z5 =>
          xwI 431 M 1 (21 + z5) p1 fun M6 =>
          xwI 431 M6 1 (45 + z5) p2 fun M7 =>
          xwI 431 M7 1 (69 + z5) p3 fun M8 =>
          xwI 431 M8 1 (93 + z5) 1 fun M9 =>
          (fX7_isActive M9 z5).bind fun z10 =>
          if z10 = 0 then
            fX7_addPort_j119 M9 z5 0 (117 + z5)
          else
            fX7_addPort_j119 M9 z5 1 (117 + z5)
def fX7_addStation (M : xM) (p1 : Int32) : Option (Int32 × xM) :=
  (fX7_isSegment M p1).bind fun z1 =>
  if z1 = 0 then
    some ((-2), M)
  else
    xrd 431 (M.1 1) 3 fun x2 =>
    if x2 = 8 then
      some ((-6), M)
    else
      xrd 431 (M.1 1) 3 fun x3 =>
      xwI 431 M 1 (285 + x3) p1 fun M4 =>
      xrd 431 (M4.1 1) 3 fun x5 =>
      xwI 431 M4 1 3 (x5 + 1) fun M6 =>
      xrd 431 (M6.1 1) 3 fun x7 =>
      some (x7 - 1, M6)
def fX7_set (M : xM) (p1 : Int32) (p2 : Int32) : Option (Int32 × xM) :=
  xrd 431 (M.1 1) p1 fun x1 =>
  xwI 431 M 1 p1 p2 fun M2 =>
  some (x1, M2)
def fX7_setPriority (M : xM) (p1 : Int32) (p2 : Int32) : Option (Int32 × xM) :=
  (fX7_isBridge M p1).bind fun z1 =>
  if z1 = 0 then
    some ((-1), M)
  else
    (fX7_in M p2 0 15).bind fun z2 =>
    if z2 = 0 then
      some ((-5), M)
    else
      (fX7_set M (5 + p1) p2).bind fun z3 =>
      some (z3.1, z3.2)
def fX7_setCost (M : xM) (p1 : Int32) (p2 : Int32) : Option (Int32 × xM) :=
  (fX7_isPort M p1).bind fun z1 =>
  if z1 = 0 then
    some ((-3), M)
  else
    (fX7_in M p2 1 100).bind fun z2 =>
    if z2 = 0 then
      some ((-5), M)
    else
      (fX7_set M (69 + p1) p2).bind fun z3 =>
      some (z3.1, z3.2)
def fX7_turn_B48 (v1 : Int32) (v3 : Int32) (k106 : xM → Option (xM)) (M : xM) (v4 : Int32) (b48 : xM → Int32 → Option (xM)) : Option (xM) :=
  if 64 ≤ v4 then
    k106 M
  else
    if v3 = 0 then
      xrd 431 (M.1 1) (357 + v4) fun x4 =>
      if x4 ≤ 0 then
        b48 M (v4 + 1)
      else
        xrd 431 (M.1 1) (293 + v4) fun x5 =>
        if x5 = v1 then
          xwI 431 M 1 (357 + v4) 0 fun M6 =>
          b48 M6 (v4 + 1)
        else
          b48 M (v4 + 1)
    else
      b48 M (v4 + 1)
def fX7_turn_L48 (v1 : Int32) (v3 : Int32) (k106 : xM → Option (xM)) : Nat → xM → Int32 → Option (xM)
  | 0, _, _ => none
  | n + 1, M, v4 => fX7_turn_B48 v1 v3 k106 M v4 (fun M v4 => fX7_turn_L48 v1 v3 k106 n M v4)
def fX7_turn_j44 (M : xM) (v1 : Int32) (v3 : Int32) (s0 : Int32) (s1 : Int32) : Option (xM) :=
  xwI 431 M 1 s1 s0 fun M3 =>
  fX7_turn_L48 v1 v3 (fun M7 => 
  some M7) 512 M3 0
def fX7_turn (M : xM) (p1 : Int32) (p2 : Int32) : Option (xM) :=
  (fX7_isActive M p1).bind fun z1 =>
  if z1 = p2 then
    some M
  else
    xwI 431 M 1 ((165 + (5 * p1)) + 4) 0 fun M2 =>
    if z1 = 0 then
      fX7_turn_j44 M2 p1 z1 0 (117 + p1)
    else
      fX7_turn_j44 M2 p1 z1 1 (117 + p1)
def fX7_turnAll_B2 (v1 : Int32) (v2 : Int32) (k27 : xM → Option (Int32 × xM)) (M : xM) (v3 : Int32) (b2 : xM → Int32 → Option (Int32 × xM)) : Option (Int32 × xM) :=
  (fX7_ports M).bind fun z1 =>
  if z1 ≤ v3 then
    k27 M
  else
    (fX7_isActive M v3).bind fun z2 =>
    xwI 24 M 4 v3 (vp_nar .boolean z2) fun M3 =>
    b2 M3 (v3 + 1)
def fX7_turnAll_L2 (v1 : Int32) (v2 : Int32) (k27 : xM → Option (Int32 × xM)) : Nat → xM → Int32 → Option (Int32 × xM)
  | 0, _, _ => none
  | n + 1, M, v3 => fX7_turnAll_B2 v1 v2 k27 M v3 (fun M v3 => fX7_turnAll_L2 v1 v2 k27 n M v3)
def fX7_turnAll_B45 (v3 : Int32) (k73 : xM → Option (Int32 × xM)) (M : xM) (v4 : Int32) (b45 : xM → Int32 → Option (Int32 × xM)) : Option (Int32 × xM) :=
  (fX7_ports M).bind fun z6 =>
  if z6 ≤ v4 then
    k73 M
  else
    xrd 24 (M.1 4) v4 fun x7 =>
    (fX7_turn M v4 x7).bind fun z8 =>
    b45 z8 (v4 + 1)
def fX7_turnAll_L45 (v3 : Int32) (k73 : xM → Option (Int32 × xM)) : Nat → xM → Int32 → Option (Int32 × xM)
  | 0, _, _ => none
  | n + 1, M, v4 => fX7_turnAll_B45 v3 k73 M v4 (fun M v4 => fX7_turnAll_L45 v3 k73 n M v4)
def fX7_turnAll_j38 (M : xM) (s0 : Int32) (s1 : Int32) : Option (Int32 × xM) :=
  (fX7_set M s1 s0).bind fun z5 =>
  fX7_turnAll_L45 z5.1 (fun M9 => 
  some (z5.1, M9)) 512 z5.2 0
def fX7_turnAll (M : xM) (p1 : Int32) (p2 : Int32) : Option (Int32 × xM) :=
  fX7_turnAll_L2 p1 p2 (fun M4 => 
  if p2 = 0 then
    fX7_turnAll_j38 M4 0 p1
  else
    fX7_turnAll_j38 M4 1 p1) 512 M 0
def fX7_setBridge (M : xM) (p1 : Int32) (p2 : Int32) : Option (Int32 × xM) :=
  (fX7_isBridge M p1).bind fun z1 =>
  if z1 = 0 then
    some ((-1), M)
  else
    (fX7_turnAll M (13 + p1) p2).bind fun z2 =>
    some (z2.1, z2.2)
def fX7_setPort (M : xM) (p1 : Int32) (p2 : Int32) : Option (Int32 × xM) :=
  (fX7_isPort M p1).bind fun z1 =>
  if z1 = 0 then
    some ((-3), M)
  else
    (fX7_turnAll M (93 + p1) p2).bind fun z2 =>
    some (z2.1, z2.2)
def fX7_moveStation (M : xM) (p1 : Int32) (p2 : Int32) : Option (Int32 × xM) :=
  (fX7_isStation M p1).bind fun z1 =>
  if z1 = 0 then
    some ((-4), M)
  else
    (fX7_isSegment M p2).bind fun z2 =>
    if z2 = 0 then
      some ((-2), M)
    else
      (fX7_set M (285 + p1) p2).bind fun z3 =>
      some (z3.1, z3.2)
def fX7_isBetterOffer (M : xM) (p1 : Int32) (p2 : Int32) : Option (Int32) :=
  (fX7_message M p1 1).bind fun z1 =>
  xrd 431 (M.1 1) (69 + p1) fun x2 =>
  (fX7_message M p2 1).bind fun z3 =>
  xrd 431 (M.1 1) (69 + p2) fun x4 =>
  (fX7_message M p1 0).bind fun z5 =>
  (fX7_message M p2 0).bind fun z6 =>
  if z5 = z6 then
    if (z1 + x2) = (z3 + x4) then
      (fX7_message M p1 2).bind fun z7 =>
      (fX7_message M p2 2).bind fun z8 =>
      if z7 = z8 then
        (fX7_message M p1 3).bind fun z9 =>
        (fX7_message M p2 3).bind fun z10 =>
        if z9 = z10 then
          if p2 ≤ p1 then
            some 0
          else
            some 1
        else
          (fX7_message M p1 3).bind fun z11 =>
          (fX7_message M p2 3).bind fun z12 =>
          if z12 ≤ z11 then
            some 0
          else
            some 1
      else
        (fX7_message M p1 2).bind fun z13 =>
        (fX7_message M p2 2).bind fun z14 =>
        if z14 ≤ z13 then
          some 0
        else
          some 1
    else
      if (z3 + x4) ≤ (z1 + x2) then
        some 0
      else
        some 1
  else
    (fX7_message M p1 0).bind fun z15 =>
    (fX7_message M p2 0).bind fun z16 =>
    if z16 ≤ z15 then
      some 0
    else
      some 1
def fX7_layRoot_j82 (M : xM) (v1 : Int32) (v3 : Int32) (s0 : Int32) (b5 : Int32 → Int32 → Option (xM)) : Option (xM) :=
  b5 s0 (v3 + 1)
def fX7_layRoot_j57 (M : xM) (v1 : Int32) (v2 : Int32) (v3 : Int32) (s0 : Int32) (b5 : Int32 → Int32 → Option (xM)) : Option (xM) :=
  if s0 = 0 then
    fX7_layRoot_j82 M v1 v3 v2 b5
  else
    if v2 < 0 then
      fX7_layRoot_j82 M v1 v3 v3 b5
    else
      (fX7_isBetterOffer M v3 v2).bind fun z3 =>
      if z3 = 0 then
        fX7_layRoot_j82 M v1 v3 v2 b5
      else
        fX7_layRoot_j82 M v1 v3 v3 b5
def fX7_layRoot_B5 (M : xM) (v1 : Int32) (k89 : Int32 → Option (xM)) (v2 : Int32) (v3 : Int32) (b5 : Int32 → Int32 → Option (xM)) : Option (xM) :=
  (fX7_ports M).bind fun z1 =>
  if z1 ≤ v3 then
    k89 v2
  else
    (fX7_bridgeOf M v3).bind fun z2 =>
    if z2 = v1 then
      (fX7_isActive M v3).bind fun z4 =>
      if z4 = 0 then
        fX7_layRoot_j57 M v1 v2 v3 0 b5
      else
        (fX7_stores M v3).bind fun z5 =>
        if z5 = 0 then
          fX7_layRoot_j57 M v1 v2 v3 0 b5
        else
          (fX7_message M v3 2).bind fun z6 =>
          (fX7_idOf M v1).bind fun z7 =>
          if z6 = z7 then
            fX7_layRoot_j57 M v1 v2 v3 0 b5
          else
            fX7_layRoot_j57 M v1 v2 v3 1 b5
    else
      fX7_layRoot_j57 M v1 v2 v3 0 b5
def fX7_layRoot_L5 (M : xM) (v1 : Int32) (k89 : Int32 → Option (xM)) : Nat → Int32 → Int32 → Option (xM)
  | 0, _, _ => none
  | n + 1, v2, v3 => fX7_layRoot_B5 M v1 k89 v2 v3 (fun v2 v3 => fX7_layRoot_L5 M v1 k89 n v2 v3)
def fX7_layRoot_j182 (M : xM) (s0 : Int32) (s1 : Int32) : Option (xM) :=
  xwI 8 M 7 s1 s0 fun M12 =>
  some M12
def fX7_layRoot_j152 (M : xM) (v1 : Int32) (v2 : Int32) (v3 : Int32) (s0 : Int32) (s1 : Int32) : Option (xM) :=
  xwI 8 M 6 s1 s0 fun M11 =>
  if v3 = 0 then
    fX7_layRoot_j182 M11 0 v1
  else
    (fX7_message M11 v2 1).bind fun z13 =>
    xrd 431 (M11.1 1) (69 + v2) fun x14 =>
    fX7_layRoot_j182 M11 (z13 + x14) v1
def fX7_layRoot_j128 (M : xM) (v1 : Int32) (v2 : Int32) (v3 : Int32) (s0 : Int32) (s1 : Int32) : Option (xM) :=
  xwI 8 M 5 s1 s0 fun M9 =>
  if v3 = 0 then
    (fX7_idOf M9 v1).bind fun z10 =>
    fX7_layRoot_j152 M9 v1 v2 v3 z10 v1
  else
    (fX7_message M9 v2 0).bind fun z15 =>
    fX7_layRoot_j152 M9 v1 v2 v3 z15 v1
def fX7_layRoot_j112 (M : xM) (v1 : Int32) (v2 : Int32) (s0 : Int32) : Option (xM) :=
  if s0 = 0 then
    fX7_layRoot_j128 M v1 v2 s0 ((-9)) v1
  else
    fX7_layRoot_j128 M v1 v2 s0 v2 v1
def fX7_layRoot (M : xM) (p1 : Int32) : Option (xM) :=
  fX7_layRoot_L5 M p1 (fun v8 => 
  if v8 < 0 then
    fX7_layRoot_j112 M p1 v8 0
  else
    (fX7_message M v8 0).bind fun z16 =>
    (fX7_idOf M p1).bind fun z17 =>
    if z17 ≤ z16 then
      fX7_layRoot_j112 M p1 v8 0
    else
      fX7_layRoot_j112 M p1 v8 1) 512 ((-9)) 0
def fX7_isBetter (M : xM) (p1 : Int32) (p2 : Int32) (p3 : Int32) (p4 : Int32) (p5 : Int32) (p6 : Int32) (p7 : Int32) (p8 : Int32) : Option (Int32) :=
  if p1 = p5 then
    if p2 = p6 then
      if p3 = p7 then
        if p8 ≤ p4 then
          some 0
        else
          some 1
      else
        if p7 ≤ p3 then
          some 0
        else
          some 1
    else
      if p6 ≤ p2 then
        some 0
      else
        some 1
  else
    if p5 ≤ p1 then
      some 0
    else
      some 1
def fX7_isOwnBetter (M : xM) (p1 : Int32) : Option (Int32) :=
  (fX7_bridgeOf M p1).bind fun z1 =>
  xrd 8 (M.1 6) z1 fun x2 =>
  xrd 8 (M.1 7) z1 fun x3 =>
  (fX7_idOf M z1).bind fun z4 =>
  (fX7_message M p1 0).bind fun z5 =>
  (fX7_message M p1 1).bind fun z6 =>
  (fX7_message M p1 2).bind fun z7 =>
  (fX7_message M p1 3).bind fun z8 =>
  (fX7_isBetter M x2 x3 z4 p1 z5 z6 z7 z8).bind fun z9 =>
  xzb z9 (some z9)
def fX7_roleOf (M : xM) (p1 : Int32) : Option (Int32) :=
  (fX7_isActive M p1).bind fun z1 =>
  if z1 = 0 then
    some 0
  else
    (fX7_bridgeOf M p1).bind fun z2 =>
    xrd 8 (M.1 5) z2 fun x3 =>
    if x3 = p1 then
      some 1
    else
      (fX7_stores M p1).bind fun z4 =>
      if z4 = 0 then
        some 2
      else
        (fX7_isOwnBetter M p1).bind fun z5 =>
        if z5 = 0 then
          (fX7_message M p1 2).bind fun z6 =>
          (fX7_idOf M z2).bind fun z7 =>
          if z6 = z7 then
            some 4
          else
            some 3
        else
          some 2
def fX7_layRoles_B2  (k23 : xM → Option (xM)) (M : xM) (v1 : Int32) (b2 : xM → Int32 → Option (xM)) : Option (xM) :=
  xrd 431 (M.1 1) 0 fun x1 =>
  if x1 ≤ v1 then
    k23 M
  else
    (fX7_layRoot M v1).bind fun z2 =>
    b2 z2 (v1 + 1)
def fX7_layRoles_L2  (k23 : xM → Option (xM)) : Nat → xM → Int32 → Option (xM)
  | 0, _, _ => none
  | n + 1, M, v1 => fX7_layRoles_B2 k23 M v1 (fun M v1 => fX7_layRoles_L2 k23 n M v1)
def fX7_layRoles_B25  (k50 : xM → Option (xM)) (M : xM) (v1 : Int32) (b25 : xM → Int32 → Option (xM)) : Option (xM) :=
  (fX7_ports M).bind fun z4 =>
  if z4 ≤ v1 then
    k50 M
  else
    (fX7_roleOf M v1).bind fun z5 =>
    xwI 24 M 8 v1 z5 fun M6 =>
    b25 M6 (v1 + 1)
def fX7_layRoles_L25  (k50 : xM → Option (xM)) : Nat → xM → Int32 → Option (xM)
  | 0, _, _ => none
  | n + 1, M, v1 => fX7_layRoles_B25 k50 M v1 (fun M v1 => fX7_layRoles_L25 k50 n M v1)
def fX7_layRoles (M : xM) : Option (xM) :=
  fX7_layRoles_L2 (fun M3 => 
  fX7_layRoles_L25 (fun M7 => 
  some M7) 512 M3 0) 512 M 0
def fX7_sendAll_j69 (M : xM) (v1 : Int32) (v2 : Int32) (s0 : Int32) (s1 : Int32) (b2 : xM → Int32 → Option (xM)) : Option (xM) :=
  xwI 24 M 9 s1 s0 fun M7 =>
  xrd 8 (M7.1 6) v2 fun x8 =>
  xwI 24 M7 10 v1 x8 fun M9 =>
  xrd 8 (M9.1 7) v2 fun x10 =>
  xwI 24 M9 11 v1 x10 fun M11 =>
  b2 M11 (v1 + 1)
def fX7_sendAll_j43 (M : xM) (v1 : Int32) (v2 : Int32) (s0 : Int32) (b2 : xM → Int32 → Option (xM)) : Option (xM) :=
  xrd 24 (M.1 8) v1 fun x6 =>
  if x6 = 2 then
    if 5 < s0 then
      fX7_sendAll_j69 M v1 v2 ((-1)) v1 b2
    else
      fX7_sendAll_j69 M v1 v2 s0 v1 b2
  else
    fX7_sendAll_j69 M v1 v2 ((-1)) v1 b2
def fX7_sendAll_B2  (k100 : xM → Option (xM)) (M : xM) (v1 : Int32) (b2 : xM → Int32 → Option (xM)) : Option (xM) :=
  (fX7_ports M).bind fun z1 =>
  if z1 ≤ v1 then
    k100 M
  else
    (fX7_bridgeOf M v1).bind fun z2 =>
    xrd 8 (M.1 5) z2 fun x3 =>
    if 0 ≤ x3 then
      xrd 8 (M.1 5) z2 fun x4 =>
      (fX7_message M x4 4).bind fun z5 =>
      fX7_sendAll_j43 M v1 z2 (7 - z5) b2
    else
      fX7_sendAll_j43 M v1 z2 0 b2
def fX7_sendAll_L2  (k100 : xM → Option (xM)) : Nat → xM → Int32 → Option (xM)
  | 0, _, _ => none
  | n + 1, M, v1 => fX7_sendAll_B2 k100 M v1 (fun M v1 => fX7_sendAll_L2 k100 n M v1)
def fX7_sendAll (M : xM) : Option (xM) :=
  fX7_sendAll_L2 (fun M12 => 
  some M12) 512 M 0
def fX7_isBetterSent (M : xM) (p1 : Int32) (p2 : Int32) : Option (Int32) :=
  xrd 24 (M.1 10) p1 fun x1 =>
  xrd 24 (M.1 11) p1 fun x2 =>
  (fX7_bridgeOf M p1).bind fun z3 =>
  (fX7_idOf M z3).bind fun z4 =>
  xrd 24 (M.1 10) p2 fun x5 =>
  xrd 24 (M.1 11) p2 fun x6 =>
  (fX7_bridgeOf M p2).bind fun z7 =>
  (fX7_idOf M z7).bind fun z8 =>
  (fX7_isBetter M x1 x2 z4 p1 x5 x6 z8 p2).bind fun z9 =>
  xzb z9 (some z9)
def fX7_heardBy_j78 (M : xM) (v1 : Int32) (v3 : Int32) (s0 : Int32) (b5 : Int32 → Int32 → Option (Int32)) : Option (Int32) :=
  b5 s0 (v3 + 1)
def fX7_heardBy_j53 (M : xM) (v1 : Int32) (v2 : Int32) (v3 : Int32) (s0 : Int32) (b5 : Int32 → Int32 → Option (Int32)) : Option (Int32) :=
  if s0 = 0 then
    fX7_heardBy_j78 M v1 v3 v2 b5
  else
    if v2 < 0 then
      fX7_heardBy_j78 M v1 v3 v3 b5
    else
      (fX7_isBetterSent M v3 v2).bind fun z2 =>
      if z2 = 0 then
        fX7_heardBy_j78 M v1 v3 v2 b5
      else
        fX7_heardBy_j78 M v1 v3 v3 b5
def fX7_heardBy_B5 (M : xM) (v1 : Int32) (k85 : Int32 → Option (Int32)) (v2 : Int32) (v3 : Int32) (b5 : Int32 → Int32 → Option (Int32)) : Option (Int32) :=
  (fX7_ports M).bind fun z1 =>
  if z1 ≤ v3 then
    k85 v2
  else
    if v3 = v1 then
      fX7_heardBy_j53 M v1 v2 v3 0 b5
    else
      xrd 24 (M.1 9) v3 fun x3 =>
      if x3 < 0 then
        fX7_heardBy_j53 M v1 v2 v3 0 b5
      else
        xrd 431 (M.1 1) (45 + v3) fun x4 =>
        xrd 431 (M.1 1) (45 + v1) fun x5 =>
        if x4 = x5 then
          fX7_heardBy_j53 M v1 v2 v3 1 b5
        else
          fX7_heardBy_j53 M v1 v2 v3 0 b5
def fX7_heardBy_L5 (M : xM) (v1 : Int32) (k85 : Int32 → Option (Int32)) : Nat → Int32 → Int32 → Option (Int32)
  | 0, _, _ => none
  | n + 1, v2, v3 => fX7_heardBy_B5 M v1 k85 v2 v3 (fun v2 v3 => fX7_heardBy_L5 M v1 k85 n v2 v3)
def fX7_heardBy (M : xM) (p1 : Int32) : Option (Int32) :=
  fX7_heardBy_L5 M p1 (fun v6 => 
  some v6) 512 ((-9)) 0
def fX7_hear_j148 (M : xM) (v1 : Int32) (v2 : Int32) (v3 : Int32) (v4 : Int32) : Option (xM) :=
  if v4 = 0 then
    (fX7_stores M v1).bind fun z4 =>
    if z4 = 0 then
      some M
    else
      xrd 431 (M.1 1) ((165 + (5 * v1)) + 4) fun x5 =>
      xwI 431 M 1 ((165 + (5 * v1)) + 4) (x5 - 1) fun M6 =>
      some M6
  else
    xrd 24 (M.1 10) v2 fun x7 =>
    xwI 431 M 1 ((165 + (5 * v1)) + 0) x7 fun M8 =>
    xrd 24 (M8.1 11) v2 fun x9 =>
    xwI 431 M8 1 ((165 + (5 * v1)) + 1) x9 fun M10 =>
    xwI 431 M10 1 ((165 + (5 * v1)) + 2) v3 fun M11 =>
    xwI 431 M11 1 ((165 + (5 * v1)) + 3) v2 fun M12 =>
    xrd 24 (M12.1 9) v2 fun x13 =>
    xwI 431 M12 1 ((165 + (5 * v1)) + 4) (6 - x13) fun M14 =>
    some M14
def fX7_hear_j146 (M : xM) (v1 : Int32) (v2 : Int32) (v3 : Int32) (s0 : Int32) : Option (xM) :=
  fX7_hear_j148 M v1 v2 v3 s0
def fX7_hear_j129 (M : xM) (v1 : Int32) (v2 : Int32) (v3 : Int32) (v5 : Int32) (s0 : Int32) : Option (xM) :=
  if v5 = 0 then
    fX7_hear_j146 M v1 v2 v3 1
  else
    if s0 = 0 then
      fX7_hear_j146 M v1 v2 v3 0
    else
      fX7_hear_j146 M v1 v2 v3 1
def fX7_hear_j46 (M : xM) (v1 : Int32) (v2 : Int32) (v3 : Int32) (s0 : Int32) : Option (xM) :=
  if s0 = 0 then
    fX7_hear_j148 M v1 v2 v3 s0
  else
    (fX7_stores M v1).bind fun z15 =>
    if z15 = 0 then
      fX7_hear_j148 M v1 v2 v3 s0
    else
      (fX7_message M v1 0).bind fun z16 =>
      (fX7_message M v1 1).bind fun z17 =>
      (fX7_message M v1 2).bind fun z18 =>
      (fX7_message M v1 3).bind fun z19 =>
      xrd 24 (M.1 10) v2 fun x20 =>
      xrd 24 (M.1 11) v2 fun x21 =>
      (fX7_isBetter M z16 z17 z18 z19 x20 x21 v3 v2).bind fun z22 =>
      (fX7_message M v1 2).bind fun z23 =>
      if z23 = v3 then
        (fX7_message M v1 3).bind fun z24 =>
        if z24 = v2 then
          fX7_hear_j129 M v1 v2 v3 z22 1
        else
          fX7_hear_j129 M v1 v2 v3 z22 0
      else
        fX7_hear_j129 M v1 v2 v3 z22 0
def fX7_hear_j36 (M : xM) (v1 : Int32) (v2 : Int32) (s0 : Int32) : Option (xM) :=
  if v2 < 0 then
    fX7_hear_j46 M v1 v2 s0 0
  else
    fX7_hear_j46 M v1 v2 s0 1
def fX7_hear_j18 (M : xM) (v1 : Int32) (s0 : Int32) : Option (xM) :=
  if 0 ≤ s0 then
    (fX7_bridgeOf M s0).bind fun z2 =>
    (fX7_idOf M z2).bind fun z3 =>
    fX7_hear_j36 M v1 s0 z3
  else
    fX7_hear_j36 M v1 s0 0
def fX7_hear (M : xM) (p1 : Int32) : Option (xM) :=
  (fX7_isActive M p1).bind fun z1 =>
  if z1 = 0 then
    fX7_hear_j18 M p1 ((-9))
  else
    (fX7_heardBy M p1).bind fun z25 =>
    fX7_hear_j18 M p1 z25
def fX7_goOn_j30 (M : xM) (v1 : Int32) : Option (xM) :=
  xwI 431 M 1 (117 + v1) 1 fun M3 =>
  some M3
def fX7_goOn_j82 (M : xM) (v1 : Int32) (v2 : Int32) : Option (xM) :=
  xrd 431 (M.1 1) (141 + v1) fun x5 =>
  xwI 431 M 1 (141 + v1) (x5 - 1) fun M6 =>
  xrd 431 (M6.1 1) (141 + v1) fun x7 =>
  if x7 = 0 then
    xwI 431 M6 1 (117 + v1) (v2 + 1) fun M8 =>
    xwI 431 M8 1 (141 + v1) 2 fun M9 =>
    some M9
  else
    some M6
def fX7_goOn (M : xM) (p1 : Int32) : Option (xM) :=
  xrd 431 (M.1 1) (117 + p1) fun x1 =>
  xrd 24 (M.1 8) p1 fun x2 =>
  if x2 = 3 then
    fX7_goOn_j30 M p1
  else
    xrd 24 (M.1 8) p1 fun x4 =>
    if x4 = 4 then
      fX7_goOn_j30 M p1
    else
      if x1 = 1 then
        xwI 431 M 1 (117 + p1) 2 fun M10 =>
        xwI 431 M10 1 (141 + p1) 2 fun M11 =>
        some M11
      else
        if x1 = 2 then
          fX7_goOn_j82 M p1 x1
        else
          if x1 = 3 then
            fX7_goOn_j82 M p1 x1
          else
            some M
def fX7_tickOnce_B6  (k32 : xM → Option (Int32 × xM)) (M : xM) (v1 : Int32) (b6 : xM → Int32 → Option (Int32 × xM)) : Option (Int32 × xM) :=
  (fX7_ports M).bind fun z2 =>
  if z2 ≤ v1 then
    k32 M
  else
    xrd 24 (M.1 8) v1 fun x3 =>
    xwI 24 M 12 v1 x3 fun M4 =>
    b6 M4 (v1 + 1)
def fX7_tickOnce_L6  (k32 : xM → Option (Int32 × xM)) : Nat → xM → Int32 → Option (Int32 × xM)
  | 0, _, _ => none
  | n + 1, M, v1 => fX7_tickOnce_B6 k32 M v1 (fun M v1 => fX7_tickOnce_L6 k32 n M v1)
def fX7_tickOnce_B38  (k57 : xM → Option (Int32 × xM)) (M : xM) (v1 : Int32) (b38 : xM → Int32 → Option (Int32 × xM)) : Option (Int32 × xM) :=
  (fX7_ports M).bind fun z7 =>
  if z7 ≤ v1 then
    k57 M
  else
    (fX7_hear M v1).bind fun z8 =>
    b38 z8 (v1 + 1)
def fX7_tickOnce_L38  (k57 : xM → Option (Int32 × xM)) : Nat → xM → Int32 → Option (Int32 × xM)
  | 0, _, _ => none
  | n + 1, M, v1 => fX7_tickOnce_B38 k57 M v1 (fun M v1 => fX7_tickOnce_L38 k57 n M v1)
def fX7_tickOnce_j134 (M : xM) (v2 : Int32) (s0 : Int32) (b65 : xM → Int32 → Int32 → Option (Int32 × xM)) : Option (Int32 × xM) :=
  b65 M s0 (v2 + 1)
def fX7_tickOnce_j97 (M : xM) (v1 : Int32) (v2 : Int32) (v3 : Int32) (b65 : xM → Int32 → Int32 → Option (Int32 × xM)) : Option (Int32 × xM) :=
  if v1 = 0 then
    xrd 431 (M.1 1) (117 + v2) fun x14 =>
    if x14 = v3 then
      xrd 24 (M.1 8) v2 fun x15 =>
      xrd 24 (M.1 12) v2 fun x16 =>
      if x15 = x16 then
        fX7_tickOnce_j134 M v2 0 b65
      else
        fX7_tickOnce_j134 M v2 1 b65
    else
      fX7_tickOnce_j134 M v2 1 b65
  else
    fX7_tickOnce_j134 M v2 1 b65
def fX7_tickOnce_B65  (k141 : xM → Int32 → Option (Int32 × xM)) (M : xM) (v1 : Int32) (v2 : Int32) (b65 : xM → Int32 → Int32 → Option (Int32 × xM)) : Option (Int32 × xM) :=
  (fX7_ports M).bind fun z11 =>
  if z11 ≤ v2 then
    k141 M v1
  else
    xrd 431 (M.1 1) (117 + v2) fun x12 =>
    xrd 24 (M.1 8) v2 fun x13 =>
    if x13 = 0 then
      fX7_tickOnce_j97 M v1 v2 x12 b65
    else
      (fX7_goOn M v2).bind fun z17 =>
      fX7_tickOnce_j97 z17 v1 v2 x12 b65
def fX7_tickOnce_L65  (k141 : xM → Int32 → Option (Int32 × xM)) : Nat → xM → Int32 → Int32 → Option (Int32 × xM)
  | 0, _, _, _ => none
  | n + 1, M, v1, v2 => fX7_tickOnce_B65 k141 M v1 v2 (fun M v1 v2 => fX7_tickOnce_L65 k141 n M v1 v2)
def fX7_tickOnce_j178 (M : xM) (v1 : Int32) (v2 : Int32) (s0 : Int32) (s1 : Int32) (s2 : Int32) (b143 : xM → Int32 → Option (Int32 × xM)) : Option (Int32 × xM) :=
  xwI 431 M 1 s2 (s1 - s0) fun M22 =>
  b143 M22 (v2 + 1)
def fX7_tickOnce_B143 (v1 : Int32) (k186 : xM → Option (Int32 × xM)) (M : xM) (v2 : Int32) (b143 : xM → Int32 → Option (Int32 × xM)) : Option (Int32 × xM) :=
  if 64 ≤ v2 then
    k186 M
  else
    xrd 431 (M.1 1) (357 + v2) fun x20 =>
    xrd 431 (M.1 1) (357 + v2) fun x21 =>
    if x21 ≤ 0 then
      fX7_tickOnce_j178 M v1 v2 0 x20 (357 + v2) b143
    else
      fX7_tickOnce_j178 M v1 v2 1 x20 (357 + v2) b143
def fX7_tickOnce_L143 (v1 : Int32) (k186 : xM → Option (Int32 × xM)) : Nat → xM → Int32 → Option (Int32 × xM)
  | 0, _, _ => none
  | n + 1, M, v2 => fX7_tickOnce_B143 v1 k186 M v2 (fun M v2 => fX7_tickOnce_L143 v1 k186 n M v2)
def fX7_tickOnce (M : xM) : Option (Int32 × xM) :=
  (fX7_layRoles M).bind fun z1 =>
  fX7_tickOnce_L6 (fun M5 => 
  (fX7_sendAll M5).bind fun z6 =>
  fX7_tickOnce_L38 (fun M9 => 
  (fX7_layRoles M9).bind fun z10 =>
  fX7_tickOnce_L65 (fun M19 v18 => 
  fX7_tickOnce_L143 v18 (fun M23 => 
  xrd 431 (M23.1 1) 4 fun x24 =>
  xwI 431 M23 1 4 (x24 + 1) fun M25 =>
  xzb v18 (some (v18, M25))) 512 M19 0) 512 z10 0 0) 512 z6 0) 512 z1 0
def fX7_tick_B15 (v1 : Int32) (k31 : xM → Option (Int32 × xM)) (M : xM) (v2 : Int32) (b15 : xM → Int32 → Option (Int32 × xM)) : Option (Int32 × xM) :=
  if v1 ≤ v2 then
    k31 M
  else
    (fX7_tickOnce M).bind fun z2 =>
    b15 z2.2 (v2 + 1)
def fX7_tick_L15 (v1 : Int32) (k31 : xM → Option (Int32 × xM)) : Nat → xM → Int32 → Option (Int32 × xM)
  | 0, _, _ => none
  | n + 1, M, v2 => fX7_tick_B15 v1 k31 M v2 (fun M v2 => fX7_tick_L15 v1 k31 n M v2)
def fX7_tick (M : xM) (p1 : Int32) : Option (Int32 × xM) :=
  (fX7_in M p1 1 50).bind fun z1 =>
  if z1 = 0 then
    some ((-5), M)
  else
    fX7_tick_L15 p1 (fun M3 => 
  xrd 431 (M3.1 1) 4 fun x4 =>
  some (x4, M3)) 512 M 0
def fX7_settle_j38 (M : xM) (v1 : Int32) (v3 : Int32) (s0 : Int32) (b19 : xM → Int32 → Int32 → Option (Int32 × xM)) : Option (Int32 × xM) :=
  if s0 = 8 then
    some (v3, M)
  else
    b19 M s0 (v3 + 1)
def fX7_settle_B19 (v1 : Int32) (k53 : xM → Option (Int32 × xM)) (M : xM) (v2 : Int32) (v3 : Int32) (b19 : xM → Int32 → Int32 → Option (Int32 × xM)) : Option (Int32 × xM) :=
  if v1 < v3 then
    k53 M
  else
    (fX7_tickOnce M).bind fun z2 =>
    if z2.1 = 0 then
      fX7_settle_j38 z2.2 v1 v3 (v2 + 1) b19
    else
      fX7_settle_j38 z2.2 v1 v3 0 b19
def fX7_settle_L19 (v1 : Int32) (k53 : xM → Option (Int32 × xM)) : Nat → xM → Int32 → Int32 → Option (Int32 × xM)
  | 0, _, _, _ => none
  | n + 1, M, v2, v3 => fX7_settle_B19 v1 k53 M v2 v3 (fun M v2 v3 => fX7_settle_L19 v1 k53 n M v2 v3)
def fX7_settle (M : xM) (p1 : Int32) : Option (Int32 × xM) :=
  (fX7_in M p1 8 200).bind fun z1 =>
  if z1 = 0 then
    some ((-5), M)
  else
    fX7_settle_L19 p1 (fun M3 => 
  some ((-7), M3)) 512 M 0 1
def fX7_identifier (M : xM) (p1 : Int32) : Option (Int32) :=
  (fX7_isBridge M p1).bind fun z1 =>
  if z1 = 0 then
    some ((-1))
  else
    (fX7_idOf M p1).bind fun z2 =>
    some z2
def fX7_isUp (M : xM) (p1 : Int32) : Option (Int32) :=
  xrd 431 (M.1 1) (13 + p1) fun x1 =>
  if x1 = 1 then
    some 1
  else
    some 0
def fX7_root (M : xM) (p1 : Int32) : Option (Int32 × xM) :=
  (fX7_isBridge M p1).bind fun z1 =>
  if z1 = 0 then
    some ((-1), M)
  else
    (fX7_layRoles M).bind fun z2 =>
    (fX7_isUp z2 p1).bind fun z3 =>
    if z3 = 0 then
      some ((-9), z2)
    else
      xrd 8 (z2.1 6) p1 fun x4 =>
      some (x4, z2)
def fX7_rootCost (M : xM) (p1 : Int32) : Option (Int32 × xM) :=
  (fX7_isBridge M p1).bind fun z1 =>
  if z1 = 0 then
    some ((-1), M)
  else
    (fX7_layRoles M).bind fun z2 =>
    (fX7_isUp z2 p1).bind fun z3 =>
    if z3 = 0 then
      some ((-9), z2)
    else
      xrd 8 (z2.1 7) p1 fun x4 =>
      some (x4, z2)
def fX7_rootPort (M : xM) (p1 : Int32) : Option (Int32 × xM) :=
  (fX7_isBridge M p1).bind fun z1 =>
  if z1 = 0 then
    some ((-1), M)
  else
    (fX7_layRoles M).bind fun z2 =>
    xrd 8 (z2.1 5) p1 fun x3 =>
    some (x3, z2)
def fX7_role (M : xM) (p1 : Int32) : Option (Int32 × xM) :=
  (fX7_isPort M p1).bind fun z1 =>
  if z1 = 0 then
    some ((-3), M)
  else
    (fX7_layRoles M).bind fun z2 =>
    xrd 24 (z2.1 8) p1 fun x3 =>
    some (x3, z2)
def fX7_state (M : xM) (p1 : Int32) : Option (Int32) :=
  (fX7_isPort M p1).bind fun z1 =>
  if z1 = 0 then
    some ((-3))
  else
    xrd 431 (M.1 1) (117 + p1) fun x2 =>
    some x2
def fX7_stored (M : xM) (p1 : Int32) (p2 : Int32) : Option (Int32) :=
  (fX7_isPort M p1).bind fun z1 =>
  if z1 = 0 then
    some ((-3))
  else
    (fX7_in M p2 0 4).bind fun z2 =>
    if z2 = 0 then
      some ((-5))
    else
      (fX7_stores M p1).bind fun z3 =>
      if z3 = 0 then
        some ((-9))
      else
        (fX7_message M p1 p2).bind fun z4 =>
        some z4
def fX7_portsIn_j45 (M : xM) (v1 : Int32) (v3 : Int32) (s0 : Int32) (s1 : Int32) (b16 : Int32 → Int32 → Option (Int32)) : Option (Int32) :=
  b16 (s1 ||| s0) (v3 + 1)
def fX7_portsIn_B16 (M : xM) (v1 : Int32) (k53 : Int32 → Option (Int32)) (v2 : Int32) (v3 : Int32) (b16 : Int32 → Int32 → Option (Int32)) : Option (Int32) :=
  (fX7_ports M).bind fun z2 =>
  if z2 ≤ v3 then
    k53 v2
  else
    xrd 431 (M.1 1) (117 + v3) fun x3 =>
    if x3 = v1 then
      fX7_portsIn_j45 M v1 v3 ((1 : Int32) <<< (v3 &&& 31)) v2 b16
    else
      fX7_portsIn_j45 M v1 v3 0 v2 b16
def fX7_portsIn_L16 (M : xM) (v1 : Int32) (k53 : Int32 → Option (Int32)) : Nat → Int32 → Int32 → Option (Int32)
  | 0, _, _ => none
  | n + 1, v2, v3 => fX7_portsIn_B16 M v1 k53 v2 v3 (fun v2 v3 => fX7_portsIn_L16 M v1 k53 n v2 v3)
def fX7_portsIn (M : xM) (p1 : Int32) : Option (Int32) :=
  (fX7_in M p1 0 4).bind fun z1 =>
  if z1 = 0 then
    some ((-5))
  else
    fX7_portsIn_L16 M p1 (fun v4 => 
  some v4) 512 0 0
def fX7_joinAll_B2  (k21 : xM → Option (Int32 × xM)) (M : xM) (v1 : Int32) (b2 : xM → Int32 → Option (Int32 × xM)) : Option (Int32 × xM) :=
  if 18 ≤ v1 then
    k21 M
  else
    xwI 18 M 13 v1 v1 fun M1 =>
    b2 M1 (v1 + 1)
def fX7_joinAll_L2  (k21 : xM → Option (Int32 × xM)) : Nat → xM → Int32 → Option (Int32 × xM)
  | 0, _, _ => none
  | n + 1, M, v1 => fX7_joinAll_B2 k21 M v1 (fun M v1 => fX7_joinAll_L2 k21 n M v1)
def fX7_joinAll_j118 (M : xM) (v1 : Int32) (v2 : Int32) (v3 : Int32) (v4 : Int32) (v5 : Int32) (s0 : Int32) (s1 : Int32) (b82 : xM → Int32 → Option (Int32 × xM)) : Option (Int32 × xM) :=
  xwI 18 M 13 s1 s0 fun M11 =>
  b82 M11 (v5 + 1)
def fX7_joinAll_B82 (v1 : Int32) (v2 : Int32) (v3 : Int32) (v4 : Int32) (k125 : xM → Option (Int32 × xM)) (M : xM) (v5 : Int32) (b82 : xM → Int32 → Option (Int32 × xM)) : Option (Int32 × xM) :=
  if 18 ≤ v5 then
    k125 M
  else
    xrd 18 (M.1 13) v5 fun x9 =>
    if x9 = v4 then
      fX7_joinAll_j118 M v1 v2 v3 v4 v5 v3 v5 b82
    else
      xrd 18 (M.1 13) v5 fun x10 =>
      fX7_joinAll_j118 M v1 v2 v3 v4 v5 x10 v5 b82
def fX7_joinAll_L82 (v1 : Int32) (v2 : Int32) (v3 : Int32) (v4 : Int32) (k125 : xM → Option (Int32 × xM)) : Nat → xM → Int32 → Option (Int32 × xM)
  | 0, _, _ => none
  | n + 1, M, v5 => fX7_joinAll_B82 v1 v2 v3 v4 k125 M v5 (fun M v5 => fX7_joinAll_L82 v1 v2 v3 v4 k125 n M v5)
def fX7_joinAll_B25  (k131 : xM → Int32 → Option (Int32 × xM)) (M : xM) (v1 : Int32) (v2 : Int32) (b25 : xM → Int32 → Int32 → Option (Int32 × xM)) : Option (Int32 × xM) :=
  (fX7_ports M).bind fun z3 =>
  if z3 ≤ v2 then
    k131 M v1
  else
    xrd 431 (M.1 1) (117 + v2) fun x4 =>
    if x4 = 4 then
      xrd 431 (M.1 1) (45 + v2) fun x5 =>
      xrd 18 (M.1 13) x5 fun x6 =>
      (fX7_bridgeOf M v2).bind fun z7 =>
      xrd 18 (M.1 13) (10 + z7) fun x8 =>
      fX7_joinAll_L82 (v1 + 1) v2 x6 x8 (fun M12 => 
  b25 M12 (v1 + 1) (v2 + 1)) 512 M 0
    else
      b25 M v1 (v2 + 1)
def fX7_joinAll_L25  (k131 : xM → Int32 → Option (Int32 × xM)) : Nat → xM → Int32 → Int32 → Option (Int32 × xM)
  | 0, _, _, _ => none
  | n + 1, M, v1, v2 => fX7_joinAll_B25 k131 M v1 v2 (fun M v1 v2 => fX7_joinAll_L25 k131 n M v1 v2)
def fX7_joinAll (M : xM) : Option (Int32 × xM) :=
  fX7_joinAll_L2 (fun M2 => 
  fX7_joinAll_L25 (fun M14 v13 => 
  some (v13, M14)) 512 M2 0 0) 512 M 0
def fX7_isVertex (M : xM) (p1 : Int32) : Option (Int32) :=
  if 10 ≤ p1 then
    (fX7_isBridge M (p1 - 10)).bind fun z1 =>
    if z1 = 0 then
      some 0
    else
      (fX7_isUp M (p1 - 10)).bind fun z2 =>
      if z2 = 0 then
        some 0
      else
        some 1
  else
    (fX7_isSegment M p1).bind fun z3 =>
    xzb z3 (some z3)
def fX7_vertices_j24 (M : xM) (v2 : Int32) (s0 : Int32) (s1 : Int32) (b4 : Int32 → Int32 → Option (Int32)) : Option (Int32) :=
  b4 (s1 + s0) (v2 + 1)
def fX7_vertices_B4 (M : xM)  (k32 : Int32 → Option (Int32)) (v1 : Int32) (v2 : Int32) (b4 : Int32 → Int32 → Option (Int32)) : Option (Int32) :=
  if 18 ≤ v2 then
    k32 v1
  else
    (fX7_isVertex M v2).bind fun z1 =>
    if z1 = 0 then
      fX7_vertices_j24 M v2 0 v1 b4
    else
      fX7_vertices_j24 M v2 1 v1 b4
def fX7_vertices_L4 (M : xM)  (k32 : Int32 → Option (Int32)) : Nat → Int32 → Int32 → Option (Int32)
  | 0, _, _ => none
  | n + 1, v1, v2 => fX7_vertices_B4 M k32 v1 v2 (fun v1 v2 => fX7_vertices_L4 M k32 n v1 v2)
def fX7_vertices (M : xM) : Option (Int32) :=
  fX7_vertices_L4 M (fun v2 => 
  some v2) 512 0 0
def fX7_partsNow_j59 (M : xM) (v1 : Int32) (v2 : Int32) (v4 : Int32) (s0 : Int32) (b19 : Int32 → Int32 → Option (Int32)) : Option (Int32) :=
  b19 s0 (v4 + 1)
def fX7_partsNow_B19 (M : xM) (v1 : Int32) (v2 : Int32) (k66 : Int32 → Option (Int32)) (v3 : Int32) (v4 : Int32) (b19 : Int32 → Int32 → Option (Int32)) : Option (Int32) :=
  if v2 ≤ v4 then
    k66 v3
  else
    if v3 = 0 then
      fX7_partsNow_j59 M v1 v2 v4 0 b19
    else
      (fX7_isVertex M v4).bind fun z2 =>
      if z2 = 0 then
        fX7_partsNow_j59 M v1 v2 v4 1 b19
      else
        xrd 18 (M.1 13) v4 fun x3 =>
        xrd 18 (M.1 13) v2 fun x4 =>
        if x3 = x4 then
          fX7_partsNow_j59 M v1 v2 v4 0 b19
        else
          fX7_partsNow_j59 M v1 v2 v4 1 b19
def fX7_partsNow_L19 (M : xM) (v1 : Int32) (v2 : Int32) (k66 : Int32 → Option (Int32)) : Nat → Int32 → Int32 → Option (Int32)
  | 0, _, _ => none
  | n + 1, v3, v4 => fX7_partsNow_B19 M v1 v2 k66 v3 v4 (fun v3 v4 => fX7_partsNow_L19 M v1 v2 k66 n v3 v4)
def fX7_partsNow_j76 (M : xM) (v2 : Int32) (s0 : Int32) (s1 : Int32) (b4 : Int32 → Int32 → Option (Int32)) : Option (Int32) :=
  b4 (s1 + s0) (v2 + 1)
def fX7_partsNow_B4 (M : xM)  (k84 : Int32 → Option (Int32)) (v1 : Int32) (v2 : Int32) (b4 : Int32 → Int32 → Option (Int32)) : Option (Int32) :=
  if 18 ≤ v2 then
    k84 v1
  else
    (fX7_isVertex M v2).bind fun z1 =>
    fX7_partsNow_L19 M v1 v2 (fun v5 => 
  if v5 = 0 then
    fX7_partsNow_j76 M v2 0 v1 b4
  else
    fX7_partsNow_j76 M v2 1 v1 b4) 512 z1 0
def fX7_partsNow_L4 (M : xM)  (k84 : Int32 → Option (Int32)) : Nat → Int32 → Int32 → Option (Int32)
  | 0, _, _ => none
  | n + 1, v1, v2 => fX7_partsNow_B4 M k84 v1 v2 (fun v1 v2 => fX7_partsNow_L4 M k84 n v1 v2)
def fX7_partsNow (M : xM) : Option (Int32) :=
  fX7_partsNow_L4 M (fun v6 => 
  some v6) 512 0 0
def fX7_parts (M : xM) : Option (Int32 × xM) :=
  (fX7_joinAll M).bind fun z1 =>
  (fX7_partsNow z1.2).bind fun z2 =>
  some (z2, z1.2)
def fX7_loops (M : xM) : Option (Int32 × xM) :=
  (fX7_joinAll M).bind fun z1 =>
  (fX7_vertices z1.2).bind fun z2 =>
  (fX7_partsNow z1.2).bind fun z3 =>
  some ((z1.1 - z2) + z3, z1.2)
def fX7_transmit (M : xM) (p1 : Int32) (p2 : Int32) : Option (xM) :=
  if 64 ≤ (M.1 0 0) then
    some M
  else
    xwI 64 M 14 (M.1 0 0) p1 fun M1 =>
    xwI 64 M1 15 (M1.1 0 0) p2 fun M2 =>
    xpf M2 0 0 ((M2.1 0 0) + 1) fun M3 =>
    xrd 431 (M3.1 1) (421 + p1) fun x4 =>
    xwI 431 M3 1 (421 + p1) (x4 + 1) fun M5 =>
    some M5
def fX7_cell (M : xM) (p1 : Int32) (p2 : Int32) : Option (Int32) :=
  some ((8 * p1) + p2)
def fX7_receive_B171 (v1 : Int32) (v4 : Int32) (k233 : xM → Option (xM)) (M : xM) (v8 : Int32) (b171 : xM → Int32 → Option (xM)) : Option (xM) :=
  (fX7_ports M).bind fun z7 =>
  if z7 ≤ v8 then
    k233 M
  else
    if v8 = v1 then
      b171 M (v8 + 1)
    else
      (fX7_bridgeOf M v8).bind fun z8 =>
      if z8 = v4 then
        xrd 431 (M.1 1) (117 + v8) fun x9 =>
        if x9 = 4 then
          xrd 431 (M.1 1) (45 + v8) fun x10 =>
          (fX7_transmit M x10 v8).bind fun z11 =>
          b171 z11 (v8 + 1)
        else
          b171 M (v8 + 1)
      else
        b171 M (v8 + 1)
def fX7_receive_L171 (v1 : Int32) (v4 : Int32) (k233 : xM → Option (xM)) : Nat → xM → Int32 → Option (xM)
  | 0, _, _ => none
  | n + 1, M, v8 => fX7_receive_B171 v1 v4 k233 M v8 (fun M v8 => fX7_receive_L171 v1 v4 k233 n M v8)
def fX7_receive_j168 (M : xM) (v1 : Int32) (v4 : Int32) : Option (xM) :=
  fX7_receive_L171 v1 v4 (fun M12 => 
  some M12) 512 M 0
def fX7_receive_j124 (M : xM) (v1 : Int32) (v4 : Int32) (v6 : Int32) (s0 : Int32) : Option (xM) :=
  if v6 = 0 then
    fX7_receive_j168 M v1 v4
  else
    xrd 431 (M.1 1) (117 + s0) fun x13 =>
    if x13 = 4 then
      if s0 = v1 then
        some M
      else
        xrd 431 (M.1 1) (45 + s0) fun x14 =>
        (fX7_transmit M x14 s0).bind fun z15 =>
        some z15
    else
      fX7_receive_j168 M v1 v4
def fX7_receive_j97 (M : xM) (v1 : Int32) (v3 : Int32) (v4 : Int32) (s0 : Int32) : Option (xM) :=
  if s0 = 0 then
    fX7_receive_j124 M v1 v4 s0 ((-9))
  else
    (fX7_cell M v4 v3).bind fun z16 =>
    xrd 431 (M.1 1) (293 + z16) fun x17 =>
    fX7_receive_j124 M v1 v4 s0 x17
def fX7_receive_j63 (M : xM) (v1 : Int32) (v3 : Int32) (v4 : Int32) (v5 : Int32) : Option (xM) :=
  if v5 = 4 then
    if v3 < 0 then
      fX7_receive_j97 M v1 v3 v4 0
    else
      (fX7_cell M v4 v3).bind fun z18 =>
      xrd 431 (M.1 1) (357 + z18) fun x19 =>
      if x19 ≤ 0 then
        fX7_receive_j97 M v1 v3 v4 0
      else
        fX7_receive_j97 M v1 v3 v4 1
  else
    some M
def fX7_receive_j30 (M : xM) (v1 : Int32) (v2 : Int32) (v3 : Int32) (v4 : Int32) (v5 : Int32) : Option (xM) :=
  (fX7_cell M v4 v2).bind fun z3 =>
  xwI 431 M 1 (293 + z3) v1 fun M4 =>
  (fX7_cell M4 v4 v2).bind fun z5 =>
  xwI 431 M4 1 (357 + z5) 10 fun M6 =>
  fX7_receive_j63 M6 v1 v3 v4 v5
def fX7_receive (M : xM) (p1 : Int32) (p2 : Int32) (p3 : Int32) : Option (xM) :=
  (fX7_bridgeOf M p1).bind fun z1 =>
  xrd 431 (M.1 1) (117 + p1) fun x2 =>
  if x2 = 3 then
    fX7_receive_j30 M p1 p2 p3 z1 x2
  else
    if x2 = 4 then
      fX7_receive_j30 M p1 p2 p3 z1 x2
    else
      fX7_receive_j63 M p1 p3 z1 x2
def fX7_send_B26 (v1 : Int32) (v2 : Int32) (k49 : xM → Option (Int32 × xM)) (M : xM) (v3 : Int32) (b26 : xM → Int32 → Option (Int32 × xM)) : Option (Int32 × xM) :=
  if 10 ≤ v3 then
    k49 M
  else
    xwI 431 M 1 (421 + v3) 0 fun M2 =>
    b26 M2 (v3 + 1)
def fX7_send_L26 (v1 : Int32) (v2 : Int32) (k49 : xM → Option (Int32 × xM)) : Nat → xM → Int32 → Option (Int32 × xM)
  | 0, _, _ => none
  | n + 1, M, v3 => fX7_send_B26 v1 v2 k49 M v3 (fun M v3 => fX7_send_L26 v1 v2 k49 n M v3)
def fX7_send_B83 (v1 : Int32) (v2 : Int32) (v3 : Int32) (k145 : xM → Option (Int32 × xM)) (M : xM) (v4 : Int32) (b83 : xM → Int32 → Option (Int32 × xM)) : Option (Int32 × xM) :=
  (fX7_ports M).bind fun z7 =>
  if z7 ≤ v4 then
    k145 M
  else
    xrd 64 (M.1 15) v3 fun x8 =>
    if v4 = x8 then
      b83 M (v4 + 1)
    else
      xrd 431 (M.1 1) (45 + v4) fun x9 =>
      xrd 64 (M.1 14) v3 fun x10 =>
      if x9 = x10 then
        (fX7_isActive M v4).bind fun z11 =>
        if z11 = 0 then
          b83 M (v4 + 1)
        else
          (fX7_receive M v4 v1 v2).bind fun z12 =>
          b83 z12 (v4 + 1)
      else
        b83 M (v4 + 1)
def fX7_send_L83 (v1 : Int32) (v2 : Int32) (v3 : Int32) (k145 : xM → Option (Int32 × xM)) : Nat → xM → Int32 → Option (Int32 × xM)
  | 0, _, _ => none
  | n + 1, M, v4 => fX7_send_B83 v1 v2 v3 k145 M v4 (fun M v4 => fX7_send_L83 v1 v2 v3 k145 n M v4)
def fX7_send_B72 (v1 : Int32) (v2 : Int32) (k151 : xM → Option (Int32 × xM)) (M : xM) (v3 : Int32) (b72 : xM → Int32 → Option (Int32 × xM)) : Option (Int32 × xM) :=
  if (M.1 0 0) ≤ v3 then
    k151 M
  else
    fX7_send_L83 v1 v2 v3 (fun M13 => 
  b72 M13 (v3 + 1)) 512 M 0
def fX7_send_L72 (v1 : Int32) (v2 : Int32) (k151 : xM → Option (Int32 × xM)) : Nat → xM → Int32 → Option (Int32 × xM)
  | 0, _, _ => none
  | n + 1, M, v3 => fX7_send_B72 v1 v2 k151 M v3 (fun M v3 => fX7_send_L72 v1 v2 k151 n M v3)
def fX7_send_j24 (M : xM) (v1 : Int32) (v2 : Int32) : Option (Int32 × xM) :=
  fX7_send_L26 v1 v2 (fun M3 => 
  xpf M3 0 0 0 fun M4 =>
  xrd 431 (M4.1 1) (285 + v1) fun x5 =>
  (fX7_transmit M4 x5 ((-9))).bind fun z6 =>
  fX7_send_L72 v1 v2 (fun M14 => 
  some (M14.1 0 0, M14)) 512 z6 0) 512 M 0
def fX7_send (M : xM) (p1 : Int32) (p2 : Int32) : Option (Int32 × xM) :=
  (fX7_isStation M p1).bind fun z1 =>
  if z1 = 0 then
    some ((-4), M)
  else
    if p2 = ((-1)) then
      fX7_send_j24 M p1 p2
    else
      (fX7_isStation M p2).bind fun z15 =>
      if z15 = 0 then
        some ((-4), M)
      else
        fX7_send_j24 M p1 p2
def fX7_transmissions (M : xM) (p1 : Int32) : Option (Int32) :=
  (fX7_isSegment M p1).bind fun z1 =>
  if z1 = 0 then
    some ((-2))
  else
    xrd 431 (M.1 1) (421 + p1) fun x2 =>
    some x2
def fX7_entry (M : xM) (p1 : Int32) (p2 : Int32) : Option (Int32) :=
  (fX7_isBridge M p1).bind fun z1 =>
  if z1 = 0 then
    some ((-1))
  else
    (fX7_isStation M p2).bind fun z2 =>
    if z2 = 0 then
      some ((-4))
    else
      (fX7_cell M p1 p2).bind fun z3 =>
      xrd 431 (M.1 1) (357 + z3) fun x4 =>
      if x4 ≤ 0 then
        some ((-9))
      else
        (fX7_cell M p1 p2).bind fun z5 =>
        xrd 431 (M.1 1) (293 + z5) fun x6 =>
        some x6
def fX7_count (M : xM) (p1 : Int32) : Option (Int32) :=
  (fX7_in M p1 0 4).bind fun z1 =>
  if z1 = 0 then
    some ((-5))
  else
    xrd 431 (M.1 1) p1 fun x2 =>
    some x2
def fX7_save_B14 (v1 : Int32) (k45 : xM → Option (Int32 × xM)) (M : xM) (v2 : Int32) (b14 : xM → Int32 → Option (Int32 × xM)) : Option (Int32 × xM) :=
  if 431 ≤ v2 then
    k45 M
  else
    xrd 431 (M.1 1) v2 fun x2 =>
    xwI 862 M 2 ((431 * v1) + v2) x2 fun M3 =>
    b14 M3 (v2 + 1)
def fX7_save_L14 (v1 : Int32) (k45 : xM → Option (Int32 × xM)) : Nat → xM → Int32 → Option (Int32 × xM)
  | 0, _, _ => none
  | n + 1, M, v2 => fX7_save_B14 v1 k45 M v2 (fun M v2 => fX7_save_L14 v1 k45 n M v2)
def fX7_save (M : xM) (p1 : Int32) : Option (Int32 × xM) :=
  (fX7_in M p1 0 1).bind fun z1 =>
  if z1 = 0 then
    some ((-5), M)
  else
    fX7_save_L14 p1 (fun M4 => 
  xwI 2 M4 3 p1 (vp_nar .boolean 1) fun M5 =>
  xrd 431 (M5.1 1) 0 fun x6 =>
  some (x6, M5)) 512 M 0
def fX7_restore_B26 (v1 : Int32) (k57 : xM → Option (Int32 × xM)) (M : xM) (v2 : Int32) (b26 : xM → Int32 → Option (Int32 × xM)) : Option (Int32 × xM) :=
  if 431 ≤ v2 then
    k57 M
  else
    xrd 862 (M.1 2) ((431 * v1) + v2) fun x3 =>
    xwI 431 M 1 v2 x3 fun M4 =>
    b26 M4 (v2 + 1)
def fX7_restore_L26 (v1 : Int32) (k57 : xM → Option (Int32 × xM)) : Nat → xM → Int32 → Option (Int32 × xM)
  | 0, _, _ => none
  | n + 1, M, v2 => fX7_restore_B26 v1 k57 M v2 (fun M v2 => fX7_restore_L26 v1 k57 n M v2)
def fX7_restore (M : xM) (p1 : Int32) : Option (Int32 × xM) :=
  (fX7_in M p1 0 1).bind fun z1 =>
  if z1 = 0 then
    some ((-5), M)
  else
    xrd 2 (M.1 3) p1 fun x2 =>
    if x2 = 0 then
      some ((-8), M)
    else
      fX7_restore_L26 p1 (fun M5 => 
  xrd 431 (M5.1 1) 0 fun x6 =>
  some (x6, M5)) 512 M 0
end
section
set_option maxRecDepth 20000 in
set_option maxHeartbeats 1000000 in
theorem tX3_isBridgeUp {l : Launch} {Y : xY} {ad : Nat → Nat} {fr : va_W} {M : xM} {p1 : Int32} {z0 : Int32} (hf : fX3_isBridgeUp M p1 = some z0) : xcI l Y (wC Y ad fr) yX3_isBridgeUp cX3_isBridgeUp 2 (some .boolean) 0 0 [.ref (ad 0), .int p1] M z0 M := by
  refine x_entryI [(0, .ref (ad 0)), (1, .int p1)] pnX3 rfl (Nat.le_of_ble_eq_true rfl) rfl (fun X C HQ => ?_)
  unfold fX3_isBridgeUp at hf
  refine x_alN 1 C dX3_isBridgeUp_0 0 rfl rfl rfl ?_
  refine xgX3_6 4 C mq_102 dX3_isBridgeUp_1 rfl ?_
  refine x_ilN 5 C dX3_isBridgeUp_4 1 rfl rfl rfl ?_
  refine xrC_2 6 C dX3_isBridgeUp_5 rfl hf (fun x1 hf => ?_)
  refine x_iconst 7 C 1 dX3_isBridgeUp_6 ki_1 rfl ?_
  refine x_icmp_ne 10 C 14 dX3_isBridgeUp_7 (by decide) rfl hf (fun hf => ?_) (fun hf => ?_)
  ·
    refine x_iconst 15 C 0 dX3_isBridgeUp_14 ki_0 rfl ?_
    exact x_iretP C HQ rfl rfl dX3_isBridgeUp_15 hf
  ·
    refine x_iconst 11 C 1 dX3_isBridgeUp_10 ki_1 rfl ?_
    refine x_goto 15 C dX3_isBridgeUp_11 (by decide) ?_
    exact x_iretP C HQ rfl rfl dX3_isBridgeUp_15 hf
set_option maxRecDepth 20000 in
set_option maxHeartbeats 1000000 in
theorem tX3_isActive {l : Launch} {Y : xY} {ad : Nat → Nat} {fr : va_W} {M : xM} {p1 : Int32} {z0 : Int32} (hf : fX3_isActive M p1 = some z0) : xcI l Y (wC Y ad fr) yX3_isActive cX3_isActive 2 (some .boolean) 1 21 [.ref (ad 0), .int p1] M z0 M := by
  refine x_entryI [(0, .ref (ad 0)), (1, .int p1)] pnX3 rfl (Nat.le_of_ble_eq_true rfl) rfl (fun X C HQ => ?_)
  unfold fX3_isActive at hf
  refine x_alN 1 C dX3_isActive_0 0 rfl rfl rfl ?_
  refine xgX3_10 4 C mq_115 dX3_isActive_1 rfl ?_
  refine x_ilN 5 C dX3_isActive_4 1 rfl rfl rfl ?_
  refine xrC_6 6 C dX3_isActive_5 rfl hf (fun x1 hf => ?_)
  refine x_iconst 7 C 1 dX3_isActive_6 ki_1 rfl ?_
  refine x_icmp_ne 10 C 27 dX3_isActive_7 (by decide) rfl hf (fun hf => ?_) (fun hf => ?_)
  ·
    refine x_iconst 28 C 0 dX3_isActive_27 ki_0 rfl ?_
    exact x_iretP C HQ rfl rfl dX3_isActive_28 hf
  ·
    refine x_alN 11 C dX3_isActive_10 0 rfl rfl rfl ?_
    refine x_alN 12 C dX3_isActive_11 0 rfl rfl rfl ?_
    refine xgX3_7 15 C mq_103 dX3_isActive_12 rfl ?_
    refine x_ilN 16 C dX3_isActive_15 1 rfl rfl rfl ?_
    refine xrC_3 17 C dX3_isActive_16 rfl hf (fun x2 hf => ?_)
    refine x_cvIP 20 C [.int x2] hwX3_isBridgeUp mq_327 dX3_isActive_17 rfl ⟨Nat.le_of_ble_eq_true rfl, Nat.le_of_ble_eq_true rfl⟩ 0 wC_at_0 rfl rfl rfl (Nat.le_of_ble_eq_true rfl) (fun z hz => tX3_isBridgeUp hz) hf (fun z3 hf => ?_)
    refine x_if_eq 23 C 27 dX3_isActive_20 (by decide) rfl hf (fun hf => ?_) (fun hf => ?_)
    ·
      refine x_iconst 28 C 0 dX3_isActive_27 ki_0 rfl ?_
      exact x_iretP C HQ rfl rfl dX3_isActive_28 hf
    ·
      refine x_iconst 24 C 1 dX3_isActive_23 ki_1 rfl ?_
      refine x_goto 28 C dX3_isActive_24 (by decide) ?_
      exact x_iretP C HQ rfl rfl dX3_isActive_28 hf
set_option maxRecDepth 20000 in
set_option maxHeartbeats 1000000 in
theorem tX3_storesMessage {l : Launch} {Y : xY} {ad : Nat → Nat} {fr : va_W} {M : xM} {p1 : Int32} {z0 : Int32} (hf : fX3_storesMessage M p1 = some z0) : xcI l Y (wC Y ad fr) yX3_storesMessage cX3_storesMessage 2 (some .boolean) 0 0 [.ref (ad 0), .int p1] M z0 M := by
  refine x_entryI [(0, .ref (ad 0)), (1, .int p1)] pnX3 rfl (Nat.le_of_ble_eq_true rfl) rfl (fun X C HQ => ?_)
  unfold fX3_storesMessage at hf
  refine x_alN 1 C dX3_storesMessage_0 0 rfl rfl rfl ?_
  refine xgX3_14 4 C mq_126 dX3_storesMessage_1 rfl ?_
  refine x_ilN 5 C dX3_storesMessage_4 1 rfl rfl rfl ?_
  refine xrC_10 6 C dX3_storesMessage_5 rfl hf (fun x1 hf => ?_)
  refine x_if_le 9 C 13 dX3_storesMessage_6 (by decide) rfl hf (fun hf => ?_) (fun hf => ?_)
  ·
    refine x_iconst 14 C 0 dX3_storesMessage_13 ki_0 rfl ?_
    exact x_iretP C HQ rfl rfl dX3_storesMessage_14 hf
  ·
    refine x_iconst 10 C 1 dX3_storesMessage_9 ki_1 rfl ?_
    refine x_goto 14 C dX3_storesMessage_10 (by decide) ?_
    exact x_iretP C HQ rfl rfl dX3_storesMessage_14 hf
set_option maxRecDepth 20000 in
set_option maxHeartbeats 1000000 in
theorem tX2_senderOf {l : Launch} {Y : xY} {ad : Nat → Nat} {fr : va_W} {M : xM} {p1 : Int64} {z0 : Int32} (hf : fX2_senderOf M p1 = some z0) : xcI l Y (wC Y ad fr) yX2_senderOf cX2_senderOf 2 (some .int) 0 0 [.long p1] M z0 M := by
  refine x_entryI [(0, .long p1)] pnX2 rfl (Nat.le_of_ble_eq_true rfl) rfl (fun X C HQ => ?_)
  unfold fX2_senderOf at hf
  refine x_llN 1 C dX2_senderOf_0 0 rfl rfl rfl ?_
  refine x_bipush 3 C 8 dX2_senderOf_1 kb_8 rfl ?_
  refine x_lshr 4 C dX2_senderOf_3 rfl ?_
  refine x_ldc2 7 C dX2_senderOf_4 mq_415 rfl ?_
  refine x_land 8 C dX2_senderOf_7 rfl ?_
  refine x_l2i 9 C dX2_senderOf_8 rfl ?_
  exact x_iretP C HQ rfl (vp_nar_int _) dX2_senderOf_9 hf
set_option maxRecDepth 20000 in
set_option maxHeartbeats 1000000 in
theorem tX3_identifierOf {l : Launch} {Y : xY} {ad : Nat → Nat} {fr : va_W} {M : xM} {p1 : Int32} {z0 : Int32} (hf : fX3_identifierOf M p1 = some z0) : xcI l Y (wC Y ad fr) yX3_identifierOf cX3_identifierOf 2 (some .int) 0 0 [.ref (ad 0), .int p1] M z0 M := by
  refine x_entryI [(0, .ref (ad 0)), (1, .int p1)] pnX3 rfl (Nat.le_of_ble_eq_true rfl) rfl (fun X C HQ => ?_)
  unfold fX3_identifierOf at hf
  refine x_bipush 2 C 16 dX3_identifierOf_0 kb_16 rfl ?_
  refine x_alN 3 C dX3_identifierOf_2 0 rfl rfl rfl ?_
  refine xgX3_5 6 C mq_100 dX3_identifierOf_3 rfl ?_
  refine x_ilN 7 C dX3_identifierOf_6 1 rfl rfl rfl ?_
  refine xrC_1 8 C dX3_identifierOf_7 rfl hf (fun x1 hf => ?_)
  refine x_imul 9 C dX3_identifierOf_8 rfl ?_
  refine x_ilN 10 C dX3_identifierOf_9 1 rfl rfl rfl ?_
  refine x_iadd 11 C dX3_identifierOf_10 rfl ?_
  exact x_iretP C HQ rfl (vp_nar_int _) dX3_identifierOf_11 hf
set_option maxRecDepth 20000 in
set_option maxHeartbeats 1000000 in
theorem tX2_withCostAdded {l : Launch} {Y : xY} {ad : Nat → Nat} {fr : va_W} {M : xM} {p1 : Int64} {p2 : Int32} {z0 : Int64} (hf : fX2_withCostAdded M p1 p2 = some z0) : xcL l Y (wC Y ad fr) yX2_withCostAdded cX2_withCostAdded 3 (some .long) 0 0 [.long p1, .int p2] M z0 M := by
  refine x_entryL [(0, .long p1), (2, .int p2)] pnX2 rfl (Nat.le_of_ble_eq_true rfl) rfl (fun X C HQ => ?_)
  unfold fX2_withCostAdded at hf
  refine x_llN 1 C dX2_withCostAdded_0 0 rfl rfl rfl ?_
  refine x_ilN 2 C dX2_withCostAdded_1 1 rfl rfl rfl ?_
  refine x_i2l 3 C dX2_withCostAdded_2 rfl ?_
  refine x_bipush 5 C 16 dX2_withCostAdded_3 kb_16 rfl ?_
  refine x_lshl 6 C dX2_withCostAdded_5 rfl ?_
  refine x_ladd 7 C dX2_withCostAdded_6 rfl ?_
  exact x_lretP C HQ rfl dX2_withCostAdded_7 hf
set_option maxRecDepth 20000 in
set_option maxHeartbeats 1000000 in
theorem tX2_rootOf {l : Launch} {Y : xY} {ad : Nat → Nat} {fr : va_W} {M : xM} {p1 : Int64} {z0 : Int32} (hf : fX2_rootOf M p1 = some z0) : xcI l Y (wC Y ad fr) yX2_rootOf cX2_rootOf 2 (some .int) 0 0 [.long p1] M z0 M := by
  refine x_entryI [(0, .long p1)] pnX2 rfl (Nat.le_of_ble_eq_true rfl) rfl (fun X C HQ => ?_)
  unfold fX2_rootOf at hf
  refine x_llN 1 C dX2_rootOf_0 0 rfl rfl rfl ?_
  refine x_bipush 3 C 40 dX2_rootOf_1 kb_40 rfl ?_
  refine x_lshr 4 C dX2_rootOf_3 rfl ?_
  refine x_l2i 5 C dX2_rootOf_4 rfl ?_
  exact x_iretP C HQ rfl (vp_nar_int _) dX2_rootOf_5 hf
set_option maxRecDepth 20000 in
set_option maxHeartbeats 1000000 in
theorem tX2_costOf {l : Launch} {Y : xY} {ad : Nat → Nat} {fr : va_W} {M : xM} {p1 : Int64} {z0 : Int32} (hf : fX2_costOf M p1 = some z0) : xcI l Y (wC Y ad fr) yX2_costOf cX2_costOf 2 (some .int) 0 0 [.long p1] M z0 M := by
  refine x_entryI [(0, .long p1)] pnX2 rfl (Nat.le_of_ble_eq_true rfl) rfl (fun X C HQ => ?_)
  unfold fX2_costOf at hf
  refine x_llN 1 C dX2_costOf_0 0 rfl rfl rfl ?_
  refine x_bipush 3 C 16 dX2_costOf_1 kb_16 rfl ?_
  refine x_lshr 4 C dX2_costOf_3 rfl ?_
  refine x_ldc2 7 C dX2_costOf_4 mq_437 rfl ?_
  refine x_land 8 C dX2_costOf_7 rfl ?_
  refine x_l2i 9 C dX2_costOf_8 rfl ?_
  exact x_iretP C HQ rfl (vp_nar_int _) dX2_costOf_9 hf
set_option maxRecDepth 20000 in
set_option maxHeartbeats 1000000 in
theorem tX2_of {l : Launch} {Y : xY} {ad : Nat → Nat} {fr : va_W} {M : xM} {p1 : Int32} {p2 : Int32} {p3 : Int32} {p4 : Int32} {z0 : Int64} (hf : fX2_of M p1 p2 p3 p4 = some z0) : xcL l Y (wC Y ad fr) yX2_of cX2_of 4 (some .long) 0 0 [.int p1, .int p2, .int p3, .int p4] M z0 M := by
  refine x_entryL [(0, .int p1), (1, .int p2), (2, .int p3), (3, .int p4)] pnX2 rfl (Nat.le_of_ble_eq_true rfl) rfl (fun X C HQ => ?_)
  unfold fX2_of at hf
  refine x_ilN 1 C dX2_of_0 0 rfl rfl rfl ?_
  refine x_i2l 2 C dX2_of_1 rfl ?_
  refine x_bipush 4 C 40 dX2_of_2 kb_40 rfl ?_
  refine x_lshl 5 C dX2_of_4 rfl ?_
  refine x_ilN 6 C dX2_of_5 1 rfl rfl rfl ?_
  refine x_i2l 7 C dX2_of_6 rfl ?_
  refine x_bipush 9 C 16 dX2_of_7 kb_16 rfl ?_
  refine x_lshl 10 C dX2_of_9 rfl ?_
  refine x_lor 11 C dX2_of_10 rfl ?_
  refine x_ilN 12 C dX2_of_11 2 rfl rfl rfl ?_
  refine x_i2l 13 C dX2_of_12 rfl ?_
  refine x_bipush 15 C 8 dX2_of_13 kb_8 rfl ?_
  refine x_lshl 16 C dX2_of_15 rfl ?_
  refine x_lor 17 C dX2_of_16 rfl ?_
  refine x_ilN 18 C dX2_of_17 3 rfl rfl rfl ?_
  refine x_i2l 19 C dX2_of_18 rfl ?_
  refine x_lor 20 C dX2_of_19 rfl ?_
  exact x_lretP C HQ rfl dX2_of_20 hf
set_option maxRecDepth 20000 in
set_option maxHeartbeats 1000000 in
theorem tX3_entryIndex {l : Launch} {Y : xY} {ad : Nat → Nat} {fr : va_W} {M : xM} {p1 : Int32} {p2 : Int32} {z0 : Int32} (hf : fX3_entryIndex M p1 p2 = some z0) : xcI l Y (wC Y ad fr) yX3_entryIndex cX3_entryIndex 2 (some .int) 0 0 [.int p1, .int p2] M z0 M := by
  refine x_entryI [(0, .int p1), (1, .int p2)] pnX3 rfl (Nat.le_of_ble_eq_true rfl) rfl (fun X C HQ => ?_)
  unfold fX3_entryIndex at hf
  refine x_ilN 1 C dX3_entryIndex_0 0 rfl rfl rfl ?_
  refine x_bipush 3 C 8 dX3_entryIndex_1 kb_8 rfl ?_
  refine x_imul 4 C dX3_entryIndex_3 rfl ?_
  refine x_ilN 5 C dX3_entryIndex_4 1 rfl rfl rfl ?_
  refine x_iadd 6 C dX3_entryIndex_5 rfl ?_
  exact x_iretP C HQ rfl (vp_nar_int _) dX3_entryIndex_6 hf
set_option maxRecDepth 20000 in
set_option maxHeartbeats 1000000 in
theorem tX3_learn {l : Launch} {Y : xY} {ad : Nat → Nat} {fr : va_W} {M : xM} {p1 : Int32} {p2 : Int32} {z0 : xM} (hf : fX3_learn M p1 p2 = some z0) : xcV l Y (wC Y ad fr) yX3_learn cX3_learn 4 none 1 21 [.ref (ad 0), .int p1, .int p2] M z0 := by
  refine x_entryV [(0, .ref (ad 0)), (1, .int p1), (2, .int p2)] pnX3 rfl (Nat.le_of_ble_eq_true rfl) rfl (fun X C HQ => ?_)
  unfold fX3_learn at hf
  refine x_alN 1 C dX3_learn_0 0 rfl rfl rfl ?_
  refine xgX3_7 4 C mq_103 dX3_learn_1 rfl ?_
  refine x_ilN 5 C dX3_learn_4 2 rfl rfl rfl ?_
  refine xrC_3 6 C dX3_learn_5 rfl hf (fun x1 hf => ?_)
  refine x_ilN 7 C dX3_learn_6 1 rfl rfl rfl ?_
  refine x_csIP 10 C [.int x1, .int p1] hwX3_entryIndex mq_609 dX3_learn_7 rfl ⟨Nat.le_of_ble_eq_true rfl, Nat.le_of_ble_eq_true rfl⟩ rfl rfl (Nat.le_of_ble_eq_true rfl) (fun z hz => tX3_entryIndex hz) hf (fun z2 hf => ?_)
  refine x_isN 11 C 3 (lv2 := [(3, .int z2), (0, .ref (ad 0)), (1, .int p1), (2, .int p2)]) dX3_learn_10 rfl rfl (Nat.le_of_ble_eq_true rfl) rfl ?_
  refine x_alN 12 C dX3_learn_11 1 rfl rfl rfl ?_
  refine xgX3_16 15 C mq_132 dX3_learn_12 rfl ?_
  refine x_ilN 16 C dX3_learn_15 0 rfl rfl rfl ?_
  refine x_ilN 17 C dX3_learn_16 3 rfl rfl rfl ?_
  refine xwC_12 18 C dX3_learn_17 rfl hf (fun M3 hf => ?_)
  refine x_alN 19 C dX3_learn_18 1 rfl rfl rfl ?_
  refine xgX3_17 22 C mq_133 dX3_learn_19 rfl ?_
  refine x_ilN 23 C dX3_learn_22 0 rfl rfl rfl ?_
  refine x_bipush 25 C 10 dX3_learn_23 kb_10 rfl ?_
  refine xwC_13 26 C dX3_learn_25 rfl hf (fun M4 hf => ?_)
  exact x_vret C HQ rfl dX3_learn_26 hf
set_option maxRecDepth 20000 in
set_option maxHeartbeats 1000000 in
theorem tX3_learnedPort {l : Launch} {Y : xY} {ad : Nat → Nat} {fr : va_W} {M : xM} {p1 : Int32} {p2 : Int32} {z0 : Int32} (hf : fX3_learnedPort M p1 p2 = some z0) : xcI l Y (wC Y ad fr) yX3_learnedPort cX3_learnedPort 4 (some .int) 1 21 [.ref (ad 0), .int p1, .int p2] M z0 M := by
  refine x_entryI [(0, .ref (ad 0)), (1, .int p1), (2, .int p2)] pnX3 rfl (Nat.le_of_ble_eq_true rfl) rfl (fun X C HQ => ?_)
  unfold fX3_learnedPort at hf
  refine x_ilN 1 C dX3_learnedPort_0 1 rfl rfl rfl ?_
  refine x_ilN 2 C dX3_learnedPort_1 2 rfl rfl rfl ?_
  refine x_csIP 5 C [.int p1, .int p2] hwX3_entryIndex mq_609 dX3_learnedPort_2 rfl ⟨Nat.le_of_ble_eq_true rfl, Nat.le_of_ble_eq_true rfl⟩ rfl rfl (Nat.le_of_ble_eq_true rfl) (fun z hz => tX3_entryIndex hz) hf (fun z1 hf => ?_)
  refine x_isN 6 C 3 (lv2 := [(3, .int z1), (0, .ref (ad 0)), (1, .int p1), (2, .int p2)]) dX3_learnedPort_5 rfl rfl (Nat.le_of_ble_eq_true rfl) rfl ?_
  refine x_alN 7 C dX3_learnedPort_6 1 rfl rfl rfl ?_
  refine xgX3_17 10 C mq_133 dX3_learnedPort_7 rfl ?_
  refine x_ilN 11 C dX3_learnedPort_10 0 rfl rfl rfl ?_
  refine xrC_13 12 C dX3_learnedPort_11 rfl hf (fun x2 hf => ?_)
  refine x_if_le 15 C 24 dX3_learnedPort_12 (by decide) rfl hf (fun hf => ?_) (fun hf => ?_)
  ·
    refine x_iconst 25 C (-1) dX3_learnedPort_24 ki_m1 rfl ?_
    exact x_iretP C HQ rfl (vp_nar_int _) dX3_learnedPort_25 hf
  ·
    refine x_alN 16 C dX3_learnedPort_15 1 rfl rfl rfl ?_
    refine xgX3_16 19 C mq_132 dX3_learnedPort_16 rfl ?_
    refine x_ilN 20 C dX3_learnedPort_19 0 rfl rfl rfl ?_
    refine xrC_12 21 C dX3_learnedPort_20 rfl hf (fun x3 hf => ?_)
    refine x_goto 25 C dX3_learnedPort_21 (by decide) ?_
    exact x_iretP C HQ rfl (vp_nar_int _) dX3_learnedPort_25 hf
set_option maxRecDepth 20000 in
set_option maxHeartbeats 1000000 in
theorem tX3_isForwarding {l : Launch} {Y : xY} {ad : Nat → Nat} {fr : va_W} {M : xM} {p1 : Int32} {z0 : Int32} (hf : fX3_isForwarding M p1 = some z0) : xcI l Y (wC Y ad fr) yX3_isForwarding cX3_isForwarding 2 (some .boolean) 0 0 [.ref (ad 0), .int p1] M z0 M := by
  refine x_entryI [(0, .ref (ad 0)), (1, .int p1)] pnX3 rfl (Nat.le_of_ble_eq_true rfl) rfl (fun X C HQ => ?_)
  unfold fX3_isForwarding at hf
  refine x_alN 1 C dX3_isForwarding_0 0 rfl rfl rfl ?_
  refine xgX3_11 4 C mq_116 dX3_isForwarding_1 rfl ?_
  refine x_ilN 5 C dX3_isForwarding_4 1 rfl rfl rfl ?_
  refine xrC_7 6 C dX3_isForwarding_5 rfl hf (fun x1 hf => ?_)
  refine x_iconst 7 C 4 dX3_isForwarding_6 ki_4 rfl ?_
  refine x_icmp_ne 10 C 14 dX3_isForwarding_7 (by decide) rfl hf (fun hf => ?_) (fun hf => ?_)
  ·
    refine x_iconst 15 C 0 dX3_isForwarding_14 ki_0 rfl ?_
    exact x_iretP C HQ rfl rfl dX3_isForwarding_15 hf
  ·
    refine x_iconst 11 C 1 dX3_isForwarding_10 ki_1 rfl ?_
    refine x_goto 15 C dX3_isForwarding_11 (by decide) ?_
    exact x_iretP C HQ rfl rfl dX3_isForwarding_15 hf
set_option maxRecDepth 20000 in
set_option maxHeartbeats 1000000 in
theorem tX2_senderPortOf {l : Launch} {Y : xY} {ad : Nat → Nat} {fr : va_W} {M : xM} {p1 : Int64} {z0 : Int32} (hf : fX2_senderPortOf M p1 = some z0) : xcI l Y (wC Y ad fr) yX2_senderPortOf cX2_senderPortOf 2 (some .int) 0 0 [.long p1] M z0 M := by
  refine x_entryI [(0, .long p1)] pnX2 rfl (Nat.le_of_ble_eq_true rfl) rfl (fun X C HQ => ?_)
  unfold fX2_senderPortOf at hf
  refine x_llN 1 C dX2_senderPortOf_0 0 rfl rfl rfl ?_
  refine x_ldc2 4 C dX2_senderPortOf_1 mq_415 rfl ?_
  refine x_land 5 C dX2_senderPortOf_4 rfl ?_
  refine x_l2i 6 C dX2_senderPortOf_5 rfl ?_
  exact x_iretP C HQ rfl (vp_nar_int _) dX2_senderPortOf_6 hf
set_option maxRecDepth 20000 in
set_option maxHeartbeats 1000000 in
theorem tX2_haveSameSource {l : Launch} {Y : xY} {ad : Nat → Nat} {fr : va_W} {M : xM} {p1 : Int64} {p2 : Int64} {z0 : Int32} (hf : fX2_haveSameSource M p1 p2 = some z0) : xcI l Y (wC Y ad fr) yX2_haveSameSource cX2_haveSameSource 4 (some .boolean) 0 0 [.long p1, .long p2] M z0 M := by
  refine x_entryI [(0, .long p1), (2, .long p2)] pnX2 rfl (Nat.le_of_ble_eq_true rfl) rfl (fun X C HQ => ?_)
  unfold fX2_haveSameSource at hf
  refine x_llN 1 C dX2_haveSameSource_0 0 rfl rfl rfl ?_
  refine x_ldc2 4 C dX2_haveSameSource_1 mq_483 rfl ?_
  refine x_land 5 C dX2_haveSameSource_4 rfl ?_
  refine x_llN 6 C dX2_haveSameSource_5 1 rfl rfl rfl ?_
  refine x_ldc2 9 C dX2_haveSameSource_6 mq_483 rfl ?_
  refine x_land 10 C dX2_haveSameSource_9 rfl ?_
  refine x_lcmp 11 C dX2_haveSameSource_10 rfl ?_
  refine x_if_ne 14 C 18 dX2_haveSameSource_11 (by decide) rfl hf (fun hf => ?_) (fun hf => ?_)
  ·
    refine x_iconst 19 C 0 dX2_haveSameSource_18 ki_0 rfl ?_
    exact x_iretP C HQ rfl rfl dX2_haveSameSource_19 hf
  ·
    refine x_iconst 15 C 1 dX2_haveSameSource_14 ki_1 rfl ?_
    refine x_goto 19 C dX2_haveSameSource_15 (by decide) ?_
    exact x_iretP C HQ rfl rfl dX2_haveSameSource_19 hf
set_option maxRecDepth 20000 in
set_option maxHeartbeats 1000000 in
theorem tX3_hasBridge {l : Launch} {Y : xY} {ad : Nat → Nat} {fr : va_W} {M : xM} {p1 : Int32} {z0 : Int32} (hf : fX3_hasBridge M p1 = some z0) : xcI l Y (wC Y ad fr) yX3_hasBridge cX3_hasBridge 2 (some .boolean) 0 0 [.ref (ad 0), .int p1] M z0 M := by
  refine x_entryI [(0, .ref (ad 0)), (1, .int p1)] pnX3 rfl (Nat.le_of_ble_eq_true rfl) rfl (fun X C HQ => ?_)
  unfold fX3_hasBridge at hf
  refine x_ilN 1 C dX3_hasBridge_0 1 rfl rfl rfl ?_
  refine x_if_lt 4 C 16 dX3_hasBridge_1 (by decide) rfl hf (fun hf => ?_) (fun hf => ?_)
  ·
    refine x_iconst 17 C 0 dX3_hasBridge_16 ki_0 rfl ?_
    exact x_iretP C HQ rfl rfl dX3_hasBridge_17 hf
  ·
    refine x_ilN 5 C dX3_hasBridge_4 1 rfl rfl rfl ?_
    refine x_alN 6 C dX3_hasBridge_5 0 rfl rfl rfl ?_
    refine xgX3_0 9 C mq_81 dX3_hasBridge_6 rfl ?_
    refine x_icmp_ge 12 C 16 dX3_hasBridge_9 (by decide) rfl hf (fun hf => ?_) (fun hf => ?_)
    ·
      refine x_iconst 17 C 0 dX3_hasBridge_16 ki_0 rfl ?_
      exact x_iretP C HQ rfl rfl dX3_hasBridge_17 hf
    ·
      refine x_iconst 13 C 1 dX3_hasBridge_12 ki_1 rfl ?_
      refine x_goto 17 C dX3_hasBridge_13 (by decide) ?_
      exact x_iretP C HQ rfl rfl dX3_hasBridge_17 hf
set_option maxRecDepth 20000 in
set_option maxHeartbeats 1000000 in
theorem tX3_hasSegment {l : Launch} {Y : xY} {ad : Nat → Nat} {fr : va_W} {M : xM} {p1 : Int32} {z0 : Int32} (hf : fX3_hasSegment M p1 = some z0) : xcI l Y (wC Y ad fr) yX3_hasSegment cX3_hasSegment 2 (some .boolean) 0 0 [.ref (ad 0), .int p1] M z0 M := by
  refine x_entryI [(0, .ref (ad 0)), (1, .int p1)] pnX3 rfl (Nat.le_of_ble_eq_true rfl) rfl (fun X C HQ => ?_)
  unfold fX3_hasSegment at hf
  refine x_ilN 1 C dX3_hasSegment_0 1 rfl rfl rfl ?_
  refine x_if_lt 4 C 16 dX3_hasSegment_1 (by decide) rfl hf (fun hf => ?_) (fun hf => ?_)
  ·
    refine x_iconst 17 C 0 dX3_hasSegment_16 ki_0 rfl ?_
    exact x_iretP C HQ rfl rfl dX3_hasSegment_17 hf
  ·
    refine x_ilN 5 C dX3_hasSegment_4 1 rfl rfl rfl ?_
    refine x_alN 6 C dX3_hasSegment_5 0 rfl rfl rfl ?_
    refine xgX3_1 9 C mq_85 dX3_hasSegment_6 rfl ?_
    refine x_icmp_ge 12 C 16 dX3_hasSegment_9 (by decide) rfl hf (fun hf => ?_) (fun hf => ?_)
    ·
      refine x_iconst 17 C 0 dX3_hasSegment_16 ki_0 rfl ?_
      exact x_iretP C HQ rfl rfl dX3_hasSegment_17 hf
    ·
      refine x_iconst 13 C 1 dX3_hasSegment_12 ki_1 rfl ?_
      refine x_goto 17 C dX3_hasSegment_13 (by decide) ?_
      exact x_iretP C HQ rfl rfl dX3_hasSegment_17 hf
set_option maxRecDepth 20000 in
set_option maxHeartbeats 1000000 in
theorem tX3_hasPort {l : Launch} {Y : xY} {ad : Nat → Nat} {fr : va_W} {M : xM} {p1 : Int32} {z0 : Int32} (hf : fX3_hasPort M p1 = some z0) : xcI l Y (wC Y ad fr) yX3_hasPort cX3_hasPort 2 (some .boolean) 0 0 [.ref (ad 0), .int p1] M z0 M := by
  refine x_entryI [(0, .ref (ad 0)), (1, .int p1)] pnX3 rfl (Nat.le_of_ble_eq_true rfl) rfl (fun X C HQ => ?_)
  unfold fX3_hasPort at hf
  refine x_ilN 1 C dX3_hasPort_0 1 rfl rfl rfl ?_
  refine x_if_lt 4 C 16 dX3_hasPort_1 (by decide) rfl hf (fun hf => ?_) (fun hf => ?_)
  ·
    refine x_iconst 17 C 0 dX3_hasPort_16 ki_0 rfl ?_
    exact x_iretP C HQ rfl rfl dX3_hasPort_17 hf
  ·
    refine x_ilN 5 C dX3_hasPort_4 1 rfl rfl rfl ?_
    refine x_alN 6 C dX3_hasPort_5 0 rfl rfl rfl ?_
    refine xgX3_2 9 C mq_90 dX3_hasPort_6 rfl ?_
    refine x_icmp_ge 12 C 16 dX3_hasPort_9 (by decide) rfl hf (fun hf => ?_) (fun hf => ?_)
    ·
      refine x_iconst 17 C 0 dX3_hasPort_16 ki_0 rfl ?_
      exact x_iretP C HQ rfl rfl dX3_hasPort_17 hf
    ·
      refine x_iconst 13 C 1 dX3_hasPort_12 ki_1 rfl ?_
      refine x_goto 17 C dX3_hasPort_13 (by decide) ?_
      exact x_iretP C HQ rfl rfl dX3_hasPort_17 hf
set_option maxRecDepth 20000 in
set_option maxHeartbeats 1000000 in
theorem tX3_hasStation {l : Launch} {Y : xY} {ad : Nat → Nat} {fr : va_W} {M : xM} {p1 : Int32} {z0 : Int32} (hf : fX3_hasStation M p1 = some z0) : xcI l Y (wC Y ad fr) yX3_hasStation cX3_hasStation 2 (some .boolean) 0 0 [.ref (ad 0), .int p1] M z0 M := by
  refine x_entryI [(0, .ref (ad 0)), (1, .int p1)] pnX3 rfl (Nat.le_of_ble_eq_true rfl) rfl (fun X C HQ => ?_)
  unfold fX3_hasStation at hf
  refine x_ilN 1 C dX3_hasStation_0 1 rfl rfl rfl ?_
  refine x_if_lt 4 C 16 dX3_hasStation_1 (by decide) rfl hf (fun hf => ?_) (fun hf => ?_)
  ·
    refine x_iconst 17 C 0 dX3_hasStation_16 ki_0 rfl ?_
    exact x_iretP C HQ rfl rfl dX3_hasStation_17 hf
  ·
    refine x_ilN 5 C dX3_hasStation_4 1 rfl rfl rfl ?_
    refine x_alN 6 C dX3_hasStation_5 0 rfl rfl rfl ?_
    refine xgX3_3 9 C mq_95 dX3_hasStation_6 rfl ?_
    refine x_icmp_ge 12 C 16 dX3_hasStation_9 (by decide) rfl hf (fun hf => ?_) (fun hf => ?_)
    ·
      refine x_iconst 17 C 0 dX3_hasStation_16 ki_0 rfl ?_
      exact x_iretP C HQ rfl rfl dX3_hasStation_17 hf
    ·
      refine x_iconst 13 C 1 dX3_hasStation_12 ki_1 rfl ?_
      refine x_goto 17 C dX3_hasStation_13 (by decide) ?_
      exact x_iretP C HQ rfl rfl dX3_hasStation_17 hf
set_option maxRecDepth 20000 in
set_option maxHeartbeats 1000000 in
theorem tX3_appendBridge {l : Launch} {Y : xY} {ad : Nat → Nat} {fr : va_W} {M : xM} {p1 : Int32} {z0 : Int32 × xM} (hf : fX3_appendBridge M p1 = some z0) : xcI l Y (wC Y ad fr) yX3_appendBridge cX3_appendBridge 3 (some .int) 0 0 [.ref (ad 0), .int p1] M z0.1 z0.2 := by
  refine x_entryI [(0, .ref (ad 0)), (1, .int p1)] pnX3 rfl (Nat.le_of_ble_eq_true rfl) rfl (fun X C HQ => ?_)
  unfold fX3_appendBridge at hf
  refine x_alN 1 C dX3_appendBridge_0 0 rfl rfl rfl ?_
  refine xgX3_0 4 C mq_81 dX3_appendBridge_1 rfl ?_
  refine x_isN 5 C 2 (lv2 := [(2, .int (M.1 0 0)), (0, .ref (ad 0)), (1, .int p1)]) dX3_appendBridge_4 rfl rfl (Nat.le_of_ble_eq_true rfl) rfl ?_
  refine x_alN 6 C dX3_appendBridge_5 1 rfl rfl rfl ?_
  refine xgX3_5 9 C mq_100 dX3_appendBridge_6 rfl ?_
  refine x_ilN 10 C dX3_appendBridge_9 0 rfl rfl rfl ?_
  refine x_ilN 11 C dX3_appendBridge_10 2 rfl rfl rfl ?_
  refine xwC_1 12 C dX3_appendBridge_11 rfl hf (fun M1 hf => ?_)
  refine x_alN 13 C dX3_appendBridge_12 1 rfl rfl rfl ?_
  refine xgX3_6 16 C mq_102 dX3_appendBridge_13 rfl ?_
  refine x_ilN 17 C dX3_appendBridge_16 0 rfl rfl rfl ?_
  refine x_iconst 18 C 1 dX3_appendBridge_17 ki_1 rfl ?_
  refine xwC_2 19 C dX3_appendBridge_18 rfl hf (fun M2 hf => ?_)
  refine x_alN 20 C dX3_appendBridge_19 1 rfl rfl rfl ?_
  refine x_dup 21 C dX3_appendBridge_20 rfl rfl ?_
  refine xgX3_0 24 C mq_81 dX3_appendBridge_21 rfl ?_
  refine x_iconst 25 C 1 dX3_appendBridge_24 ki_1 rfl ?_
  refine x_iadd 26 C dX3_appendBridge_25 rfl ?_
  refine xpX3_0 29 C mq_81 dX3_appendBridge_26 rfl hf (fun M3 hf => ?_)
  refine x_ilN 30 C dX3_appendBridge_29 0 rfl rfl rfl ?_
  exact x_iretM C HQ rfl (vp_nar_int _) dX3_appendBridge_30 hf
set_option maxRecDepth 20000 in
set_option maxHeartbeats 1000000 in
theorem tX3_appendSegment {l : Launch} {Y : xY} {ad : Nat → Nat} {fr : va_W} {M : xM}  {z0 : Int32 × xM} (hf : fX3_appendSegment M = some z0) : xcI l Y (wC Y ad fr) yX3_appendSegment cX3_appendSegment 2 (some .int) 0 0 [.ref (ad 0)] M z0.1 z0.2 := by
  refine x_entryI [(0, .ref (ad 0))] pnX3 rfl (Nat.le_of_ble_eq_true rfl) rfl (fun X C HQ => ?_)
  unfold fX3_appendSegment at hf
  refine x_alN 1 C dX3_appendSegment_0 0 rfl rfl rfl ?_
  refine xgX3_1 4 C mq_85 dX3_appendSegment_1 rfl ?_
  refine x_isN 5 C 1 (lv2 := [(1, .int (M.1 0 1)), (0, .ref (ad 0))]) dX3_appendSegment_4 rfl rfl (Nat.le_of_ble_eq_true rfl) rfl ?_
  refine x_alN 6 C dX3_appendSegment_5 1 rfl rfl rfl ?_
  refine x_dup 7 C dX3_appendSegment_6 rfl rfl ?_
  refine xgX3_1 10 C mq_85 dX3_appendSegment_7 rfl ?_
  refine x_iconst 11 C 1 dX3_appendSegment_10 ki_1 rfl ?_
  refine x_iadd 12 C dX3_appendSegment_11 rfl ?_
  refine xpX3_1 15 C mq_85 dX3_appendSegment_12 rfl hf (fun M1 hf => ?_)
  refine x_ilN 16 C dX3_appendSegment_15 0 rfl rfl rfl ?_
  exact x_iretM C HQ rfl (vp_nar_int _) dX3_appendSegment_16 hf
set_option maxRecDepth 20000 in
set_option maxHeartbeats 1000000 in
theorem tX3_appendPort_j57 {l : Launch} {Y : xY} {X : xE} {ad : Nat → Nat} {fr : va_W} {z0 : Int32 × xM} (C : xC Y X cX3_appendPort RX3 (some .int) 5 1 21) (HQ : xRI Y X (wC Y ad fr) z0.1 z0.2) (M : xM) (v4 : Int32) (s0 : Int32) (s1 : Int32)  (hf : fX3_appendPort_j57 M v4 s0 s1 = some z0) : xG Y l X (wC Y ad fr) M 57 [(0, .ref (ad 0)), (4, .int v4)] [.int s0, .int s1, .ref (ad 7)] := by
  unfold fX3_appendPort_j57 at hf
  refine xwC_7 58 C dX3_appendPort_57 rfl hf (fun M6 hf => ?_)
  refine x_alN 59 C dX3_appendPort_58 0 rfl rfl rfl ?_
  refine x_dup 60 C dX3_appendPort_59 rfl rfl ?_
  refine xgX3_2 63 C mq_90 dX3_appendPort_60 rfl ?_
  refine x_iconst 64 C 1 dX3_appendPort_63 ki_1 rfl ?_
  refine x_iadd 65 C dX3_appendPort_64 rfl ?_
  refine xpX3_2 68 C mq_90 dX3_appendPort_65 rfl hf (fun M7 hf => ?_)
  refine x_il 70 C dX3_appendPort_68 1 rfl rfl ?_
  exact x_iretM C HQ rfl (vp_nar_int _) dX3_appendPort_70 hf
set_option maxRecDepth 20000 in
set_option maxHeartbeats 1000000 in
theorem tX3_appendPort {l : Launch} {Y : xY} {ad : Nat → Nat} {fr : va_W} {M : xM} {p1 : Int32} {p2 : Int32} {p3 : Int32} {z0 : Int32 × xM} (hf : fX3_appendPort M p1 p2 p3 = some z0) : xcI l Y (wC Y ad fr) yX3_appendPort cX3_appendPort 5 (some .int) 1 21 [.ref (ad 0), .int p1, .int p2, .int p3] M z0.1 z0.2 := by
  refine x_entryI [(0, .ref (ad 0)), (1, .int p1), (2, .int p2), (3, .int p3)] pnX3 rfl (Nat.le_of_ble_eq_true rfl) rfl (fun X C HQ => ?_)
  unfold fX3_appendPort at hf
  refine x_alN 1 C dX3_appendPort_0 0 rfl rfl rfl ?_
  refine xgX3_2 4 C mq_90 dX3_appendPort_1 rfl ?_
  refine x_is 6 C 4 (lv2 := [(4, .int (M.1 0 2)), (0, .ref (ad 0)), (1, .int p1), (2, .int p2), (3, .int p3)]) dX3_appendPort_4 rfl (Nat.le_of_ble_eq_true rfl) rfl ?_
  refine x_alN 7 C dX3_appendPort_6 1 rfl rfl rfl ?_
  refine xgX3_7 10 C mq_103 dX3_appendPort_7 rfl ?_
  refine x_il 12 C dX3_appendPort_10 0 rfl rfl ?_
  refine x_ilN 13 C dX3_appendPort_12 2 rfl rfl rfl ?_
  refine xwC_3 14 C dX3_appendPort_13 rfl hf (fun M1 hf => ?_)
  refine x_alN 15 C dX3_appendPort_14 1 rfl rfl rfl ?_
  refine xgX3_8 18 C mq_108 dX3_appendPort_15 rfl ?_
  refine x_il 20 C dX3_appendPort_18 0 rfl rfl ?_
  refine x_ilN 21 C dX3_appendPort_20 3 rfl rfl rfl ?_
  refine xwC_4 22 C dX3_appendPort_21 rfl hf (fun M2 hf => ?_)
  refine x_alN 23 C dX3_appendPort_22 1 rfl rfl rfl ?_
  refine xgX3_9 26 C mq_112 dX3_appendPort_23 rfl ?_
  refine x_il 28 C dX3_appendPort_26 0 rfl rfl ?_
  refine x_ilN 29 C dX3_appendPort_28 4 rfl rfl rfl ?_
  refine xwC_5 30 C dX3_appendPort_29 rfl hf (fun M3 hf => ?_)
  refine x_alN 31 C dX3_appendPort_30 1 rfl rfl rfl ?_
  refine xgX3_10 34 C mq_115 dX3_appendPort_31 rfl ?_
  refine x_il 36 C dX3_appendPort_34 0 rfl rfl ?_
  refine x_iconst 37 C 1 dX3_appendPort_36 ki_1 rfl ?_
  refine xwC_6 38 C dX3_appendPort_37 rfl hf (fun M4 hf => ?_)
  refine x_alN 39 C dX3_appendPort_38 1 rfl rfl rfl ?_
  refine xgX3_11 42 C mq_116 dX3_appendPort_39 rfl ?_
  refine x_il 44 C dX3_appendPort_42 0 rfl rfl ?_
  refine x_alN 45 C dX3_appendPort_44 1 rfl rfl rfl ?_
  refine x_ilN 46 C dX3_appendPort_45 2 rfl rfl rfl ?_
  refine x_cvIP 49 C [.int p1] hwX3_isBridgeUp mq_327 dX3_appendPort_46 rfl ⟨Nat.le_of_ble_eq_true rfl, Nat.le_of_ble_eq_true rfl⟩ 0 wC_at_0 rfl rfl rfl (Nat.le_of_ble_eq_true rfl) (fun z hz => tX3_isBridgeUp hz) hf (fun z5 hf => ?_)
  refine x_if_eq 52 C 56 dX3_appendPort_49 (by decide) rfl hf (fun hf => ?_) (fun hf => ?_)
  ·
    refine x_iconst 57 C 0 dX3_appendPort_56 ki_0 rfl ?_
    refine x_sub [1, 0] rfl ?_
    exact tX3_appendPort_j57 C HQ _ _ _ _  hf
  ·
    refine x_iconst 53 C 1 dX3_appendPort_52 ki_1 rfl ?_
    refine x_goto 57 C dX3_appendPort_53 (by decide) ?_
    refine x_sub [1, 0] rfl ?_
    exact tX3_appendPort_j57 C HQ _ _ _ _  hf
set_option maxRecDepth 20000 in
set_option maxHeartbeats 1000000 in
theorem tX3_appendStation {l : Launch} {Y : xY} {ad : Nat → Nat} {fr : va_W} {M : xM} {p1 : Int32} {z0 : Int32 × xM} (hf : fX3_appendStation M p1 = some z0) : xcI l Y (wC Y ad fr) yX3_appendStation cX3_appendStation 3 (some .int) 0 0 [.ref (ad 0), .int p1] M z0.1 z0.2 := by
  refine x_entryI [(0, .ref (ad 0)), (1, .int p1)] pnX3 rfl (Nat.le_of_ble_eq_true rfl) rfl (fun X C HQ => ?_)
  unfold fX3_appendStation at hf
  refine x_alN 1 C dX3_appendStation_0 0 rfl rfl rfl ?_
  refine xgX3_3 4 C mq_95 dX3_appendStation_1 rfl ?_
  refine x_isN 5 C 2 (lv2 := [(2, .int (M.1 0 3)), (0, .ref (ad 0)), (1, .int p1)]) dX3_appendStation_4 rfl rfl (Nat.le_of_ble_eq_true rfl) rfl ?_
  refine x_alN 6 C dX3_appendStation_5 1 rfl rfl rfl ?_
  refine xgX3_15 9 C mq_129 dX3_appendStation_6 rfl ?_
  refine x_ilN 10 C dX3_appendStation_9 0 rfl rfl rfl ?_
  refine x_ilN 11 C dX3_appendStation_10 2 rfl rfl rfl ?_
  refine xwC_11 12 C dX3_appendStation_11 rfl hf (fun M1 hf => ?_)
  refine x_alN 13 C dX3_appendStation_12 1 rfl rfl rfl ?_
  refine x_dup 14 C dX3_appendStation_13 rfl rfl ?_
  refine xgX3_3 17 C mq_95 dX3_appendStation_14 rfl ?_
  refine x_iconst 18 C 1 dX3_appendStation_17 ki_1 rfl ?_
  refine x_iadd 19 C dX3_appendStation_18 rfl ?_
  refine xpX3_3 22 C mq_95 dX3_appendStation_19 rfl hf (fun M2 hf => ?_)
  refine x_ilN 23 C dX3_appendStation_22 0 rfl rfl rfl ?_
  exact x_iretM C HQ rfl (vp_nar_int _) dX3_appendStation_23 hf
set_option maxRecDepth 20000 in
set_option maxHeartbeats 1000000 in
theorem tX3_forgetEntriesWith_B2 {l : Launch} {Y : xY} {X : xE} {ad : Nat → Nat} {fr : va_W} {z0 : xM} (C : xC Y X cX3_forgetEntriesWith RX3 none 3 0 0) (HQ : xRV Y X (wC Y ad fr) z0)  (v1 : Int32) (k34 : xM → Option (xM)) (Hk34 : ∀ (M : xM), k34 M = some z0 → xG Y l X (wC Y ad fr) M 34 [] []) (M : xM) (v2 : Int32) (b2 : xM → Int32 → Option (xM)) (Hb2 : ∀ (M : xM) (v2 : Int32), b2 M v2 = some z0 → xG Y l X (wC Y ad fr) M 2 [(0, .ref (ad 0)), (1, .int v1), (2, .int v2)] []) (hf : fX3_forgetEntriesWith_B2 v1 k34 M v2 b2 = some z0) : xG Y l X (wC Y ad fr) M 2 [(0, .ref (ad 0)), (1, .int v1), (2, .int v2)] [] := by
  unfold fX3_forgetEntriesWith_B2 at hf
  refine x_ilN 3 C dX3_forgetEntriesWith_2 2 rfl rfl rfl ?_
  refine x_alN 4 C dX3_forgetEntriesWith_3 0 rfl rfl rfl ?_
  refine xgX3_16 7 C mq_132 dX3_forgetEntriesWith_4 rfl ?_
  refine x_alenI 8 C 12 64 wC_at_12 rfl dX3_forgetEntriesWith_7 rfl ?_
  refine x_icmp_ge 11 C 34 dX3_forgetEntriesWith_8 (by decide) rfl hf (fun hf => ?_) (fun hf => ?_)
  ·
    refine x_sub [] rfl ?_
    exact Hk34 _ hf
  ·
    refine x_alN 12 C dX3_forgetEntriesWith_11 0 rfl rfl rfl ?_
    refine xgX3_16 15 C mq_132 dX3_forgetEntriesWith_12 rfl ?_
    refine x_ilN 16 C dX3_forgetEntriesWith_15 2 rfl rfl rfl ?_
    refine xrC_12 17 C dX3_forgetEntriesWith_16 rfl hf (fun x1 hf => ?_)
    refine x_ilN 18 C dX3_forgetEntriesWith_17 1 rfl rfl rfl ?_
    refine x_icmp_ne 21 C 28 dX3_forgetEntriesWith_18 (by decide) rfl hf (fun hf => ?_) (fun hf => ?_)
    ·
      refine x_iinc 31 C (v2 + 1) (lv2 := [(2, .int (v2 + 1)), (0, .ref (ad 0)), (1, .int v1)]) dX3_forgetEntriesWith_28 2 rfl rfl rfl (Nat.le_of_ble_eq_true rfl) rfl ?_
      refine x_goto 2 C dX3_forgetEntriesWith_31 (by decide) ?_
      refine x_sub [1, 2, 0] rfl ?_
      exact Hb2 _ _ hf
    ·
      refine x_alN 22 C dX3_forgetEntriesWith_21 0 rfl rfl rfl ?_
      refine xgX3_17 25 C mq_133 dX3_forgetEntriesWith_22 rfl ?_
      refine x_ilN 26 C dX3_forgetEntriesWith_25 2 rfl rfl rfl ?_
      refine x_iconst 27 C 0 dX3_forgetEntriesWith_26 ki_0 rfl ?_
      refine xwC_13 28 C dX3_forgetEntriesWith_27 rfl hf (fun M2 hf => ?_)
      refine x_iinc 31 C (v2 + 1) (lv2 := [(2, .int (v2 + 1)), (0, .ref (ad 0)), (1, .int v1)]) dX3_forgetEntriesWith_28 2 rfl rfl rfl (Nat.le_of_ble_eq_true rfl) rfl ?_
      refine x_goto 2 C dX3_forgetEntriesWith_31 (by decide) ?_
      refine x_sub [1, 2, 0] rfl ?_
      exact Hb2 _ _ hf
set_option maxRecDepth 20000 in
set_option maxHeartbeats 1000000 in
theorem tX3_forgetEntriesWith_L2 {l : Launch} {Y : xY} {X : xE} {ad : Nat → Nat} {fr : va_W} {z0 : xM} (C : xC Y X cX3_forgetEntriesWith RX3 none 3 0 0) (HQ : xRV Y X (wC Y ad fr) z0)  (v1 : Int32) (k34 : xM → Option (xM)) (Hk34 : ∀ (M : xM), k34 M = some z0 → xG Y l X (wC Y ad fr) M 34 [] []) : ∀ (n : Nat) (M : xM) (v2 : Int32), fX3_forgetEntriesWith_L2 v1 k34 n M v2 = some z0 → xG Y l X (wC Y ad fr) M 2 [(0, .ref (ad 0)), (1, .int v1), (2, .int v2)] [] := by
  intro n
  induction n with
  | zero =>
    intro M v2 hf
    cases hf
  | succ n ih =>
    intro M v2 hf
    exact tX3_forgetEntriesWith_B2 C HQ  v1 _ Hk34 M v2 _ (fun M v2 hf => ih M v2 hf) hf
set_option maxRecDepth 20000 in
set_option maxHeartbeats 1000000 in
theorem tX3_forgetEntriesWith {l : Launch} {Y : xY} {ad : Nat → Nat} {fr : va_W} {M : xM} {p1 : Int32} {z0 : xM} (hf : fX3_forgetEntriesWith M p1 = some z0) : xcV l Y (wC Y ad fr) yX3_forgetEntriesWith cX3_forgetEntriesWith 3 none 0 0 [.ref (ad 0), .int p1] M z0 := by
  refine x_entryV [(0, .ref (ad 0)), (1, .int p1)] pnX3 rfl (Nat.le_of_ble_eq_true rfl) rfl (fun X C HQ => ?_)
  unfold fX3_forgetEntriesWith at hf
  refine x_iconst 1 C 0 dX3_forgetEntriesWith_0 ki_0 rfl ?_
  refine x_isN 2 C 2 (lv2 := [(2, .int 0), (0, .ref (ad 0)), (1, .int p1)]) dX3_forgetEntriesWith_1 rfl rfl (Nat.le_of_ble_eq_true rfl) rfl ?_
  refine x_sub [1, 2, 0] rfl ?_
  refine tX3_forgetEntriesWith_L2 C HQ _ _ (fun M3 hf => ?_) 512 _ _ hf
  exact x_vret C HQ rfl dX3_forgetEntriesWith_34 hf
set_option maxRecDepth 20000 in
set_option maxHeartbeats 1000000 in
theorem tX3_resetPort {l : Launch} {Y : xY} {ad : Nat → Nat} {fr : va_W} {M : xM} {p1 : Int32} {z0 : xM} (hf : fX3_resetPort M p1 = some z0) : xcV l Y (wC Y ad fr) yX3_resetPort cX3_resetPort 2 none 2 42 [.ref (ad 0), .int p1] M z0 := by
  refine x_entryV [(0, .ref (ad 0)), (1, .int p1)] pnX3 rfl (Nat.le_of_ble_eq_true rfl) rfl (fun X C HQ => ?_)
  unfold fX3_resetPort at hf
  refine x_alN 1 C dX3_resetPort_0 0 rfl rfl rfl ?_
  refine xgX3_14 4 C mq_126 dX3_resetPort_1 rfl ?_
  refine x_ilN 5 C dX3_resetPort_4 1 rfl rfl rfl ?_
  refine x_iconst 6 C 0 dX3_resetPort_5 ki_0 rfl ?_
  refine xwC_10 7 C dX3_resetPort_6 rfl hf (fun M1 hf => ?_)
  refine x_alN 8 C dX3_resetPort_7 0 rfl rfl rfl ?_
  refine xgX3_12 11 C mq_120 dX3_resetPort_8 rfl ?_
  refine x_ilN 12 C dX3_resetPort_11 1 rfl rfl rfl ?_
  refine x_iconst 13 C 0 dX3_resetPort_12 ki_0 rfl ?_
  refine xwC_8 14 C dX3_resetPort_13 rfl hf (fun M2 hf => ?_)
  refine x_alN 15 C dX3_resetPort_14 0 rfl rfl rfl ?_
  refine x_ilN 16 C dX3_resetPort_15 1 rfl rfl rfl ?_
  refine x_cvIP 19 C [.int p1] hwX3_isActive mq_363 dX3_resetPort_16 rfl ⟨Nat.le_of_ble_eq_true rfl, Nat.le_of_ble_eq_true rfl⟩ 0 wC_at_0 rfl rfl rfl (Nat.le_of_ble_eq_true rfl) (fun z hz => tX3_isActive hz) hf (fun z3 hf => ?_)
  refine x_if_eq 22 C 32 dX3_resetPort_19 (by decide) rfl hf (fun hf => ?_) (fun hf => ?_)
  ·
    refine x_alN 33 C dX3_resetPort_32 0 rfl rfl rfl ?_
    refine xgX3_11 36 C mq_116 dX3_resetPort_33 rfl ?_
    refine x_ilN 37 C dX3_resetPort_36 1 rfl rfl rfl ?_
    refine x_iconst 38 C 0 dX3_resetPort_37 ki_0 rfl ?_
    refine xwC_7 39 C dX3_resetPort_38 rfl hf (fun M4 hf => ?_)
    refine x_alN 40 C dX3_resetPort_39 0 rfl rfl rfl ?_
    refine x_ilN 41 C dX3_resetPort_40 1 rfl rfl rfl ?_
    refine x_cvVM 44 C [.int p1] hwX3_forgetEntriesWith mq_367 dX3_resetPort_41 rfl ⟨Nat.le_of_ble_eq_true rfl, Nat.le_of_ble_eq_true rfl⟩ 0 wC_at_0 rfl rfl rfl (Nat.le_of_ble_eq_true rfl) (fun z hz => tX3_forgetEntriesWith hz) hf (fun z5 hf => ?_)
    exact x_vret C HQ rfl dX3_resetPort_44 hf
  ·
    refine x_alN 23 C dX3_resetPort_22 0 rfl rfl rfl ?_
    refine xgX3_11 26 C mq_116 dX3_resetPort_23 rfl ?_
    refine x_ilN 27 C dX3_resetPort_26 1 rfl rfl rfl ?_
    refine x_iconst 28 C 1 dX3_resetPort_27 ki_1 rfl ?_
    refine xwC_7 29 C dX3_resetPort_28 rfl hf (fun M6 hf => ?_)
    refine x_goto 44 C dX3_resetPort_29 (by decide) ?_
    exact x_vret C HQ rfl dX3_resetPort_44 hf
set_option maxRecDepth 20000 in
set_option maxHeartbeats 1000000 in
theorem tX3_switchBridge_B17 {l : Launch} {Y : xY} {X : xE} {ad : Nat → Nat} {fr : va_W} {z0 : Int32 × xM} (C : xC Y X cX3_switchBridge RX3 (some .int) 5 3 63) (HQ : xRI Y X (wC Y ad fr) z0.1 z0.2)  (v1 : Int32) (v2 : Int32) (v3 : Int32) (k65 : xM → Option (Int32 × xM)) (Hk65 : ∀ (M : xM), k65 M = some z0 → xG Y l X (wC Y ad fr) M 65 [(3, .int v3)] []) (M : xM) (v4 : Int32) (b17 : xM → Int32 → Option (Int32 × xM)) (Hb17 : ∀ (M : xM) (v4 : Int32), b17 M v4 = some z0 → xG Y l X (wC Y ad fr) M 17 [(0, .ref (ad 0)), (1, .int v1), (2, .int v2), (3, .int v3), (4, .int v4)] []) (hf : fX3_switchBridge_B17 v1 v2 v3 k65 M v4 b17 = some z0) : xG Y l X (wC Y ad fr) M 17 [(0, .ref (ad 0)), (1, .int v1), (2, .int v2), (3, .int v3), (4, .int v4)] [] := by
  unfold fX3_switchBridge_B17 at hf
  refine x_il 19 C dX3_switchBridge_17 4 rfl rfl ?_
  refine x_alN 20 C dX3_switchBridge_19 0 rfl rfl rfl ?_
  refine xgX3_2 23 C mq_90 dX3_switchBridge_20 rfl ?_
  refine x_icmp_ge 26 C 65 dX3_switchBridge_23 (by decide) rfl hf (fun hf => ?_) (fun hf => ?_)
  ·
    refine x_sub [3] rfl ?_
    exact Hk65 _ hf
  ·
    refine x_ilN 27 C dX3_switchBridge_26 3 rfl rfl rfl ?_
    refine x_ilN 28 C dX3_switchBridge_27 2 rfl rfl rfl ?_
    refine x_icmp_eq 31 C 59 dX3_switchBridge_28 (by decide) rfl hf (fun hf => ?_) (fun hf => ?_)
    ·
      refine x_iinc 62 C (v4 + 1) (lv2 := [(4, .int (v4 + 1)), (0, .ref (ad 0)), (1, .int v1), (2, .int v2), (3, .int v3)]) dX3_switchBridge_59 4 rfl rfl rfl (Nat.le_of_ble_eq_true rfl) rfl ?_
      refine x_goto 17 C dX3_switchBridge_62 (by decide) ?_
      refine x_sub [1, 2, 3, 4, 0] rfl ?_
      exact Hb17 _ _ hf
    ·
      refine x_alN 32 C dX3_switchBridge_31 0 rfl rfl rfl ?_
      refine xgX3_7 35 C mq_103 dX3_switchBridge_32 rfl ?_
      refine x_il 37 C dX3_switchBridge_35 4 rfl rfl ?_
      refine xrC_3 38 C dX3_switchBridge_37 rfl hf (fun x3 hf => ?_)
      refine x_ilN 39 C dX3_switchBridge_38 1 rfl rfl rfl ?_
      refine x_icmp_ne 42 C 59 dX3_switchBridge_39 (by decide) rfl hf (fun hf => ?_) (fun hf => ?_)
      ·
        refine x_iinc 62 C (v4 + 1) (lv2 := [(4, .int (v4 + 1)), (0, .ref (ad 0)), (1, .int v1), (2, .int v2), (3, .int v3)]) dX3_switchBridge_59 4 rfl rfl rfl (Nat.le_of_ble_eq_true rfl) rfl ?_
        refine x_goto 17 C dX3_switchBridge_62 (by decide) ?_
        refine x_sub [1, 2, 3, 4, 0] rfl ?_
        exact Hb17 _ _ hf
      ·
        refine x_alN 43 C dX3_switchBridge_42 0 rfl rfl rfl ?_
        refine xgX3_10 46 C mq_115 dX3_switchBridge_43 rfl ?_
        refine x_il 48 C dX3_switchBridge_46 4 rfl rfl ?_
        refine xrC_6 49 C dX3_switchBridge_48 rfl hf (fun x4 hf => ?_)
        refine x_iconst 50 C 1 dX3_switchBridge_49 ki_1 rfl ?_
        refine x_icmp_ne 53 C 59 dX3_switchBridge_50 (by decide) rfl hf (fun hf => ?_) (fun hf => ?_)
        ·
          refine x_iinc 62 C (v4 + 1) (lv2 := [(4, .int (v4 + 1)), (0, .ref (ad 0)), (1, .int v1), (2, .int v2), (3, .int v3)]) dX3_switchBridge_59 4 rfl rfl rfl (Nat.le_of_ble_eq_true rfl) rfl ?_
          refine x_goto 17 C dX3_switchBridge_62 (by decide) ?_
          refine x_sub [1, 2, 3, 4, 0] rfl ?_
          exact Hb17 _ _ hf
        ·
          refine x_alN 54 C dX3_switchBridge_53 0 rfl rfl rfl ?_
          refine x_il 56 C dX3_switchBridge_54 4 rfl rfl ?_
          refine x_cvVM 59 C [.int v4] hwX3_resetPort mq_359 dX3_switchBridge_56 rfl ⟨Nat.le_of_ble_eq_true rfl, Nat.le_of_ble_eq_true rfl⟩ 0 wC_at_0 rfl rfl rfl (Nat.le_of_ble_eq_true rfl) (fun z hz => tX3_resetPort hz) hf (fun z5 hf => ?_)
          refine x_iinc 62 C (v4 + 1) (lv2 := [(4, .int (v4 + 1)), (0, .ref (ad 0)), (1, .int v1), (2, .int v2), (3, .int v3)]) dX3_switchBridge_59 4 rfl rfl rfl (Nat.le_of_ble_eq_true rfl) rfl ?_
          refine x_goto 17 C dX3_switchBridge_62 (by decide) ?_
          refine x_sub [1, 2, 3, 4, 0] rfl ?_
          exact Hb17 _ _ hf
set_option maxRecDepth 20000 in
set_option maxHeartbeats 1000000 in
theorem tX3_switchBridge_L17 {l : Launch} {Y : xY} {X : xE} {ad : Nat → Nat} {fr : va_W} {z0 : Int32 × xM} (C : xC Y X cX3_switchBridge RX3 (some .int) 5 3 63) (HQ : xRI Y X (wC Y ad fr) z0.1 z0.2)  (v1 : Int32) (v2 : Int32) (v3 : Int32) (k65 : xM → Option (Int32 × xM)) (Hk65 : ∀ (M : xM), k65 M = some z0 → xG Y l X (wC Y ad fr) M 65 [(3, .int v3)] []) : ∀ (n : Nat) (M : xM) (v4 : Int32), fX3_switchBridge_L17 v1 v2 v3 k65 n M v4 = some z0 → xG Y l X (wC Y ad fr) M 17 [(0, .ref (ad 0)), (1, .int v1), (2, .int v2), (3, .int v3), (4, .int v4)] [] := by
  intro n
  induction n with
  | zero =>
    intro M v4 hf
    cases hf
  | succ n ih =>
    intro M v4 hf
    exact tX3_switchBridge_B17 C HQ  v1 v2 v3 _ Hk65 M v4 _ (fun M v4 hf => ih M v4 hf) hf
set_option maxRecDepth 20000 in
set_option maxHeartbeats 1000000 in
theorem tX3_switchBridge {l : Launch} {Y : xY} {ad : Nat → Nat} {fr : va_W} {M : xM} {p1 : Int32} {p2 : Int32} {z0 : Int32 × xM} (hf : fX3_switchBridge M p1 p2 = some z0) : xcI l Y (wC Y ad fr) yX3_switchBridge cX3_switchBridge 5 (some .int) 3 63 [.ref (ad 0), .int p1, .int p2] M z0.1 z0.2 := by
  refine x_entryI [(0, .ref (ad 0)), (1, .int p1), (2, .int p2)] pnX3 rfl (Nat.le_of_ble_eq_true rfl) rfl (fun X C HQ => ?_)
  unfold fX3_switchBridge at hf
  refine x_alN 1 C dX3_switchBridge_0 0 rfl rfl rfl ?_
  refine xgX3_6 4 C mq_102 dX3_switchBridge_1 rfl ?_
  refine x_ilN 5 C dX3_switchBridge_4 1 rfl rfl rfl ?_
  refine xrC_2 6 C dX3_switchBridge_5 rfl hf (fun x1 hf => ?_)
  refine x_isN 7 C 3 (lv2 := [(3, .int x1), (0, .ref (ad 0)), (1, .int p1), (2, .int p2)]) dX3_switchBridge_6 rfl rfl (Nat.le_of_ble_eq_true rfl) rfl ?_
  refine x_alN 8 C dX3_switchBridge_7 1 rfl rfl rfl ?_
  refine xgX3_6 11 C mq_102 dX3_switchBridge_8 rfl ?_
  refine x_ilN 12 C dX3_switchBridge_11 2 rfl rfl rfl ?_
  refine x_ilN 13 C dX3_switchBridge_12 3 rfl rfl rfl ?_
  refine xwC_2 14 C dX3_switchBridge_13 rfl hf (fun M2 hf => ?_)
  refine x_iconst 15 C 0 dX3_switchBridge_14 ki_0 rfl ?_
  refine x_is 17 C 4 (lv2 := [(4, .int 0), (3, .int x1), (0, .ref (ad 0)), (1, .int p1), (2, .int p2)]) dX3_switchBridge_15 rfl (Nat.le_of_ble_eq_true rfl) rfl ?_
  refine x_sub [2, 3, 4, 1, 0] rfl ?_
  refine tX3_switchBridge_L17 C HQ _ _ _ _ (fun M6 hf => ?_) 512 _ _ hf
  refine x_ilN 66 C dX3_switchBridge_65 0 rfl rfl rfl ?_
  exact x_iretM C HQ rfl (vp_nar_int _) dX3_switchBridge_66 hf
set_option maxRecDepth 20000 in
set_option maxHeartbeats 1000000 in
theorem tX3_switchPort {l : Launch} {Y : xY} {ad : Nat → Nat} {fr : va_W} {M : xM} {p1 : Int32} {p2 : Int32} {z0 : Int32 × xM} (hf : fX3_switchPort M p1 p2 = some z0) : xcI l Y (wC Y ad fr) yX3_switchPort cX3_switchPort 4 (some .int) 3 63 [.ref (ad 0), .int p1, .int p2] M z0.1 z0.2 := by
  refine x_entryI [(0, .ref (ad 0)), (1, .int p1), (2, .int p2)] pnX3 rfl (Nat.le_of_ble_eq_true rfl) rfl (fun X C HQ => ?_)
  unfold fX3_switchPort at hf
  refine x_alN 1 C dX3_switchPort_0 0 rfl rfl rfl ?_
  refine xgX3_10 4 C mq_115 dX3_switchPort_1 rfl ?_
  refine x_ilN 5 C dX3_switchPort_4 1 rfl rfl rfl ?_
  refine xrC_6 6 C dX3_switchPort_5 rfl hf (fun x1 hf => ?_)
  refine x_isN 7 C 3 (lv2 := [(3, .int x1), (0, .ref (ad 0)), (1, .int p1), (2, .int p2)]) dX3_switchPort_6 rfl rfl (Nat.le_of_ble_eq_true rfl) rfl ?_
  refine x_alN 8 C dX3_switchPort_7 1 rfl rfl rfl ?_
  refine xgX3_10 11 C mq_115 dX3_switchPort_8 rfl ?_
  refine x_ilN 12 C dX3_switchPort_11 2 rfl rfl rfl ?_
  refine x_ilN 13 C dX3_switchPort_12 3 rfl rfl rfl ?_
  refine xwC_6 14 C dX3_switchPort_13 rfl hf (fun M2 hf => ?_)
  refine x_ilN 15 C dX3_switchPort_14 0 rfl rfl rfl ?_
  refine x_ilN 16 C dX3_switchPort_15 3 rfl rfl rfl ?_
  refine x_icmp_eq 19 C 37 dX3_switchPort_16 (by decide) rfl hf (fun hf => ?_) (fun hf => ?_)
  ·
    refine x_ilN 38 C dX3_switchPort_37 0 rfl rfl rfl ?_
    exact x_iretM C HQ rfl (vp_nar_int _) dX3_switchPort_38 hf
  ·
    refine x_alN 20 C dX3_switchPort_19 1 rfl rfl rfl ?_
    refine x_alN 21 C dX3_switchPort_20 1 rfl rfl rfl ?_
    refine xgX3_7 24 C mq_103 dX3_switchPort_21 rfl ?_
    refine x_ilN 25 C dX3_switchPort_24 2 rfl rfl rfl ?_
    refine xrC_3 26 C dX3_switchPort_25 rfl hf (fun x3 hf => ?_)
    refine x_cvIP 29 C [.int x3] hwX3_isBridgeUp mq_327 dX3_switchPort_26 rfl ⟨Nat.le_of_ble_eq_true rfl, Nat.le_of_ble_eq_true rfl⟩ 0 wC_at_0 rfl rfl rfl (Nat.le_of_ble_eq_true rfl) (fun z hz => tX3_isBridgeUp hz) hf (fun z4 hf => ?_)
    refine x_if_eq 32 C 37 dX3_switchPort_29 (by decide) rfl hf (fun hf => ?_) (fun hf => ?_)
    ·
      refine x_ilN 38 C dX3_switchPort_37 0 rfl rfl rfl ?_
      exact x_iretM C HQ rfl (vp_nar_int _) dX3_switchPort_38 hf
    ·
      refine x_alN 33 C dX3_switchPort_32 1 rfl rfl rfl ?_
      refine x_ilN 34 C dX3_switchPort_33 2 rfl rfl rfl ?_
      refine x_cvVM 37 C [.int p1] hwX3_resetPort mq_359 dX3_switchPort_34 rfl ⟨Nat.le_of_ble_eq_true rfl, Nat.le_of_ble_eq_true rfl⟩ 0 wC_at_0 rfl rfl rfl (Nat.le_of_ble_eq_true rfl) (fun z hz => tX3_resetPort hz) hf (fun z5 hf => ?_)
      refine x_ilN 38 C dX3_switchPort_37 0 rfl rfl rfl ?_
      exact x_iretM C HQ rfl (vp_nar_int _) dX3_switchPort_38 hf
set_option maxRecDepth 20000 in
set_option maxHeartbeats 1000000 in
theorem tX3_ageEntries_B2 {l : Launch} {Y : xY} {X : xE} {ad : Nat → Nat} {fr : va_W} {z0 : xM} (C : xC Y X cX3_ageEntries RX3 none 2 0 0) (HQ : xRV Y X (wC Y ad fr) z0)   (k36 : xM → Option (xM)) (Hk36 : ∀ (M : xM), k36 M = some z0 → xG Y l X (wC Y ad fr) M 36 [] []) (M : xM) (v1 : Int32) (b2 : xM → Int32 → Option (xM)) (Hb2 : ∀ (M : xM) (v1 : Int32), b2 M v1 = some z0 → xG Y l X (wC Y ad fr) M 2 [(0, .ref (ad 0)), (1, .int v1)] []) (hf : fX3_ageEntries_B2 k36 M v1 b2 = some z0) : xG Y l X (wC Y ad fr) M 2 [(0, .ref (ad 0)), (1, .int v1)] [] := by
  unfold fX3_ageEntries_B2 at hf
  refine x_ilN 3 C dX3_ageEntries_2 1 rfl rfl rfl ?_
  refine x_alN 4 C dX3_ageEntries_3 0 rfl rfl rfl ?_
  refine xgX3_17 7 C mq_133 dX3_ageEntries_4 rfl ?_
  refine x_alenI 8 C 13 64 wC_at_13 rfl dX3_ageEntries_7 rfl ?_
  refine x_icmp_ge 11 C 36 dX3_ageEntries_8 (by decide) rfl hf (fun hf => ?_) (fun hf => ?_)
  ·
    refine x_sub [] rfl ?_
    exact Hk36 _ hf
  ·
    refine x_alN 12 C dX3_ageEntries_11 0 rfl rfl rfl ?_
    refine xgX3_17 15 C mq_133 dX3_ageEntries_12 rfl ?_
    refine x_ilN 16 C dX3_ageEntries_15 1 rfl rfl rfl ?_
    refine xrC_13 17 C dX3_ageEntries_16 rfl hf (fun x1 hf => ?_)
    refine x_if_le 20 C 30 dX3_ageEntries_17 (by decide) rfl hf (fun hf => ?_) (fun hf => ?_)
    ·
      refine x_iinc 33 C (v1 + 1) (lv2 := [(1, .int (v1 + 1)), (0, .ref (ad 0))]) dX3_ageEntries_30 1 rfl rfl rfl (Nat.le_of_ble_eq_true rfl) rfl ?_
      refine x_goto 2 C dX3_ageEntries_33 (by decide) ?_
      refine x_sub [1, 0] rfl ?_
      exact Hb2 _ _ hf
    ·
      refine x_alN 21 C dX3_ageEntries_20 0 rfl rfl rfl ?_
      refine xgX3_17 24 C mq_133 dX3_ageEntries_21 rfl ?_
      refine x_ilN 25 C dX3_ageEntries_24 1 rfl rfl rfl ?_
      refine x_dup2 26 C dX3_ageEntries_25 rfl rfl rfl ?_
      refine xrC_13 27 C dX3_ageEntries_26 rfl hf (fun x2 hf => ?_)
      refine x_iconst 28 C 1 dX3_ageEntries_27 ki_1 rfl ?_
      refine x_isub 29 C dX3_ageEntries_28 rfl ?_
      refine xwC_13 30 C dX3_ageEntries_29 rfl hf (fun M3 hf => ?_)
      refine x_iinc 33 C (v1 + 1) (lv2 := [(1, .int (v1 + 1)), (0, .ref (ad 0))]) dX3_ageEntries_30 1 rfl rfl rfl (Nat.le_of_ble_eq_true rfl) rfl ?_
      refine x_goto 2 C dX3_ageEntries_33 (by decide) ?_
      refine x_sub [1, 0] rfl ?_
      exact Hb2 _ _ hf
set_option maxRecDepth 20000 in
set_option maxHeartbeats 1000000 in
theorem tX3_ageEntries_L2 {l : Launch} {Y : xY} {X : xE} {ad : Nat → Nat} {fr : va_W} {z0 : xM} (C : xC Y X cX3_ageEntries RX3 none 2 0 0) (HQ : xRV Y X (wC Y ad fr) z0)   (k36 : xM → Option (xM)) (Hk36 : ∀ (M : xM), k36 M = some z0 → xG Y l X (wC Y ad fr) M 36 [] []) : ∀ (n : Nat) (M : xM) (v1 : Int32), fX3_ageEntries_L2 k36 n M v1 = some z0 → xG Y l X (wC Y ad fr) M 2 [(0, .ref (ad 0)), (1, .int v1)] [] := by
  intro n
  induction n with
  | zero =>
    intro M v1 hf
    cases hf
  | succ n ih =>
    intro M v1 hf
    exact tX3_ageEntries_B2 C HQ   _ Hk36 M v1 _ (fun M v1 hf => ih M v1 hf) hf
set_option maxRecDepth 20000 in
set_option maxHeartbeats 1000000 in
theorem tX3_ageEntries {l : Launch} {Y : xY} {ad : Nat → Nat} {fr : va_W} {M : xM}  {z0 : xM} (hf : fX3_ageEntries M = some z0) : xcV l Y (wC Y ad fr) yX3_ageEntries cX3_ageEntries 2 none 0 0 [.ref (ad 0)] M z0 := by
  refine x_entryV [(0, .ref (ad 0))] pnX3 rfl (Nat.le_of_ble_eq_true rfl) rfl (fun X C HQ => ?_)
  unfold fX3_ageEntries at hf
  refine x_iconst 1 C 0 dX3_ageEntries_0 ki_0 rfl ?_
  refine x_isN 2 C 1 (lv2 := [(1, .int 0), (0, .ref (ad 0))]) dX3_ageEntries_1 rfl rfl (Nat.le_of_ble_eq_true rfl) rfl ?_
  refine x_sub [1, 0] rfl ?_
  refine tX3_ageEntries_L2 C HQ  _ (fun M4 hf => ?_) 512 _ _ hf
  exact x_vret C HQ rfl dX3_ageEntries_36 hf
set_option maxRecDepth 20000 in
set_option maxHeartbeats 1000000 in
theorem tX3_ageMessage {l : Launch} {Y : xY} {ad : Nat → Nat} {fr : va_W} {M : xM} {p1 : Int32} {z0 : xM} (hf : fX3_ageMessage M p1 = some z0) : xcV l Y (wC Y ad fr) yX3_ageMessage cX3_ageMessage 2 none 0 0 [.ref (ad 0), .int p1] M z0 := by
  refine x_entryV [(0, .ref (ad 0)), (1, .int p1)] pnX3 rfl (Nat.le_of_ble_eq_true rfl) rfl (fun X C HQ => ?_)
  unfold fX3_ageMessage at hf
  refine x_alN 1 C dX3_ageMessage_0 0 rfl rfl rfl ?_
  refine xgX3_14 4 C mq_126 dX3_ageMessage_1 rfl ?_
  refine x_ilN 5 C dX3_ageMessage_4 1 rfl rfl rfl ?_
  refine xrC_10 6 C dX3_ageMessage_5 rfl hf (fun x1 hf => ?_)
  refine x_if_le 9 C 19 dX3_ageMessage_6 (by decide) rfl hf (fun hf => ?_) (fun hf => ?_)
  ·
    exact x_vret C HQ rfl dX3_ageMessage_19 hf
  ·
    refine x_alN 10 C dX3_ageMessage_9 0 rfl rfl rfl ?_
    refine xgX3_14 13 C mq_126 dX3_ageMessage_10 rfl ?_
    refine x_ilN 14 C dX3_ageMessage_13 1 rfl rfl rfl ?_
    refine x_dup2 15 C dX3_ageMessage_14 rfl rfl rfl ?_
    refine xrC_10 16 C dX3_ageMessage_15 rfl hf (fun x2 hf => ?_)
    refine x_iconst 17 C 1 dX3_ageMessage_16 ki_1 rfl ?_
    refine x_isub 18 C dX3_ageMessage_17 rfl ?_
    refine xwC_10 19 C dX3_ageMessage_18 rfl hf (fun M3 hf => ?_)
    exact x_vret C HQ rfl dX3_ageMessage_19 hf
end
