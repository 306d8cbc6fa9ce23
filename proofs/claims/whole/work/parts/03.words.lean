def xw : List Cond := lw_tbl.filter goodWord
theorem xw_in {w : Cond} (h : w ∈ lw_tbl) (hg : goodWord w = true) : w ∈ xw := List.mem_filter.mpr ⟨h, hg⟩
set_option maxRecDepth 20000 in
theorem mq_0 : Cond.selects RX3 yX3_resetPort yX3_resetPort ∈ xw := xw_in (List.mem_of_getElem? (i := 0) (by decide +kernel)) rfl
set_option maxRecDepth 20000 in
theorem mq_1 : Cond.selects RX3 yX3_forgetEntriesWith yX3_forgetEntriesWith ∈ xw := xw_in (List.mem_of_getElem? (i := 1) (by decide +kernel)) rfl
set_option maxRecDepth 20000 in
theorem mq_2 : Cond.selects RX0 yX0_findBestOffers yX0_findBestOffers ∈ xw := xw_in (List.mem_of_getElem? (i := 2) (by decide +kernel)) rfl
set_option maxRecDepth 20000 in
theorem mq_3 : Cond.selects RX0 yX0_hasOffer yX0_hasOffer ∈ xw := xw_in (List.mem_of_getElem? (i := 3) (by decide +kernel)) rfl
set_option maxRecDepth 20000 in
theorem mq_4 : Cond.selects RX0 yX0_isFromOwnBridge yX0_isFromOwnBridge ∈ xw := xw_in (List.mem_of_getElem? (i := 4) (by decide +kernel)) rfl
set_option maxRecDepth 20000 in
theorem mq_5 : Cond.selects RX0 yX0_considerOffer yX0_considerOffer ∈ xw := xw_in (List.mem_of_getElem? (i := 5) (by decide +kernel)) rfl
set_option maxRecDepth 20000 in
theorem mq_6 : Cond.selects RX0 yX0_chooseRoot yX0_chooseRoot ∈ xw := xw_in (List.mem_of_getElem? (i := 6) (by decide +kernel)) rfl
set_option maxRecDepth 20000 in
theorem mq_7 : Cond.selects RX0 yX0_roleFor yX0_roleFor ∈ xw := xw_in (List.mem_of_getElem? (i := 7) (by decide +kernel)) rfl
set_option maxRecDepth 20000 in
theorem mq_8 : Cond.selects RX4 yX4_sendMessages yX4_sendMessages ∈ xw := xw_in (List.mem_of_getElem? (i := 8) (by decide +kernel)) rfl
set_option maxRecDepth 20000 in
theorem mq_9 : Cond.selects RX4 yX4_ageToSend yX4_ageToSend ∈ xw := xw_in (List.mem_of_getElem? (i := 9) (by decide +kernel)) rfl
set_option maxRecDepth 20000 in
theorem mq_10 : Cond.selects RX4 yX4_rankSender yX4_rankSender ∈ xw := xw_in (List.mem_of_getElem? (i := 10) (by decide +kernel)) rfl
set_option maxRecDepth 20000 in
theorem mq_11 : Cond.selects RX4 yX4_isBetterSender yX4_isBetterSender ∈ xw := xw_in (List.mem_of_getElem? (i := 11) (by decide +kernel)) rfl
set_option maxRecDepth 20000 in
theorem mq_12 : Cond.selects RX4 yX4_takesMessage yX4_takesMessage ∈ xw := xw_in (List.mem_of_getElem? (i := 12) (by decide +kernel)) rfl
set_option maxRecDepth 20000 in
theorem mq_13 : Cond.selects RX4 yX4_accepts yX4_accepts ∈ xw := xw_in (List.mem_of_getElem? (i := 13) (by decide +kernel)) rfl
set_option maxRecDepth 20000 in
theorem mq_14 : Cond.selects RX4 yX4_moveStates yX4_moveStates ∈ xw := xw_in (List.mem_of_getElem? (i := 14) (by decide +kernel)) rfl
set_option maxRecDepth 20000 in
theorem mq_15 : Cond.selects RX4 yX4_moveState yX4_moveState ∈ xw := xw_in (List.mem_of_getElem? (i := 15) (by decide +kernel)) rfl
set_option maxRecDepth 20000 in
theorem mq_16 : Cond.selects RX4 yX4_enterState yX4_enterState ∈ xw := xw_in (List.mem_of_getElem? (i := 16) (by decide +kernel)) rfl
set_option maxRecDepth 20000 in
theorem mq_17 : Cond.selects RX4 yX4_moveTowardsForwarding yX4_moveTowardsForwarding ∈ xw := xw_in (List.mem_of_getElem? (i := 17) (by decide +kernel)) rfl
set_option maxRecDepth 20000 in
theorem mq_18 : Cond.selects RX5 yX5_countVertices yX5_countVertices ∈ xw := xw_in (List.mem_of_getElem? (i := 18) (by decide +kernel)) rfl
set_option maxRecDepth 20000 in
theorem mq_19 : Cond.selects RX5 yX5_join yX5_join ∈ xw := xw_in (List.mem_of_getElem? (i := 19) (by decide +kernel)) rfl
set_option maxRecDepth 20000 in
theorem mq_20 : Cond.selects RX1 yX1_transmit yX1_transmit ∈ xw := xw_in (List.mem_of_getElem? (i := 20) (by decide +kernel)) rfl
set_option maxRecDepth 20000 in
theorem mq_21 : Cond.selects RX1 yX1_visitPorts yX1_visitPorts ∈ xw := xw_in (List.mem_of_getElem? (i := 21) (by decide +kernel)) rfl
set_option maxRecDepth 20000 in
theorem mq_22 : Cond.selects RX1 yX1_visitPort yX1_visitPort ∈ xw := xw_in (List.mem_of_getElem? (i := 22) (by decide +kernel)) rfl
set_option maxRecDepth 20000 in
theorem mq_23 : Cond.selects RX1 yX1_passOn yX1_passOn ∈ xw := xw_in (List.mem_of_getElem? (i := 23) (by decide +kernel)) rfl
set_option maxRecDepth 20000 in
theorem mq_24 : Cond.selects RX1 yX1_flood yX1_flood ∈ xw := xw_in (List.mem_of_getElem? (i := 24) (by decide +kernel)) rfl
set_option maxRecDepth 20000 in
theorem mq_25 : Cond.selects RX7 yX7_isBridge yX7_isBridge ∈ xw := xw_in (List.mem_of_getElem? (i := 25) (by decide +kernel)) rfl
set_option maxRecDepth 20000 in
theorem mq_26 : Cond.selects RX7 yX7_isSegment yX7_isSegment ∈ xw := xw_in (List.mem_of_getElem? (i := 26) (by decide +kernel)) rfl
set_option maxRecDepth 20000 in
theorem mq_27 : Cond.selects RX7 yX7_ports yX7_ports ∈ xw := xw_in (List.mem_of_getElem? (i := 27) (by decide +kernel)) rfl
set_option maxRecDepth 20000 in
theorem mq_28 : Cond.selects RX7 yX7_isActive yX7_isActive ∈ xw := xw_in (List.mem_of_getElem? (i := 28) (by decide +kernel)) rfl
set_option maxRecDepth 20000 in
theorem mq_29 : Cond.selects RX7 yX7_bridgeOf yX7_bridgeOf ∈ xw := xw_in (List.mem_of_getElem? (i := 29) (by decide +kernel)) rfl
set_option maxRecDepth 20000 in
theorem mq_30 : Cond.selects RX7 yX7_set yX7_set ∈ xw := xw_in (List.mem_of_getElem? (i := 30) (by decide +kernel)) rfl
set_option maxRecDepth 20000 in
theorem mq_31 : Cond.selects RX7 yX7_isPort yX7_isPort ∈ xw := xw_in (List.mem_of_getElem? (i := 31) (by decide +kernel)) rfl
set_option maxRecDepth 20000 in
theorem mq_32 : Cond.selects RX7 yX7_turnAll yX7_turnAll ∈ xw := xw_in (List.mem_of_getElem? (i := 32) (by decide +kernel)) rfl
set_option maxRecDepth 20000 in
theorem mq_33 : Cond.selects RX7 yX7_turn yX7_turn ∈ xw := xw_in (List.mem_of_getElem? (i := 33) (by decide +kernel)) rfl
set_option maxRecDepth 20000 in
theorem mq_34 : Cond.selects RX7 yX7_isStation yX7_isStation ∈ xw := xw_in (List.mem_of_getElem? (i := 34) (by decide +kernel)) rfl
set_option maxRecDepth 20000 in
theorem mq_35 : Cond.selects RX7 yX7_tickOnce yX7_tickOnce ∈ xw := xw_in (List.mem_of_getElem? (i := 35) (by decide +kernel)) rfl
set_option maxRecDepth 20000 in
theorem mq_36 : Cond.selects RX7 yX7_layRoles yX7_layRoles ∈ xw := xw_in (List.mem_of_getElem? (i := 36) (by decide +kernel)) rfl
set_option maxRecDepth 20000 in
theorem mq_37 : Cond.selects RX7 yX7_layRoot yX7_layRoot ∈ xw := xw_in (List.mem_of_getElem? (i := 37) (by decide +kernel)) rfl
set_option maxRecDepth 20000 in
theorem mq_38 : Cond.selects RX7 yX7_stores yX7_stores ∈ xw := xw_in (List.mem_of_getElem? (i := 38) (by decide +kernel)) rfl
set_option maxRecDepth 20000 in
theorem mq_39 : Cond.selects RX7 yX7_message yX7_message ∈ xw := xw_in (List.mem_of_getElem? (i := 39) (by decide +kernel)) rfl
set_option maxRecDepth 20000 in
theorem mq_40 : Cond.selects RX7 yX7_idOf yX7_idOf ∈ xw := xw_in (List.mem_of_getElem? (i := 40) (by decide +kernel)) rfl
set_option maxRecDepth 20000 in
theorem mq_41 : Cond.selects RX7 yX7_isBetterOffer yX7_isBetterOffer ∈ xw := xw_in (List.mem_of_getElem? (i := 41) (by decide +kernel)) rfl
set_option maxRecDepth 20000 in
theorem mq_42 : Cond.selects RX7 yX7_roleOf yX7_roleOf ∈ xw := xw_in (List.mem_of_getElem? (i := 42) (by decide +kernel)) rfl
set_option maxRecDepth 20000 in
theorem mq_43 : Cond.selects RX7 yX7_isOwnBetter yX7_isOwnBetter ∈ xw := xw_in (List.mem_of_getElem? (i := 43) (by decide +kernel)) rfl
set_option maxRecDepth 20000 in
theorem mq_44 : Cond.selects RX7 yX7_sendAll yX7_sendAll ∈ xw := xw_in (List.mem_of_getElem? (i := 44) (by decide +kernel)) rfl
set_option maxRecDepth 20000 in
theorem mq_45 : Cond.selects RX7 yX7_hear yX7_hear ∈ xw := xw_in (List.mem_of_getElem? (i := 45) (by decide +kernel)) rfl
set_option maxRecDepth 20000 in
theorem mq_46 : Cond.selects RX7 yX7_heardBy yX7_heardBy ∈ xw := xw_in (List.mem_of_getElem? (i := 46) (by decide +kernel)) rfl
set_option maxRecDepth 20000 in
theorem mq_47 : Cond.selects RX7 yX7_isBetterSent yX7_isBetterSent ∈ xw := xw_in (List.mem_of_getElem? (i := 47) (by decide +kernel)) rfl
set_option maxRecDepth 20000 in
theorem mq_48 : Cond.selects RX7 yX7_goOn yX7_goOn ∈ xw := xw_in (List.mem_of_getElem? (i := 48) (by decide +kernel)) rfl
set_option maxRecDepth 20000 in
theorem mq_49 : Cond.selects RX7 yX7_isUp yX7_isUp ∈ xw := xw_in (List.mem_of_getElem? (i := 49) (by decide +kernel)) rfl
set_option maxRecDepth 20000 in
theorem mq_50 : Cond.selects RX7 yX7_joinAll yX7_joinAll ∈ xw := xw_in (List.mem_of_getElem? (i := 50) (by decide +kernel)) rfl
set_option maxRecDepth 20000 in
theorem mq_51 : Cond.selects RX7 yX7_partsNow yX7_partsNow ∈ xw := xw_in (List.mem_of_getElem? (i := 51) (by decide +kernel)) rfl
set_option maxRecDepth 20000 in
theorem mq_52 : Cond.selects RX7 yX7_isVertex yX7_isVertex ∈ xw := xw_in (List.mem_of_getElem? (i := 52) (by decide +kernel)) rfl
set_option maxRecDepth 20000 in
theorem mq_53 : Cond.selects RX7 yX7_vertices yX7_vertices ∈ xw := xw_in (List.mem_of_getElem? (i := 53) (by decide +kernel)) rfl
set_option maxRecDepth 20000 in
theorem mq_54 : Cond.selects RX7 yX7_transmit yX7_transmit ∈ xw := xw_in (List.mem_of_getElem? (i := 54) (by decide +kernel)) rfl
set_option maxRecDepth 20000 in
theorem mq_55 : Cond.selects RX7 yX7_receive yX7_receive ∈ xw := xw_in (List.mem_of_getElem? (i := 55) (by decide +kernel)) rfl
set_option maxRecDepth 20000 in
theorem mq_56 : Cond.initialized RL ∈ xw := xw_in (List.mem_of_getElem? (i := 56) (by decide +kernel)) rfl
set_option maxRecDepth 20000 in
theorem mq_57 : Cond.initialized RX6 ∈ xw := xw_in (List.mem_of_getElem? (i := 57) (by decide +kernel)) rfl
set_option maxRecDepth 20000 in
theorem mq_58 : Cond.initialized RX3 ∈ xw := xw_in (List.mem_of_getElem? (i := 58) (by decide +kernel)) rfl
set_option maxRecDepth 20000 in
theorem mq_59 : Cond.initialized RX0 ∈ xw := xw_in (List.mem_of_getElem? (i := 59) (by decide +kernel)) rfl
set_option maxRecDepth 20000 in
theorem mq_60 : Cond.initialized RX4 ∈ xw := xw_in (List.mem_of_getElem? (i := 60) (by decide +kernel)) rfl
set_option maxRecDepth 20000 in
theorem mq_61 : Cond.initialized RX1 ∈ xw := xw_in (List.mem_of_getElem? (i := 61) (by decide +kernel)) rfl
set_option maxRecDepth 20000 in
theorem mq_62 : Cond.initialized RX5 ∈ xw := xw_in (List.mem_of_getElem? (i := 62) (by decide +kernel)) rfl
set_option maxRecDepth 20000 in
theorem mq_63 : Cond.initialized RX7 ∈ xw := xw_in (List.mem_of_getElem? (i := 63) (by decide +kernel)) rfl
set_option maxRecDepth 20000 in
theorem mq_64 : Cond.initialized RX2 ∈ xw := xw_in (List.mem_of_getElem? (i := 64) (by decide +kernel)) rfl
set_option maxRecDepth 20000 in
theorem mq_65 : Cond.initialized RJ9 ∈ xw := xw_in (List.mem_of_getElem? (i := 65) (by decide +kernel)) rfl
set_option maxRecDepth 20000 in
theorem mq_66 : Cond.initialized RJ10 ∈ xw := xw_in (List.mem_of_getElem? (i := 66) (by decide +kernel)) rfl
set_option maxRecDepth 20000 in
theorem mq_67 : Cond.classLink RL 7 RX6 ∈ xw := xw_in (List.mem_of_getElem? (i := 67) (by decide +kernel)) rfl
set_option maxRecDepth 20000 in
theorem mq_68 : Cond.instantiable RX6 6 ∈ xw := xw_in (List.mem_of_getElem? (i := 68) (by decide +kernel)) rfl
set_option maxRecDepth 20000 in
theorem mq_69 : Cond.methodLink RL 9 yX6_init ∈ xw := xw_in (List.mem_of_getElem? (i := 69) (by decide +kernel)) rfl
set_option maxRecDepth 20000 in
theorem mq_70 : Cond.instanceMethod yX6_init ∈ xw := xw_in (List.mem_of_getElem? (i := 70) (by decide +kernel)) rfl
set_option maxRecDepth 20000 in
theorem mq_71 : Cond.code yX6_init cX6_init 3 none ∈ xw := xw_in (List.mem_of_getElem? (i := 71) (by decide +kernel)) rfl
set_option maxRecDepth 20000 in
theorem mq_72 : Cond.methodLink RX6 1 objectInit ∈ xw := xw_in (List.mem_of_getElem? (i := 72) (by decide +kernel)) rfl
set_option maxRecDepth 20000 in
theorem mq_73 : Cond.instanceMethod objectInit ∈ xw := xw_in (List.mem_of_getElem? (i := 73) (by decide +kernel)) rfl
set_option maxRecDepth 20000 in
theorem mq_74 : Cond.code objectInit object_method_1_code 1 none ∈ xw := xw_in (List.mem_of_getElem? (i := 74) (by decide +kernel)) rfl
set_option maxRecDepth 20000 in
theorem mq_75 : Cond.classLink RX6 7 RX3 ∈ xw := xw_in (List.mem_of_getElem? (i := 75) (by decide +kernel)) rfl
set_option maxRecDepth 20000 in
theorem mq_76 : Cond.instantiable RX3 19 ∈ xw := xw_in (List.mem_of_getElem? (i := 76) (by decide +kernel)) rfl
set_option maxRecDepth 20000 in
theorem mq_77 : Cond.methodLink RX6 9 yX3_init ∈ xw := xw_in (List.mem_of_getElem? (i := 77) (by decide +kernel)) rfl
set_option maxRecDepth 20000 in
theorem mq_78 : Cond.instanceMethod yX3_init ∈ xw := xw_in (List.mem_of_getElem? (i := 78) (by decide +kernel)) rfl
set_option maxRecDepth 20000 in
theorem mq_79 : Cond.code yX3_init cX3_init 1 none ∈ xw := xw_in (List.mem_of_getElem? (i := 79) (by decide +kernel)) rfl
set_option maxRecDepth 20000 in
theorem mq_80 : Cond.methodLink RX3 3 objectInit ∈ xw := xw_in (List.mem_of_getElem? (i := 80) (by decide +kernel)) rfl
set_option maxRecDepth 20000 in
theorem mq_81 : Cond.fieldLink RX3 55 "SpanningTreeProtocol$Network" "bridgeCount" "I" ∈ xw := xw_in (List.mem_of_getElem? (i := 81) (by decide +kernel)) rfl
set_option maxRecDepth 20000 in
theorem mq_82 : Cond.fieldLink RX0 38 "SpanningTreeProtocol$Network" "bridgeCount" "I" ∈ xw := xw_in (List.mem_of_getElem? (i := 82) (by decide +kernel)) rfl
set_option maxRecDepth 20000 in
theorem mq_83 : Cond.fieldLink RX6 56 "SpanningTreeProtocol$Network" "bridgeCount" "I" ∈ xw := xw_in (List.mem_of_getElem? (i := 83) (by decide +kernel)) rfl
set_option maxRecDepth 20000 in
theorem mq_84 : Cond.fieldLink RX5 42 "SpanningTreeProtocol$Network" "bridgeCount" "I" ∈ xw := xw_in (List.mem_of_getElem? (i := 84) (by decide +kernel)) rfl
set_option maxRecDepth 20000 in
theorem mq_85 : Cond.fieldLink RX3 59 "SpanningTreeProtocol$Network" "segmentCount" "I" ∈ xw := xw_in (List.mem_of_getElem? (i := 85) (by decide +kernel)) rfl
set_option maxRecDepth 20000 in
theorem mq_86 : Cond.fieldLink RX6 64 "SpanningTreeProtocol$Network" "segmentCount" "I" ∈ xw := xw_in (List.mem_of_getElem? (i := 86) (by decide +kernel)) rfl
set_option maxRecDepth 20000 in
theorem mq_87 : Cond.fieldLink RX4 65 "SpanningTreeProtocol$Network" "segmentCount" "I" ∈ xw := xw_in (List.mem_of_getElem? (i := 87) (by decide +kernel)) rfl
set_option maxRecDepth 20000 in
theorem mq_88 : Cond.fieldLink RX5 39 "SpanningTreeProtocol$Network" "segmentCount" "I" ∈ xw := xw_in (List.mem_of_getElem? (i := 88) (by decide +kernel)) rfl
set_option maxRecDepth 20000 in
theorem mq_89 : Cond.fieldLink RX4 36 "SpanningTreeProtocol$Network" "portCount" "I" ∈ xw := xw_in (List.mem_of_getElem? (i := 89) (by decide +kernel)) rfl
set_option maxRecDepth 20000 in
theorem mq_90 : Cond.fieldLink RX3 62 "SpanningTreeProtocol$Network" "portCount" "I" ∈ xw := xw_in (List.mem_of_getElem? (i := 90) (by decide +kernel)) rfl
set_option maxRecDepth 20000 in
theorem mq_91 : Cond.fieldLink RX5 23 "SpanningTreeProtocol$Network" "portCount" "I" ∈ xw := xw_in (List.mem_of_getElem? (i := 91) (by decide +kernel)) rfl
set_option maxRecDepth 20000 in
theorem mq_92 : Cond.fieldLink RX0 48 "SpanningTreeProtocol$Network" "portCount" "I" ∈ xw := xw_in (List.mem_of_getElem? (i := 92) (by decide +kernel)) rfl
set_option maxRecDepth 20000 in
theorem mq_93 : Cond.fieldLink RX1 42 "SpanningTreeProtocol$Network" "portCount" "I" ∈ xw := xw_in (List.mem_of_getElem? (i := 93) (by decide +kernel)) rfl
set_option maxRecDepth 20000 in
theorem mq_94 : Cond.fieldLink RX6 80 "SpanningTreeProtocol$Network" "portCount" "I" ∈ xw := xw_in (List.mem_of_getElem? (i := 94) (by decide +kernel)) rfl
set_option maxRecDepth 20000 in
theorem mq_95 : Cond.fieldLink RX3 65 "SpanningTreeProtocol$Network" "stationCount" "I" ∈ xw := xw_in (List.mem_of_getElem? (i := 95) (by decide +kernel)) rfl
set_option maxRecDepth 20000 in
theorem mq_96 : Cond.fieldLink RX6 87 "SpanningTreeProtocol$Network" "stationCount" "I" ∈ xw := xw_in (List.mem_of_getElem? (i := 96) (by decide +kernel)) rfl
set_option maxRecDepth 20000 in
theorem mq_97 : Cond.fieldLink RX3 68 "SpanningTreeProtocol$Network" "time" "I" ∈ xw := xw_in (List.mem_of_getElem? (i := 97) (by decide +kernel)) rfl
set_option maxRecDepth 20000 in
theorem mq_98 : Cond.fieldLink RX4 62 "SpanningTreeProtocol$Network" "time" "I" ∈ xw := xw_in (List.mem_of_getElem? (i := 98) (by decide +kernel)) rfl
set_option maxRecDepth 20000 in
theorem mq_99 : Cond.fieldLink RX6 123 "SpanningTreeProtocol$Network" "time" "I" ∈ xw := xw_in (List.mem_of_getElem? (i := 99) (by decide +kernel)) rfl
set_option maxRecDepth 20000 in
theorem mq_100 : Cond.fieldLink RX3 9 "SpanningTreeProtocol$Network" "priority" "[I" ∈ xw := xw_in (List.mem_of_getElem? (i := 100) (by decide +kernel)) rfl
set_option maxRecDepth 20000 in
theorem mq_101 : Cond.fieldLink RX6 93 "SpanningTreeProtocol$Network" "priority" "[I" ∈ xw := xw_in (List.mem_of_getElem? (i := 101) (by decide +kernel)) rfl
set_option maxRecDepth 20000 in
theorem mq_102 : Cond.fieldLink RX3 15 "SpanningTreeProtocol$Network" "bridgePower" "[I" ∈ xw := xw_in (List.mem_of_getElem? (i := 102) (by decide +kernel)) rfl
set_option maxRecDepth 20000 in
theorem mq_103 : Cond.fieldLink RX3 18 "SpanningTreeProtocol$Network" "portBridge" "[I" ∈ xw := xw_in (List.mem_of_getElem? (i := 103) (by decide +kernel)) rfl
set_option maxRecDepth 20000 in
theorem mq_104 : Cond.fieldLink RX4 85 "SpanningTreeProtocol$Network" "portBridge" "[I" ∈ xw := xw_in (List.mem_of_getElem? (i := 104) (by decide +kernel)) rfl
set_option maxRecDepth 20000 in
theorem mq_105 : Cond.fieldLink RX0 80 "SpanningTreeProtocol$Network" "portBridge" "[I" ∈ xw := xw_in (List.mem_of_getElem? (i := 105) (by decide +kernel)) rfl
set_option maxRecDepth 20000 in
theorem mq_106 : Cond.fieldLink RX5 51 "SpanningTreeProtocol$Network" "portBridge" "[I" ∈ xw := xw_in (List.mem_of_getElem? (i := 106) (by decide +kernel)) rfl
set_option maxRecDepth 20000 in
theorem mq_107 : Cond.fieldLink RX1 65 "SpanningTreeProtocol$Network" "portBridge" "[I" ∈ xw := xw_in (List.mem_of_getElem? (i := 107) (by decide +kernel)) rfl
set_option maxRecDepth 20000 in
theorem mq_108 : Cond.fieldLink RX3 21 "SpanningTreeProtocol$Network" "portSegment" "[I" ∈ xw := xw_in (List.mem_of_getElem? (i := 108) (by decide +kernel)) rfl
set_option maxRecDepth 20000 in
theorem mq_109 : Cond.fieldLink RX1 45 "SpanningTreeProtocol$Network" "portSegment" "[I" ∈ xw := xw_in (List.mem_of_getElem? (i := 109) (by decide +kernel)) rfl
set_option maxRecDepth 20000 in
theorem mq_110 : Cond.fieldLink RX4 91 "SpanningTreeProtocol$Network" "portSegment" "[I" ∈ xw := xw_in (List.mem_of_getElem? (i := 110) (by decide +kernel)) rfl
set_option maxRecDepth 20000 in
theorem mq_111 : Cond.fieldLink RX5 48 "SpanningTreeProtocol$Network" "portSegment" "[I" ∈ xw := xw_in (List.mem_of_getElem? (i := 111) (by decide +kernel)) rfl
set_option maxRecDepth 20000 in
theorem mq_112 : Cond.fieldLink RX3 24 "SpanningTreeProtocol$Network" "portCost" "[I" ∈ xw := xw_in (List.mem_of_getElem? (i := 112) (by decide +kernel)) rfl
set_option maxRecDepth 20000 in
theorem mq_113 : Cond.fieldLink RX0 86 "SpanningTreeProtocol$Network" "portCost" "[I" ∈ xw := xw_in (List.mem_of_getElem? (i := 113) (by decide +kernel)) rfl
set_option maxRecDepth 20000 in
theorem mq_114 : Cond.fieldLink RX6 100 "SpanningTreeProtocol$Network" "portCost" "[I" ∈ xw := xw_in (List.mem_of_getElem? (i := 114) (by decide +kernel)) rfl
set_option maxRecDepth 20000 in
theorem mq_115 : Cond.fieldLink RX3 27 "SpanningTreeProtocol$Network" "portPower" "[I" ∈ xw := xw_in (List.mem_of_getElem? (i := 115) (by decide +kernel)) rfl
set_option maxRecDepth 20000 in
theorem mq_116 : Cond.fieldLink RX3 30 "SpanningTreeProtocol$Network" "portState" "[I" ∈ xw := xw_in (List.mem_of_getElem? (i := 116) (by decide +kernel)) rfl
set_option maxRecDepth 20000 in
theorem mq_117 : Cond.fieldLink RX1 56 "SpanningTreeProtocol$Network" "portState" "[I" ∈ xw := xw_in (List.mem_of_getElem? (i := 117) (by decide +kernel)) rfl
set_option maxRecDepth 20000 in
theorem mq_118 : Cond.fieldLink RX4 117 "SpanningTreeProtocol$Network" "portState" "[I" ∈ xw := xw_in (List.mem_of_getElem? (i := 118) (by decide +kernel)) rfl
set_option maxRecDepth 20000 in
theorem mq_119 : Cond.fieldLink RX6 144 "SpanningTreeProtocol$Network" "portState" "[I" ∈ xw := xw_in (List.mem_of_getElem? (i := 119) (by decide +kernel)) rfl
set_option maxRecDepth 20000 in
theorem mq_120 : Cond.fieldLink RX3 33 "SpanningTreeProtocol$Network" "stateCounter" "[I" ∈ xw := xw_in (List.mem_of_getElem? (i := 120) (by decide +kernel)) rfl
set_option maxRecDepth 20000 in
theorem mq_121 : Cond.fieldLink RX4 131 "SpanningTreeProtocol$Network" "stateCounter" "[I" ∈ xw := xw_in (List.mem_of_getElem? (i := 121) (by decide +kernel)) rfl
set_option maxRecDepth 20000 in
theorem mq_122 : Cond.fieldLink RX3 36 "SpanningTreeProtocol$Network" "message" "[J" ∈ xw := xw_in (List.mem_of_getElem? (i := 122) (by decide +kernel)) rfl
set_option maxRecDepth 20000 in
theorem mq_123 : Cond.fieldLink RX0 71 "SpanningTreeProtocol$Network" "message" "[J" ∈ xw := xw_in (List.mem_of_getElem? (i := 123) (by decide +kernel)) rfl
set_option maxRecDepth 20000 in
theorem mq_124 : Cond.fieldLink RX4 105 "SpanningTreeProtocol$Network" "message" "[J" ∈ xw := xw_in (List.mem_of_getElem? (i := 124) (by decide +kernel)) rfl
set_option maxRecDepth 20000 in
theorem mq_125 : Cond.fieldLink RX6 150 "SpanningTreeProtocol$Network" "message" "[J" ∈ xw := xw_in (List.mem_of_getElem? (i := 125) (by decide +kernel)) rfl
set_option maxRecDepth 20000 in
theorem mq_126 : Cond.fieldLink RX3 40 "SpanningTreeProtocol$Network" "messageLifetime" "[I" ∈ xw := xw_in (List.mem_of_getElem? (i := 126) (by decide +kernel)) rfl
set_option maxRecDepth 20000 in
theorem mq_127 : Cond.fieldLink RX4 88 "SpanningTreeProtocol$Network" "messageLifetime" "[I" ∈ xw := xw_in (List.mem_of_getElem? (i := 127) (by decide +kernel)) rfl
set_option maxRecDepth 20000 in
theorem mq_128 : Cond.fieldLink RX6 169 "SpanningTreeProtocol$Network" "messageLifetime" "[I" ∈ xw := xw_in (List.mem_of_getElem? (i := 128) (by decide +kernel)) rfl
set_option maxRecDepth 20000 in
theorem mq_129 : Cond.fieldLink RX3 43 "SpanningTreeProtocol$Network" "stationSegment" "[I" ∈ xw := xw_in (List.mem_of_getElem? (i := 129) (by decide +kernel)) rfl
set_option maxRecDepth 20000 in
theorem mq_130 : Cond.fieldLink RX1 31 "SpanningTreeProtocol$Network" "stationSegment" "[I" ∈ xw := xw_in (List.mem_of_getElem? (i := 130) (by decide +kernel)) rfl
set_option maxRecDepth 20000 in
theorem mq_131 : Cond.fieldLink RX6 113 "SpanningTreeProtocol$Network" "stationSegment" "[I" ∈ xw := xw_in (List.mem_of_getElem? (i := 131) (by decide +kernel)) rfl
set_option maxRecDepth 20000 in
theorem mq_132 : Cond.fieldLink RX3 46 "SpanningTreeProtocol$Network" "entryPort" "[I" ∈ xw := xw_in (List.mem_of_getElem? (i := 132) (by decide +kernel)) rfl
set_option maxRecDepth 20000 in
theorem mq_133 : Cond.fieldLink RX3 49 "SpanningTreeProtocol$Network" "entryLifetime" "[I" ∈ xw := xw_in (List.mem_of_getElem? (i := 133) (by decide +kernel)) rfl
set_option maxRecDepth 20000 in
theorem mq_134 : Cond.fieldLink RX3 52 "SpanningTreeProtocol$Network" "transmitted" "[I" ∈ xw := xw_in (List.mem_of_getElem? (i := 134) (by decide +kernel)) rfl
set_option maxRecDepth 20000 in
theorem mq_135 : Cond.fieldLink RX1 26 "SpanningTreeProtocol$Network" "transmitted" "[I" ∈ xw := xw_in (List.mem_of_getElem? (i := 135) (by decide +kernel)) rfl
set_option maxRecDepth 20000 in
theorem mq_136 : Cond.fieldLink RX6 181 "SpanningTreeProtocol$Network" "transmitted" "[I" ∈ xw := xw_in (List.mem_of_getElem? (i := 136) (by decide +kernel)) rfl
set_option maxRecDepth 20000 in
theorem mq_176 : Cond.arrayClass .int ∈ xw := xw_in (List.mem_of_getElem? (i := 176) (by decide +kernel)) rfl
set_option maxRecDepth 20000 in
theorem mq_177 : Cond.arrayClass .long ∈ xw := xw_in (List.mem_of_getElem? (i := 177) (by decide +kernel)) rfl
set_option maxRecDepth 20000 in
theorem mq_178 : Cond.classLink RX6 10 RX0 ∈ xw := xw_in (List.mem_of_getElem? (i := 178) (by decide +kernel)) rfl
set_option maxRecDepth 20000 in
theorem mq_179 : Cond.instantiable RX0 7 ∈ xw := xw_in (List.mem_of_getElem? (i := 179) (by decide +kernel)) rfl
set_option maxRecDepth 20000 in
theorem mq_180 : Cond.methodLink RX6 12 yX0_init ∈ xw := xw_in (List.mem_of_getElem? (i := 180) (by decide +kernel)) rfl
set_option maxRecDepth 20000 in
theorem mq_181 : Cond.instanceMethod yX0_init ∈ xw := xw_in (List.mem_of_getElem? (i := 181) (by decide +kernel)) rfl
set_option maxRecDepth 20000 in
theorem mq_182 : Cond.code yX0_init cX0_init 2 none ∈ xw := xw_in (List.mem_of_getElem? (i := 182) (by decide +kernel)) rfl
set_option maxRecDepth 20000 in
theorem mq_183 : Cond.methodLink RX0 3 objectInit ∈ xw := xw_in (List.mem_of_getElem? (i := 183) (by decide +kernel)) rfl
set_option maxRecDepth 20000 in
theorem mq_184 : Cond.fieldLink RX0 31 "SpanningTreeProtocol$Election" "net" "LSpanningTreeProtocol$Network;" ∈ xw := xw_in (List.mem_of_getElem? (i := 184) (by decide +kernel)) rfl
set_option maxRecDepth 20000 in
theorem mq_185 : Cond.fieldLink RX0 9 "SpanningTreeProtocol$Election" "bridgeRoot" "[I" ∈ xw := xw_in (List.mem_of_getElem? (i := 185) (by decide +kernel)) rfl
set_option maxRecDepth 20000 in
theorem mq_186 : Cond.fieldLink RX6 132 "SpanningTreeProtocol$Election" "bridgeRoot" "[I" ∈ xw := xw_in (List.mem_of_getElem? (i := 186) (by decide +kernel)) rfl
set_option maxRecDepth 20000 in
theorem mq_187 : Cond.fieldLink RX0 15 "SpanningTreeProtocol$Election" "bridgeRootCost" "[I" ∈ xw := xw_in (List.mem_of_getElem? (i := 187) (by decide +kernel)) rfl
set_option maxRecDepth 20000 in
theorem mq_188 : Cond.fieldLink RX6 135 "SpanningTreeProtocol$Election" "bridgeRootCost" "[I" ∈ xw := xw_in (List.mem_of_getElem? (i := 188) (by decide +kernel)) rfl
set_option maxRecDepth 20000 in
theorem mq_189 : Cond.fieldLink RX0 18 "SpanningTreeProtocol$Election" "bridgeRootPort" "[I" ∈ xw := xw_in (List.mem_of_getElem? (i := 189) (by decide +kernel)) rfl
set_option maxRecDepth 20000 in
theorem mq_190 : Cond.fieldLink RX4 82 "SpanningTreeProtocol$Election" "bridgeRootPort" "[I" ∈ xw := xw_in (List.mem_of_getElem? (i := 190) (by decide +kernel)) rfl
set_option maxRecDepth 20000 in
theorem mq_191 : Cond.fieldLink RX6 138 "SpanningTreeProtocol$Election" "bridgeRootPort" "[I" ∈ xw := xw_in (List.mem_of_getElem? (i := 191) (by decide +kernel)) rfl
set_option maxRecDepth 20000 in
theorem mq_192 : Cond.fieldLink RX0 21 "SpanningTreeProtocol$Election" "portRole" "[I" ∈ xw := xw_in (List.mem_of_getElem? (i := 192) (by decide +kernel)) rfl
set_option maxRecDepth 20000 in
theorem mq_193 : Cond.fieldLink RX4 72 "SpanningTreeProtocol$Election" "portRole" "[I" ∈ xw := xw_in (List.mem_of_getElem? (i := 193) (by decide +kernel)) rfl
set_option maxRecDepth 20000 in
theorem mq_194 : Cond.fieldLink RX6 141 "SpanningTreeProtocol$Election" "portRole" "[I" ∈ xw := xw_in (List.mem_of_getElem? (i := 194) (by decide +kernel)) rfl
set_option maxRecDepth 20000 in
theorem mq_195 : Cond.fieldLink RX0 24 "SpanningTreeProtocol$Election" "bestOffer" "[J" ∈ xw := xw_in (List.mem_of_getElem? (i := 195) (by decide +kernel)) rfl
set_option maxRecDepth 20000 in
theorem mq_196 : Cond.fieldLink RX0 28 "SpanningTreeProtocol$Election" "bestOfferPort" "[I" ∈ xw := xw_in (List.mem_of_getElem? (i := 196) (by decide +kernel)) rfl
set_option maxRecDepth 20000 in
theorem mq_212 : Cond.classLink RX6 25 RX4 ∈ xw := xw_in (List.mem_of_getElem? (i := 212) (by decide +kernel)) rfl
set_option maxRecDepth 20000 in
theorem mq_213 : Cond.instantiable RX4 6 ∈ xw := xw_in (List.mem_of_getElem? (i := 213) (by decide +kernel)) rfl
set_option maxRecDepth 20000 in
theorem mq_214 : Cond.methodLink RX6 27 yX4_init ∈ xw := xw_in (List.mem_of_getElem? (i := 214) (by decide +kernel)) rfl
set_option maxRecDepth 20000 in
theorem mq_215 : Cond.instanceMethod yX4_init ∈ xw := xw_in (List.mem_of_getElem? (i := 215) (by decide +kernel)) rfl
set_option maxRecDepth 20000 in
theorem mq_216 : Cond.code yX4_init cX4_init 3 none ∈ xw := xw_in (List.mem_of_getElem? (i := 216) (by decide +kernel)) rfl
set_option maxRecDepth 20000 in
theorem mq_217 : Cond.methodLink RX4 3 objectInit ∈ xw := xw_in (List.mem_of_getElem? (i := 217) (by decide +kernel)) rfl
set_option maxRecDepth 20000 in
theorem mq_218 : Cond.fieldLink RX4 25 "SpanningTreeProtocol$Ticker" "net" "LSpanningTreeProtocol$Network;" ∈ xw := xw_in (List.mem_of_getElem? (i := 218) (by decide +kernel)) rfl
set_option maxRecDepth 20000 in
theorem mq_219 : Cond.fieldLink RX4 29 "SpanningTreeProtocol$Ticker" "election" "LSpanningTreeProtocol$Election;" ∈ xw := xw_in (List.mem_of_getElem? (i := 219) (by decide +kernel)) rfl
set_option maxRecDepth 20000 in
theorem mq_220 : Cond.fieldLink RX4 9 "SpanningTreeProtocol$Ticker" "sentMessage" "[J" ∈ xw := xw_in (List.mem_of_getElem? (i := 220) (by decide +kernel)) rfl
set_option maxRecDepth 20000 in
theorem mq_221 : Cond.fieldLink RX4 15 "SpanningTreeProtocol$Ticker" "sentAge" "[I" ∈ xw := xw_in (List.mem_of_getElem? (i := 221) (by decide +kernel)) rfl
set_option maxRecDepth 20000 in
theorem mq_222 : Cond.fieldLink RX4 19 "SpanningTreeProtocol$Ticker" "bestSender" "[I" ∈ xw := xw_in (List.mem_of_getElem? (i := 222) (by decide +kernel)) rfl
set_option maxRecDepth 20000 in
theorem mq_223 : Cond.fieldLink RX4 22 "SpanningTreeProtocol$Ticker" "nextBestSender" "[I" ∈ xw := xw_in (List.mem_of_getElem? (i := 223) (by decide +kernel)) rfl
set_option maxRecDepth 20000 in
theorem mq_237 : Cond.classLink RX6 34 RX1 ∈ xw := xw_in (List.mem_of_getElem? (i := 237) (by decide +kernel)) rfl
set_option maxRecDepth 20000 in
theorem mq_238 : Cond.instantiable RX1 4 ∈ xw := xw_in (List.mem_of_getElem? (i := 238) (by decide +kernel)) rfl
set_option maxRecDepth 20000 in
theorem mq_239 : Cond.methodLink RX6 36 yX1_init ∈ xw := xw_in (List.mem_of_getElem? (i := 239) (by decide +kernel)) rfl
set_option maxRecDepth 20000 in
theorem mq_240 : Cond.instanceMethod yX1_init ∈ xw := xw_in (List.mem_of_getElem? (i := 240) (by decide +kernel)) rfl
set_option maxRecDepth 20000 in
theorem mq_241 : Cond.code yX1_init cX1_init 2 none ∈ xw := xw_in (List.mem_of_getElem? (i := 241) (by decide +kernel)) rfl
set_option maxRecDepth 20000 in
theorem mq_242 : Cond.methodLink RX1 3 objectInit ∈ xw := xw_in (List.mem_of_getElem? (i := 242) (by decide +kernel)) rfl
set_option maxRecDepth 20000 in
theorem mq_243 : Cond.fieldLink RX1 18 "SpanningTreeProtocol$Frame" "net" "LSpanningTreeProtocol$Network;" ∈ xw := xw_in (List.mem_of_getElem? (i := 243) (by decide +kernel)) rfl
set_option maxRecDepth 20000 in
theorem mq_244 : Cond.fieldLink RX1 9 "SpanningTreeProtocol$Frame" "queueSegment" "[I" ∈ xw := xw_in (List.mem_of_getElem? (i := 244) (by decide +kernel)) rfl
set_option maxRecDepth 20000 in
theorem mq_245 : Cond.fieldLink RX1 15 "SpanningTreeProtocol$Frame" "queuePort" "[I" ∈ xw := xw_in (List.mem_of_getElem? (i := 245) (by decide +kernel)) rfl
set_option maxRecDepth 20000 in
theorem mq_246 : Cond.fieldLink RX1 22 "SpanningTreeProtocol$Frame" "made" "I" ∈ xw := xw_in (List.mem_of_getElem? (i := 246) (by decide +kernel)) rfl
set_option maxRecDepth 20000 in
theorem mq_256 : Cond.classLink RX6 41 RX5 ∈ xw := xw_in (List.mem_of_getElem? (i := 256) (by decide +kernel)) rfl
set_option maxRecDepth 20000 in
theorem mq_257 : Cond.instantiable RX5 2 ∈ xw := xw_in (List.mem_of_getElem? (i := 257) (by decide +kernel)) rfl
set_option maxRecDepth 20000 in
theorem mq_258 : Cond.methodLink RX6 43 yX5_init ∈ xw := xw_in (List.mem_of_getElem? (i := 258) (by decide +kernel)) rfl
set_option maxRecDepth 20000 in
theorem mq_259 : Cond.instanceMethod yX5_init ∈ xw := xw_in (List.mem_of_getElem? (i := 259) (by decide +kernel)) rfl
set_option maxRecDepth 20000 in
theorem mq_260 : Cond.code yX5_init cX5_init 2 none ∈ xw := xw_in (List.mem_of_getElem? (i := 260) (by decide +kernel)) rfl
set_option maxRecDepth 20000 in
theorem mq_261 : Cond.methodLink RX5 3 objectInit ∈ xw := xw_in (List.mem_of_getElem? (i := 261) (by decide +kernel)) rfl
set_option maxRecDepth 20000 in
theorem mq_262 : Cond.fieldLink RX5 15 "SpanningTreeProtocol$Topology" "net" "LSpanningTreeProtocol$Network;" ∈ xw := xw_in (List.mem_of_getElem? (i := 262) (by decide +kernel)) rfl
set_option maxRecDepth 20000 in
theorem mq_263 : Cond.fieldLink RX5 9 "SpanningTreeProtocol$Topology" "label" "[I" ∈ xw := xw_in (List.mem_of_getElem? (i := 263) (by decide +kernel)) rfl
set_option maxRecDepth 20000 in
theorem mq_270 : Cond.fieldLink RX6 15 "SpanningTreeProtocol" "network" "LSpanningTreeProtocol$Network;" ∈ xw := xw_in (List.mem_of_getElem? (i := 270) (by decide +kernel)) rfl
set_option maxRecDepth 20000 in
theorem mq_271 : Cond.fieldLink RX6 21 "SpanningTreeProtocol" "election" "LSpanningTreeProtocol$Election;" ∈ xw := xw_in (List.mem_of_getElem? (i := 271) (by decide +kernel)) rfl
set_option maxRecDepth 20000 in
theorem mq_272 : Cond.fieldLink RX6 30 "SpanningTreeProtocol" "ticker" "LSpanningTreeProtocol$Ticker;" ∈ xw := xw_in (List.mem_of_getElem? (i := 272) (by decide +kernel)) rfl
set_option maxRecDepth 20000 in
theorem mq_273 : Cond.fieldLink RX6 37 "SpanningTreeProtocol" "frame" "LSpanningTreeProtocol$Frame;" ∈ xw := xw_in (List.mem_of_getElem? (i := 273) (by decide +kernel)) rfl
set_option maxRecDepth 20000 in
theorem mq_274 : Cond.fieldLink RX6 44 "SpanningTreeProtocol" "topology" "LSpanningTreeProtocol$Topology;" ∈ xw := xw_in (List.mem_of_getElem? (i := 274) (by decide +kernel)) rfl
set_option maxRecDepth 20000 in
theorem mq_275 : Cond.fieldLink RX6 48 "SpanningTreeProtocol" "saved" "[LSpanningTreeProtocol$Network;" ∈ xw := xw_in (List.mem_of_getElem? (i := 275) (by decide +kernel)) rfl
set_option maxRecDepth 20000 in
theorem mq_289 : Cond.methodLink RL 13 yX6_addBridge ∈ xw := xw_in (List.mem_of_getElem? (i := 289) (by decide +kernel)) rfl
set_option maxRecDepth 20000 in
theorem mq_290 : Cond.instanceMethod yX6_addBridge ∈ xw := xw_in (List.mem_of_getElem? (i := 290) (by decide +kernel)) rfl
set_option maxRecDepth 20000 in
theorem mq_291 : Cond.selects RX6 yX6_addBridge yX6_addBridge ∈ xw := xw_in (List.mem_of_getElem? (i := 291) (by decide +kernel)) rfl
set_option maxRecDepth 20000 in
theorem mq_292 : Cond.code yX6_addBridge cX6_addBridge 2 (some .int) ∈ xw := xw_in (List.mem_of_getElem? (i := 292) (by decide +kernel)) rfl
set_option maxRecDepth 20000 in
theorem mq_293 : Cond.methodLink RX6 52 yX6_isPriority ∈ xw := xw_in (List.mem_of_getElem? (i := 293) (by decide +kernel)) rfl
set_option maxRecDepth 20000 in
theorem mq_294 : Cond.static yX6_isPriority ∈ xw := xw_in (List.mem_of_getElem? (i := 294) (by decide +kernel)) rfl
set_option maxRecDepth 20000 in
theorem mq_295 : Cond.code yX6_isPriority cX6_isPriority 1 (some .boolean) ∈ xw := xw_in (List.mem_of_getElem? (i := 295) (by decide +kernel)) rfl
set_option maxRecDepth 20000 in
theorem mq_296 : Cond.methodLink RX6 60 yX3_appendBridge ∈ xw := xw_in (List.mem_of_getElem? (i := 296) (by decide +kernel)) rfl
set_option maxRecDepth 20000 in
theorem mq_297 : Cond.instanceMethod yX3_appendBridge ∈ xw := xw_in (List.mem_of_getElem? (i := 297) (by decide +kernel)) rfl
set_option maxRecDepth 20000 in
theorem mq_298 : Cond.selects RX3 yX3_appendBridge yX3_appendBridge ∈ xw := xw_in (List.mem_of_getElem? (i := 298) (by decide +kernel)) rfl
set_option maxRecDepth 20000 in
theorem mq_299 : Cond.code yX3_appendBridge cX3_appendBridge 3 (some .int) ∈ xw := xw_in (List.mem_of_getElem? (i := 299) (by decide +kernel)) rfl
set_option maxRecDepth 20000 in
theorem mq_300 : Cond.methodLink RL 18 yX6_addSegment ∈ xw := xw_in (List.mem_of_getElem? (i := 300) (by decide +kernel)) rfl
set_option maxRecDepth 20000 in
theorem mq_301 : Cond.instanceMethod yX6_addSegment ∈ xw := xw_in (List.mem_of_getElem? (i := 301) (by decide +kernel)) rfl
set_option maxRecDepth 20000 in
theorem mq_302 : Cond.selects RX6 yX6_addSegment yX6_addSegment ∈ xw := xw_in (List.mem_of_getElem? (i := 302) (by decide +kernel)) rfl
set_option maxRecDepth 20000 in
theorem mq_303 : Cond.code yX6_addSegment cX6_addSegment 1 (some .int) ∈ xw := xw_in (List.mem_of_getElem? (i := 303) (by decide +kernel)) rfl
set_option maxRecDepth 20000 in
theorem mq_304 : Cond.methodLink RX6 67 yX3_appendSegment ∈ xw := xw_in (List.mem_of_getElem? (i := 304) (by decide +kernel)) rfl
set_option maxRecDepth 20000 in
theorem mq_305 : Cond.instanceMethod yX3_appendSegment ∈ xw := xw_in (List.mem_of_getElem? (i := 305) (by decide +kernel)) rfl
set_option maxRecDepth 20000 in
theorem mq_306 : Cond.selects RX3 yX3_appendSegment yX3_appendSegment ∈ xw := xw_in (List.mem_of_getElem? (i := 306) (by decide +kernel)) rfl
set_option maxRecDepth 20000 in
theorem mq_307 : Cond.code yX3_appendSegment cX3_appendSegment 2 (some .int) ∈ xw := xw_in (List.mem_of_getElem? (i := 307) (by decide +kernel)) rfl
set_option maxRecDepth 20000 in
theorem mq_308 : Cond.methodLink RL 23 yX6_addPort ∈ xw := xw_in (List.mem_of_getElem? (i := 308) (by decide +kernel)) rfl
set_option maxRecDepth 20000 in
theorem mq_309 : Cond.instanceMethod yX6_addPort ∈ xw := xw_in (List.mem_of_getElem? (i := 309) (by decide +kernel)) rfl
set_option maxRecDepth 20000 in
theorem mq_310 : Cond.selects RX6 yX6_addPort yX6_addPort ∈ xw := xw_in (List.mem_of_getElem? (i := 310) (by decide +kernel)) rfl
set_option maxRecDepth 20000 in
theorem mq_311 : Cond.code yX6_addPort cX6_addPort 4 (some .int) ∈ xw := xw_in (List.mem_of_getElem? (i := 311) (by decide +kernel)) rfl
set_option maxRecDepth 20000 in
theorem mq_312 : Cond.methodLink RX6 71 yX3_hasBridge ∈ xw := xw_in (List.mem_of_getElem? (i := 312) (by decide +kernel)) rfl
set_option maxRecDepth 20000 in
theorem mq_313 : Cond.instanceMethod yX3_hasBridge ∈ xw := xw_in (List.mem_of_getElem? (i := 313) (by decide +kernel)) rfl
set_option maxRecDepth 20000 in
theorem mq_314 : Cond.selects RX3 yX3_hasBridge yX3_hasBridge ∈ xw := xw_in (List.mem_of_getElem? (i := 314) (by decide +kernel)) rfl
set_option maxRecDepth 20000 in
theorem mq_315 : Cond.code yX3_hasBridge cX3_hasBridge 2 (some .boolean) ∈ xw := xw_in (List.mem_of_getElem? (i := 315) (by decide +kernel)) rfl
set_option maxRecDepth 20000 in
theorem mq_316 : Cond.methodLink RX6 74 yX3_hasSegment ∈ xw := xw_in (List.mem_of_getElem? (i := 316) (by decide +kernel)) rfl
set_option maxRecDepth 20000 in
theorem mq_317 : Cond.instanceMethod yX3_hasSegment ∈ xw := xw_in (List.mem_of_getElem? (i := 317) (by decide +kernel)) rfl
set_option maxRecDepth 20000 in
theorem mq_318 : Cond.selects RX3 yX3_hasSegment yX3_hasSegment ∈ xw := xw_in (List.mem_of_getElem? (i := 318) (by decide +kernel)) rfl
set_option maxRecDepth 20000 in
theorem mq_319 : Cond.code yX3_hasSegment cX3_hasSegment 2 (some .boolean) ∈ xw := xw_in (List.mem_of_getElem? (i := 319) (by decide +kernel)) rfl
set_option maxRecDepth 20000 in
theorem mq_320 : Cond.methodLink RX6 77 yX6_isCost ∈ xw := xw_in (List.mem_of_getElem? (i := 320) (by decide +kernel)) rfl
set_option maxRecDepth 20000 in
theorem mq_321 : Cond.static yX6_isCost ∈ xw := xw_in (List.mem_of_getElem? (i := 321) (by decide +kernel)) rfl
set_option maxRecDepth 20000 in
theorem mq_322 : Cond.code yX6_isCost cX6_isCost 1 (some .boolean) ∈ xw := xw_in (List.mem_of_getElem? (i := 322) (by decide +kernel)) rfl
set_option maxRecDepth 20000 in
theorem mq_323 : Cond.methodLink RX6 83 yX3_appendPort ∈ xw := xw_in (List.mem_of_getElem? (i := 323) (by decide +kernel)) rfl
set_option maxRecDepth 20000 in
theorem mq_324 : Cond.instanceMethod yX3_appendPort ∈ xw := xw_in (List.mem_of_getElem? (i := 324) (by decide +kernel)) rfl
set_option maxRecDepth 20000 in
theorem mq_325 : Cond.selects RX3 yX3_appendPort yX3_appendPort ∈ xw := xw_in (List.mem_of_getElem? (i := 325) (by decide +kernel)) rfl
set_option maxRecDepth 20000 in
theorem mq_326 : Cond.code yX3_appendPort cX3_appendPort 5 (some .int) ∈ xw := xw_in (List.mem_of_getElem? (i := 326) (by decide +kernel)) rfl
set_option maxRecDepth 20000 in
theorem mq_327 : Cond.methodLink RX3 87 yX3_isBridgeUp ∈ xw := xw_in (List.mem_of_getElem? (i := 327) (by decide +kernel)) rfl
set_option maxRecDepth 20000 in
theorem mq_328 : Cond.instanceMethod yX3_isBridgeUp ∈ xw := xw_in (List.mem_of_getElem? (i := 328) (by decide +kernel)) rfl
set_option maxRecDepth 20000 in
theorem mq_329 : Cond.selects RX3 yX3_isBridgeUp yX3_isBridgeUp ∈ xw := xw_in (List.mem_of_getElem? (i := 329) (by decide +kernel)) rfl
set_option maxRecDepth 20000 in
theorem mq_330 : Cond.code yX3_isBridgeUp cX3_isBridgeUp 2 (some .boolean) ∈ xw := xw_in (List.mem_of_getElem? (i := 330) (by decide +kernel)) rfl
set_option maxRecDepth 20000 in
theorem mq_331 : Cond.methodLink RL 28 yX6_addStation ∈ xw := xw_in (List.mem_of_getElem? (i := 331) (by decide +kernel)) rfl
set_option maxRecDepth 20000 in
theorem mq_332 : Cond.instanceMethod yX6_addStation ∈ xw := xw_in (List.mem_of_getElem? (i := 332) (by decide +kernel)) rfl
set_option maxRecDepth 20000 in
theorem mq_333 : Cond.selects RX6 yX6_addStation yX6_addStation ∈ xw := xw_in (List.mem_of_getElem? (i := 333) (by decide +kernel)) rfl
set_option maxRecDepth 20000 in
theorem mq_334 : Cond.code yX6_addStation cX6_addStation 2 (some .int) ∈ xw := xw_in (List.mem_of_getElem? (i := 334) (by decide +kernel)) rfl
set_option maxRecDepth 20000 in
theorem mq_335 : Cond.methodLink RX6 90 yX3_appendStation ∈ xw := xw_in (List.mem_of_getElem? (i := 335) (by decide +kernel)) rfl
set_option maxRecDepth 20000 in
theorem mq_336 : Cond.instanceMethod yX3_appendStation ∈ xw := xw_in (List.mem_of_getElem? (i := 336) (by decide +kernel)) rfl
set_option maxRecDepth 20000 in
theorem mq_337 : Cond.selects RX3 yX3_appendStation yX3_appendStation ∈ xw := xw_in (List.mem_of_getElem? (i := 337) (by decide +kernel)) rfl
set_option maxRecDepth 20000 in
theorem mq_338 : Cond.code yX3_appendStation cX3_appendStation 3 (some .int) ∈ xw := xw_in (List.mem_of_getElem? (i := 338) (by decide +kernel)) rfl
set_option maxRecDepth 20000 in
theorem mq_339 : Cond.methodLink RL 32 yX6_setPriority ∈ xw := xw_in (List.mem_of_getElem? (i := 339) (by decide +kernel)) rfl
set_option maxRecDepth 20000 in
theorem mq_340 : Cond.instanceMethod yX6_setPriority ∈ xw := xw_in (List.mem_of_getElem? (i := 340) (by decide +kernel)) rfl
set_option maxRecDepth 20000 in
theorem mq_341 : Cond.selects RX6 yX6_setPriority yX6_setPriority ∈ xw := xw_in (List.mem_of_getElem? (i := 341) (by decide +kernel)) rfl
set_option maxRecDepth 20000 in
theorem mq_342 : Cond.code yX6_setPriority cX6_setPriority 4 (some .int) ∈ xw := xw_in (List.mem_of_getElem? (i := 342) (by decide +kernel)) rfl
set_option maxRecDepth 20000 in
theorem mq_343 : Cond.methodLink RL 37 yX6_setCost ∈ xw := xw_in (List.mem_of_getElem? (i := 343) (by decide +kernel)) rfl
set_option maxRecDepth 20000 in
theorem mq_344 : Cond.instanceMethod yX6_setCost ∈ xw := xw_in (List.mem_of_getElem? (i := 344) (by decide +kernel)) rfl
set_option maxRecDepth 20000 in
theorem mq_345 : Cond.selects RX6 yX6_setCost yX6_setCost ∈ xw := xw_in (List.mem_of_getElem? (i := 345) (by decide +kernel)) rfl
set_option maxRecDepth 20000 in
theorem mq_346 : Cond.code yX6_setCost cX6_setCost 4 (some .int) ∈ xw := xw_in (List.mem_of_getElem? (i := 346) (by decide +kernel)) rfl
set_option maxRecDepth 20000 in
theorem mq_347 : Cond.methodLink RX6 97 yX3_hasPort ∈ xw := xw_in (List.mem_of_getElem? (i := 347) (by decide +kernel)) rfl
set_option maxRecDepth 20000 in
theorem mq_348 : Cond.instanceMethod yX3_hasPort ∈ xw := xw_in (List.mem_of_getElem? (i := 348) (by decide +kernel)) rfl
set_option maxRecDepth 20000 in
theorem mq_349 : Cond.selects RX3 yX3_hasPort yX3_hasPort ∈ xw := xw_in (List.mem_of_getElem? (i := 349) (by decide +kernel)) rfl
set_option maxRecDepth 20000 in
theorem mq_350 : Cond.code yX3_hasPort cX3_hasPort 2 (some .boolean) ∈ xw := xw_in (List.mem_of_getElem? (i := 350) (by decide +kernel)) rfl
set_option maxRecDepth 20000 in
theorem mq_351 : Cond.methodLink RL 41 yX6_setBridge ∈ xw := xw_in (List.mem_of_getElem? (i := 351) (by decide +kernel)) rfl
set_option maxRecDepth 20000 in
theorem mq_352 : Cond.instanceMethod yX6_setBridge ∈ xw := xw_in (List.mem_of_getElem? (i := 352) (by decide +kernel)) rfl
set_option maxRecDepth 20000 in
theorem mq_353 : Cond.selects RX6 yX6_setBridge yX6_setBridge ∈ xw := xw_in (List.mem_of_getElem? (i := 353) (by decide +kernel)) rfl
set_option maxRecDepth 20000 in
theorem mq_354 : Cond.code yX6_setBridge cX6_setBridge 3 (some .int) ∈ xw := xw_in (List.mem_of_getElem? (i := 354) (by decide +kernel)) rfl
set_option maxRecDepth 20000 in
theorem mq_355 : Cond.methodLink RX6 103 yX3_switchBridge ∈ xw := xw_in (List.mem_of_getElem? (i := 355) (by decide +kernel)) rfl
set_option maxRecDepth 20000 in
theorem mq_356 : Cond.instanceMethod yX3_switchBridge ∈ xw := xw_in (List.mem_of_getElem? (i := 356) (by decide +kernel)) rfl
set_option maxRecDepth 20000 in
theorem mq_357 : Cond.selects RX3 yX3_switchBridge yX3_switchBridge ∈ xw := xw_in (List.mem_of_getElem? (i := 357) (by decide +kernel)) rfl
set_option maxRecDepth 20000 in
theorem mq_358 : Cond.code yX3_switchBridge cX3_switchBridge 5 (some .int) ∈ xw := xw_in (List.mem_of_getElem? (i := 358) (by decide +kernel)) rfl
set_option maxRecDepth 20000 in
theorem mq_359 : Cond.methodLink RX3 91 yX3_resetPort ∈ xw := xw_in (List.mem_of_getElem? (i := 359) (by decide +kernel)) rfl
set_option maxRecDepth 20000 in
theorem mq_361 : Cond.instanceMethod yX3_resetPort ∈ xw := xw_in (List.mem_of_getElem? (i := 361) (by decide +kernel)) rfl
set_option maxRecDepth 20000 in
theorem mq_362 : Cond.code yX3_resetPort cX3_resetPort 2 none ∈ xw := xw_in (List.mem_of_getElem? (i := 362) (by decide +kernel)) rfl
set_option maxRecDepth 20000 in
theorem mq_363 : Cond.methodLink RX3 95 yX3_isActive ∈ xw := xw_in (List.mem_of_getElem? (i := 363) (by decide +kernel)) rfl
set_option maxRecDepth 20000 in
theorem mq_364 : Cond.instanceMethod yX3_isActive ∈ xw := xw_in (List.mem_of_getElem? (i := 364) (by decide +kernel)) rfl
set_option maxRecDepth 20000 in
theorem mq_365 : Cond.selects RX3 yX3_isActive yX3_isActive ∈ xw := xw_in (List.mem_of_getElem? (i := 365) (by decide +kernel)) rfl
set_option maxRecDepth 20000 in
theorem mq_366 : Cond.code yX3_isActive cX3_isActive 2 (some .boolean) ∈ xw := xw_in (List.mem_of_getElem? (i := 366) (by decide +kernel)) rfl
set_option maxRecDepth 20000 in
theorem mq_367 : Cond.methodLink RX3 98 yX3_forgetEntriesWith ∈ xw := xw_in (List.mem_of_getElem? (i := 367) (by decide +kernel)) rfl
set_option maxRecDepth 20000 in
theorem mq_369 : Cond.instanceMethod yX3_forgetEntriesWith ∈ xw := xw_in (List.mem_of_getElem? (i := 369) (by decide +kernel)) rfl
set_option maxRecDepth 20000 in
theorem mq_370 : Cond.code yX3_forgetEntriesWith cX3_forgetEntriesWith 3 none ∈ xw := xw_in (List.mem_of_getElem? (i := 370) (by decide +kernel)) rfl
set_option maxRecDepth 20000 in
theorem mq_371 : Cond.methodLink RL 46 yX6_setPort ∈ xw := xw_in (List.mem_of_getElem? (i := 371) (by decide +kernel)) rfl
set_option maxRecDepth 20000 in
theorem mq_372 : Cond.instanceMethod yX6_setPort ∈ xw := xw_in (List.mem_of_getElem? (i := 372) (by decide +kernel)) rfl
set_option maxRecDepth 20000 in
theorem mq_373 : Cond.selects RX6 yX6_setPort yX6_setPort ∈ xw := xw_in (List.mem_of_getElem? (i := 373) (by decide +kernel)) rfl
set_option maxRecDepth 20000 in
theorem mq_374 : Cond.code yX6_setPort cX6_setPort 3 (some .int) ∈ xw := xw_in (List.mem_of_getElem? (i := 374) (by decide +kernel)) rfl
set_option maxRecDepth 20000 in
theorem mq_375 : Cond.methodLink RX6 107 yX3_switchPort ∈ xw := xw_in (List.mem_of_getElem? (i := 375) (by decide +kernel)) rfl
set_option maxRecDepth 20000 in
theorem mq_376 : Cond.instanceMethod yX3_switchPort ∈ xw := xw_in (List.mem_of_getElem? (i := 376) (by decide +kernel)) rfl
set_option maxRecDepth 20000 in
theorem mq_377 : Cond.selects RX3 yX3_switchPort yX3_switchPort ∈ xw := xw_in (List.mem_of_getElem? (i := 377) (by decide +kernel)) rfl
set_option maxRecDepth 20000 in
theorem mq_378 : Cond.code yX3_switchPort cX3_switchPort 4 (some .int) ∈ xw := xw_in (List.mem_of_getElem? (i := 378) (by decide +kernel)) rfl
set_option maxRecDepth 20000 in
theorem mq_379 : Cond.methodLink RL 50 yX6_moveStation ∈ xw := xw_in (List.mem_of_getElem? (i := 379) (by decide +kernel)) rfl
set_option maxRecDepth 20000 in
theorem mq_380 : Cond.instanceMethod yX6_moveStation ∈ xw := xw_in (List.mem_of_getElem? (i := 380) (by decide +kernel)) rfl
set_option maxRecDepth 20000 in
theorem mq_381 : Cond.selects RX6 yX6_moveStation yX6_moveStation ∈ xw := xw_in (List.mem_of_getElem? (i := 381) (by decide +kernel)) rfl
set_option maxRecDepth 20000 in
theorem mq_382 : Cond.code yX6_moveStation cX6_moveStation 4 (some .int) ∈ xw := xw_in (List.mem_of_getElem? (i := 382) (by decide +kernel)) rfl
set_option maxRecDepth 20000 in
theorem mq_383 : Cond.methodLink RX6 110 yX3_hasStation ∈ xw := xw_in (List.mem_of_getElem? (i := 383) (by decide +kernel)) rfl
set_option maxRecDepth 20000 in
theorem mq_384 : Cond.instanceMethod yX3_hasStation ∈ xw := xw_in (List.mem_of_getElem? (i := 384) (by decide +kernel)) rfl
set_option maxRecDepth 20000 in
theorem mq_385 : Cond.selects RX3 yX3_hasStation yX3_hasStation ∈ xw := xw_in (List.mem_of_getElem? (i := 385) (by decide +kernel)) rfl
set_option maxRecDepth 20000 in
theorem mq_386 : Cond.code yX3_hasStation cX3_hasStation 2 (some .boolean) ∈ xw := xw_in (List.mem_of_getElem? (i := 386) (by decide +kernel)) rfl
set_option maxRecDepth 20000 in
theorem mq_387 : Cond.methodLink RL 54 yX6_tick ∈ xw := xw_in (List.mem_of_getElem? (i := 387) (by decide +kernel)) rfl
set_option maxRecDepth 20000 in
theorem mq_388 : Cond.instanceMethod yX6_tick ∈ xw := xw_in (List.mem_of_getElem? (i := 388) (by decide +kernel)) rfl
set_option maxRecDepth 20000 in
theorem mq_389 : Cond.selects RX6 yX6_tick yX6_tick ∈ xw := xw_in (List.mem_of_getElem? (i := 389) (by decide +kernel)) rfl
set_option maxRecDepth 20000 in
theorem mq_390 : Cond.code yX6_tick cX6_tick 3 (some .int) ∈ xw := xw_in (List.mem_of_getElem? (i := 390) (by decide +kernel)) rfl
set_option maxRecDepth 20000 in
theorem mq_391 : Cond.methodLink RX6 116 yX0_elect ∈ xw := xw_in (List.mem_of_getElem? (i := 391) (by decide +kernel)) rfl
set_option maxRecDepth 20000 in
theorem mq_392 : Cond.instanceMethod yX0_elect ∈ xw := xw_in (List.mem_of_getElem? (i := 392) (by decide +kernel)) rfl
set_option maxRecDepth 20000 in
theorem mq_393 : Cond.selects RX0 yX0_elect yX0_elect ∈ xw := xw_in (List.mem_of_getElem? (i := 393) (by decide +kernel)) rfl
set_option maxRecDepth 20000 in
theorem mq_394 : Cond.code yX0_elect cX0_elect 4 (some .boolean) ∈ xw := xw_in (List.mem_of_getElem? (i := 394) (by decide +kernel)) rfl
set_option maxRecDepth 20000 in
theorem mq_395 : Cond.methodLink RX0 35 yX0_findBestOffers ∈ xw := xw_in (List.mem_of_getElem? (i := 395) (by decide +kernel)) rfl
set_option maxRecDepth 20000 in
theorem mq_397 : Cond.instanceMethod yX0_findBestOffers ∈ xw := xw_in (List.mem_of_getElem? (i := 397) (by decide +kernel)) rfl
set_option maxRecDepth 20000 in
theorem mq_398 : Cond.code yX0_findBestOffers cX0_findBestOffers 2 none ∈ xw := xw_in (List.mem_of_getElem? (i := 398) (by decide +kernel)) rfl
set_option maxRecDepth 20000 in
theorem mq_399 : Cond.methodLink RX0 55 yX0_hasOffer ∈ xw := xw_in (List.mem_of_getElem? (i := 399) (by decide +kernel)) rfl
set_option maxRecDepth 20000 in
theorem mq_401 : Cond.instanceMethod yX0_hasOffer ∈ xw := xw_in (List.mem_of_getElem? (i := 401) (by decide +kernel)) rfl
set_option maxRecDepth 20000 in
theorem mq_402 : Cond.code yX0_hasOffer cX0_hasOffer 2 (some .boolean) ∈ xw := xw_in (List.mem_of_getElem? (i := 402) (by decide +kernel)) rfl
set_option maxRecDepth 20000 in
theorem mq_403 : Cond.methodLink RX0 62 yX3_isActive ∈ xw := xw_in (List.mem_of_getElem? (i := 403) (by decide +kernel)) rfl
set_option maxRecDepth 20000 in
theorem mq_404 : Cond.methodLink RX0 65 yX3_storesMessage ∈ xw := xw_in (List.mem_of_getElem? (i := 404) (by decide +kernel)) rfl
set_option maxRecDepth 20000 in
theorem mq_405 : Cond.instanceMethod yX3_storesMessage ∈ xw := xw_in (List.mem_of_getElem? (i := 405) (by decide +kernel)) rfl
set_option maxRecDepth 20000 in
theorem mq_406 : Cond.selects RX3 yX3_storesMessage yX3_storesMessage ∈ xw := xw_in (List.mem_of_getElem? (i := 406) (by decide +kernel)) rfl
set_option maxRecDepth 20000 in
theorem mq_407 : Cond.code yX3_storesMessage cX3_storesMessage 2 (some .boolean) ∈ xw := xw_in (List.mem_of_getElem? (i := 407) (by decide +kernel)) rfl
set_option maxRecDepth 20000 in
theorem mq_408 : Cond.methodLink RX0 68 yX0_isFromOwnBridge ∈ xw := xw_in (List.mem_of_getElem? (i := 408) (by decide +kernel)) rfl
set_option maxRecDepth 20000 in
theorem mq_410 : Cond.instanceMethod yX0_isFromOwnBridge ∈ xw := xw_in (List.mem_of_getElem? (i := 410) (by decide +kernel)) rfl
set_option maxRecDepth 20000 in
theorem mq_411 : Cond.code yX0_isFromOwnBridge cX0_isFromOwnBridge 2 (some .boolean) ∈ xw := xw_in (List.mem_of_getElem? (i := 411) (by decide +kernel)) rfl
set_option maxRecDepth 20000 in
theorem mq_412 : Cond.methodLink RX0 74 yX2_senderOf ∈ xw := xw_in (List.mem_of_getElem? (i := 412) (by decide +kernel)) rfl
set_option maxRecDepth 20000 in
theorem mq_413 : Cond.static yX2_senderOf ∈ xw := xw_in (List.mem_of_getElem? (i := 413) (by decide +kernel)) rfl
set_option maxRecDepth 20000 in
theorem mq_414 : Cond.code yX2_senderOf cX2_senderOf 2 (some .int) ∈ xw := xw_in (List.mem_of_getElem? (i := 414) (by decide +kernel)) rfl
set_option maxRecDepth 20000 in
theorem mq_415 : Cond.constantLong RX2 11 (255) ∈ xw := xw_in (List.mem_of_getElem? (i := 415) (by decide +kernel)) rfl
set_option maxRecDepth 20000 in
theorem mq_416 : Cond.methodLink RX0 83 yX3_identifierOf ∈ xw := xw_in (List.mem_of_getElem? (i := 416) (by decide +kernel)) rfl
set_option maxRecDepth 20000 in
theorem mq_417 : Cond.instanceMethod yX3_identifierOf ∈ xw := xw_in (List.mem_of_getElem? (i := 417) (by decide +kernel)) rfl
set_option maxRecDepth 20000 in
theorem mq_418 : Cond.selects RX3 yX3_identifierOf yX3_identifierOf ∈ xw := xw_in (List.mem_of_getElem? (i := 418) (by decide +kernel)) rfl
set_option maxRecDepth 20000 in
theorem mq_419 : Cond.code yX3_identifierOf cX3_identifierOf 2 (some .int) ∈ xw := xw_in (List.mem_of_getElem? (i := 419) (by decide +kernel)) rfl
set_option maxRecDepth 20000 in
theorem mq_420 : Cond.methodLink RX0 59 yX0_considerOffer ∈ xw := xw_in (List.mem_of_getElem? (i := 420) (by decide +kernel)) rfl
set_option maxRecDepth 20000 in
theorem mq_422 : Cond.instanceMethod yX0_considerOffer ∈ xw := xw_in (List.mem_of_getElem? (i := 422) (by decide +kernel)) rfl
set_option maxRecDepth 20000 in
theorem mq_423 : Cond.code yX0_considerOffer cX0_considerOffer 5 none ∈ xw := xw_in (List.mem_of_getElem? (i := 423) (by decide +kernel)) rfl
set_option maxRecDepth 20000 in
theorem mq_424 : Cond.methodLink RX0 89 yX2_withCostAdded ∈ xw := xw_in (List.mem_of_getElem? (i := 424) (by decide +kernel)) rfl
set_option maxRecDepth 20000 in
theorem mq_425 : Cond.static yX2_withCostAdded ∈ xw := xw_in (List.mem_of_getElem? (i := 425) (by decide +kernel)) rfl
set_option maxRecDepth 20000 in
theorem mq_426 : Cond.code yX2_withCostAdded cX2_withCostAdded 3 (some .long) ∈ xw := xw_in (List.mem_of_getElem? (i := 426) (by decide +kernel)) rfl
set_option maxRecDepth 20000 in
theorem mq_427 : Cond.methodLink RX0 44 yX0_chooseRoot ∈ xw := xw_in (List.mem_of_getElem? (i := 427) (by decide +kernel)) rfl
set_option maxRecDepth 20000 in
theorem mq_429 : Cond.instanceMethod yX0_chooseRoot ∈ xw := xw_in (List.mem_of_getElem? (i := 429) (by decide +kernel)) rfl
set_option maxRecDepth 20000 in
theorem mq_430 : Cond.code yX0_chooseRoot cX0_chooseRoot 4 none ∈ xw := xw_in (List.mem_of_getElem? (i := 430) (by decide +kernel)) rfl
set_option maxRecDepth 20000 in
theorem mq_431 : Cond.methodLink RX0 93 yX2_rootOf ∈ xw := xw_in (List.mem_of_getElem? (i := 431) (by decide +kernel)) rfl
set_option maxRecDepth 20000 in
theorem mq_432 : Cond.static yX2_rootOf ∈ xw := xw_in (List.mem_of_getElem? (i := 432) (by decide +kernel)) rfl
set_option maxRecDepth 20000 in
theorem mq_433 : Cond.code yX2_rootOf cX2_rootOf 2 (some .int) ∈ xw := xw_in (List.mem_of_getElem? (i := 433) (by decide +kernel)) rfl
set_option maxRecDepth 20000 in
theorem mq_434 : Cond.methodLink RX0 96 yX2_costOf ∈ xw := xw_in (List.mem_of_getElem? (i := 434) (by decide +kernel)) rfl
set_option maxRecDepth 20000 in
theorem mq_435 : Cond.static yX2_costOf ∈ xw := xw_in (List.mem_of_getElem? (i := 435) (by decide +kernel)) rfl
set_option maxRecDepth 20000 in
theorem mq_436 : Cond.code yX2_costOf cX2_costOf 2 (some .int) ∈ xw := xw_in (List.mem_of_getElem? (i := 436) (by decide +kernel)) rfl
set_option maxRecDepth 20000 in
theorem mq_437 : Cond.constantLong RX2 9 (16777215) ∈ xw := xw_in (List.mem_of_getElem? (i := 437) (by decide +kernel)) rfl
set_option maxRecDepth 20000 in
theorem mq_438 : Cond.methodLink RX0 51 yX0_roleFor ∈ xw := xw_in (List.mem_of_getElem? (i := 438) (by decide +kernel)) rfl
set_option maxRecDepth 20000 in
theorem mq_440 : Cond.instanceMethod yX0_roleFor ∈ xw := xw_in (List.mem_of_getElem? (i := 440) (by decide +kernel)) rfl
set_option maxRecDepth 20000 in
theorem mq_441 : Cond.code yX0_roleFor cX0_roleFor 2 (some .int) ∈ xw := xw_in (List.mem_of_getElem? (i := 441) (by decide +kernel)) rfl
set_option maxRecDepth 20000 in
theorem mq_442 : Cond.methodLink RX0 99 yX0_ownMessage ∈ xw := xw_in (List.mem_of_getElem? (i := 442) (by decide +kernel)) rfl
set_option maxRecDepth 20000 in
theorem mq_443 : Cond.instanceMethod yX0_ownMessage ∈ xw := xw_in (List.mem_of_getElem? (i := 443) (by decide +kernel)) rfl
set_option maxRecDepth 20000 in
theorem mq_444 : Cond.selects RX0 yX0_ownMessage yX0_ownMessage ∈ xw := xw_in (List.mem_of_getElem? (i := 444) (by decide +kernel)) rfl
set_option maxRecDepth 20000 in
theorem mq_445 : Cond.code yX0_ownMessage cX0_ownMessage 3 (some .long) ∈ xw := xw_in (List.mem_of_getElem? (i := 445) (by decide +kernel)) rfl
set_option maxRecDepth 20000 in
theorem mq_446 : Cond.methodLink RX0 103 yX2_of ∈ xw := xw_in (List.mem_of_getElem? (i := 446) (by decide +kernel)) rfl
set_option maxRecDepth 20000 in
theorem mq_447 : Cond.static yX2_of ∈ xw := xw_in (List.mem_of_getElem? (i := 447) (by decide +kernel)) rfl
set_option maxRecDepth 20000 in
theorem mq_448 : Cond.code yX2_of cX2_of 4 (some .long) ∈ xw := xw_in (List.mem_of_getElem? (i := 448) (by decide +kernel)) rfl
set_option maxRecDepth 20000 in
theorem mq_449 : Cond.methodLink RX6 120 yX4_makeTick ∈ xw := xw_in (List.mem_of_getElem? (i := 449) (by decide +kernel)) rfl
set_option maxRecDepth 20000 in
theorem mq_450 : Cond.instanceMethod yX4_makeTick ∈ xw := xw_in (List.mem_of_getElem? (i := 450) (by decide +kernel)) rfl
set_option maxRecDepth 20000 in
theorem mq_451 : Cond.selects RX4 yX4_makeTick yX4_makeTick ∈ xw := xw_in (List.mem_of_getElem? (i := 451) (by decide +kernel)) rfl
set_option maxRecDepth 20000 in
theorem mq_452 : Cond.code yX4_makeTick cX4_makeTick 3 (some .boolean) ∈ xw := xw_in (List.mem_of_getElem? (i := 452) (by decide +kernel)) rfl
set_option maxRecDepth 20000 in
theorem mq_453 : Cond.methodLink RX4 33 yX4_sendMessages ∈ xw := xw_in (List.mem_of_getElem? (i := 453) (by decide +kernel)) rfl
set_option maxRecDepth 20000 in
theorem mq_455 : Cond.instanceMethod yX4_sendMessages ∈ xw := xw_in (List.mem_of_getElem? (i := 455) (by decide +kernel)) rfl
set_option maxRecDepth 20000 in
theorem mq_456 : Cond.code yX4_sendMessages cX4_sendMessages 3 none ∈ xw := xw_in (List.mem_of_getElem? (i := 456) (by decide +kernel)) rfl
set_option maxRecDepth 20000 in
theorem mq_457 : Cond.methodLink RX4 68 yX4_ageToSend ∈ xw := xw_in (List.mem_of_getElem? (i := 457) (by decide +kernel)) rfl
set_option maxRecDepth 20000 in
theorem mq_459 : Cond.instanceMethod yX4_ageToSend ∈ xw := xw_in (List.mem_of_getElem? (i := 459) (by decide +kernel)) rfl
set_option maxRecDepth 20000 in
theorem mq_460 : Cond.code yX4_ageToSend cX4_ageToSend 3 (some .int) ∈ xw := xw_in (List.mem_of_getElem? (i := 460) (by decide +kernel)) rfl
set_option maxRecDepth 20000 in
theorem mq_461 : Cond.methodLink RX4 75 yX0_ownMessage ∈ xw := xw_in (List.mem_of_getElem? (i := 461) (by decide +kernel)) rfl
set_option maxRecDepth 20000 in
theorem mq_462 : Cond.methodLink RX4 79 yX4_rankSender ∈ xw := xw_in (List.mem_of_getElem? (i := 462) (by decide +kernel)) rfl
set_option maxRecDepth 20000 in
theorem mq_464 : Cond.instanceMethod yX4_rankSender ∈ xw := xw_in (List.mem_of_getElem? (i := 464) (by decide +kernel)) rfl
set_option maxRecDepth 20000 in
theorem mq_465 : Cond.code yX4_rankSender cX4_rankSender 3 none ∈ xw := xw_in (List.mem_of_getElem? (i := 465) (by decide +kernel)) rfl
set_option maxRecDepth 20000 in
theorem mq_466 : Cond.methodLink RX4 94 yX4_isBetterSender ∈ xw := xw_in (List.mem_of_getElem? (i := 466) (by decide +kernel)) rfl
set_option maxRecDepth 20000 in
theorem mq_468 : Cond.instanceMethod yX4_isBetterSender ∈ xw := xw_in (List.mem_of_getElem? (i := 468) (by decide +kernel)) rfl
set_option maxRecDepth 20000 in
theorem mq_469 : Cond.code yX4_isBetterSender cX4_isBetterSender 3 (some .boolean) ∈ xw := xw_in (List.mem_of_getElem? (i := 469) (by decide +kernel)) rfl
set_option maxRecDepth 20000 in
theorem mq_470 : Cond.methodLink RX4 42 yX4_takesMessage ∈ xw := xw_in (List.mem_of_getElem? (i := 470) (by decide +kernel)) rfl
set_option maxRecDepth 20000 in
theorem mq_472 : Cond.instanceMethod yX4_takesMessage ∈ xw := xw_in (List.mem_of_getElem? (i := 472) (by decide +kernel)) rfl
set_option maxRecDepth 20000 in
theorem mq_473 : Cond.code yX4_takesMessage cX4_takesMessage 4 (some .boolean) ∈ xw := xw_in (List.mem_of_getElem? (i := 473) (by decide +kernel)) rfl
set_option maxRecDepth 20000 in
theorem mq_474 : Cond.methodLink RX4 98 yX3_isActive ∈ xw := xw_in (List.mem_of_getElem? (i := 474) (by decide +kernel)) rfl
set_option maxRecDepth 20000 in
theorem mq_475 : Cond.methodLink RX4 101 yX4_accepts ∈ xw := xw_in (List.mem_of_getElem? (i := 475) (by decide +kernel)) rfl
set_option maxRecDepth 20000 in
theorem mq_477 : Cond.instanceMethod yX4_accepts ∈ xw := xw_in (List.mem_of_getElem? (i := 477) (by decide +kernel)) rfl
set_option maxRecDepth 20000 in
theorem mq_478 : Cond.code yX4_accepts cX4_accepts 6 (some .boolean) ∈ xw := xw_in (List.mem_of_getElem? (i := 478) (by decide +kernel)) rfl
set_option maxRecDepth 20000 in
theorem mq_479 : Cond.methodLink RX4 108 yX3_storesMessage ∈ xw := xw_in (List.mem_of_getElem? (i := 479) (by decide +kernel)) rfl
set_option maxRecDepth 20000 in
theorem mq_480 : Cond.methodLink RX4 111 yX2_haveSameSource ∈ xw := xw_in (List.mem_of_getElem? (i := 480) (by decide +kernel)) rfl
set_option maxRecDepth 20000 in
theorem mq_481 : Cond.static yX2_haveSameSource ∈ xw := xw_in (List.mem_of_getElem? (i := 481) (by decide +kernel)) rfl
set_option maxRecDepth 20000 in
theorem mq_482 : Cond.code yX2_haveSameSource cX2_haveSameSource 4 (some .boolean) ∈ xw := xw_in (List.mem_of_getElem? (i := 482) (by decide +kernel)) rfl
set_option maxRecDepth 20000 in
theorem mq_483 : Cond.constantLong RX2 13 (65535) ∈ xw := xw_in (List.mem_of_getElem? (i := 483) (by decide +kernel)) rfl
set_option maxRecDepth 20000 in
theorem mq_484 : Cond.methodLink RX4 46 yX3_ageMessage ∈ xw := xw_in (List.mem_of_getElem? (i := 484) (by decide +kernel)) rfl
set_option maxRecDepth 20000 in
theorem mq_485 : Cond.instanceMethod yX3_ageMessage ∈ xw := xw_in (List.mem_of_getElem? (i := 485) (by decide +kernel)) rfl
set_option maxRecDepth 20000 in
theorem mq_486 : Cond.selects RX3 yX3_ageMessage yX3_ageMessage ∈ xw := xw_in (List.mem_of_getElem? (i := 486) (by decide +kernel)) rfl
set_option maxRecDepth 20000 in
theorem mq_487 : Cond.code yX3_ageMessage cX3_ageMessage 2 none ∈ xw := xw_in (List.mem_of_getElem? (i := 487) (by decide +kernel)) rfl
set_option maxRecDepth 20000 in
theorem mq_488 : Cond.methodLink RX4 50 yX0_elect ∈ xw := xw_in (List.mem_of_getElem? (i := 488) (by decide +kernel)) rfl
set_option maxRecDepth 20000 in
theorem mq_489 : Cond.methodLink RX4 56 yX4_moveStates ∈ xw := xw_in (List.mem_of_getElem? (i := 489) (by decide +kernel)) rfl
set_option maxRecDepth 20000 in
theorem mq_491 : Cond.instanceMethod yX4_moveStates ∈ xw := xw_in (List.mem_of_getElem? (i := 491) (by decide +kernel)) rfl
set_option maxRecDepth 20000 in
theorem mq_492 : Cond.code yX4_moveStates cX4_moveStates 4 (some .boolean) ∈ xw := xw_in (List.mem_of_getElem? (i := 492) (by decide +kernel)) rfl
set_option maxRecDepth 20000 in
theorem mq_493 : Cond.methodLink RX4 120 yX4_moveState ∈ xw := xw_in (List.mem_of_getElem? (i := 493) (by decide +kernel)) rfl
set_option maxRecDepth 20000 in
theorem mq_495 : Cond.instanceMethod yX4_moveState ∈ xw := xw_in (List.mem_of_getElem? (i := 495) (by decide +kernel)) rfl
set_option maxRecDepth 20000 in
theorem mq_496 : Cond.code yX4_moveState cX4_moveState 3 none ∈ xw := xw_in (List.mem_of_getElem? (i := 496) (by decide +kernel)) rfl
set_option maxRecDepth 20000 in
theorem mq_497 : Cond.methodLink RX4 124 yX4_enterState ∈ xw := xw_in (List.mem_of_getElem? (i := 497) (by decide +kernel)) rfl
set_option maxRecDepth 20000 in
theorem mq_499 : Cond.instanceMethod yX4_enterState ∈ xw := xw_in (List.mem_of_getElem? (i := 499) (by decide +kernel)) rfl
set_option maxRecDepth 20000 in
theorem mq_500 : Cond.code yX4_enterState cX4_enterState 4 none ∈ xw := xw_in (List.mem_of_getElem? (i := 500) (by decide +kernel)) rfl
set_option maxRecDepth 20000 in
theorem mq_501 : Cond.methodLink RX4 128 yX4_moveTowardsForwarding ∈ xw := xw_in (List.mem_of_getElem? (i := 501) (by decide +kernel)) rfl
set_option maxRecDepth 20000 in
theorem mq_503 : Cond.instanceMethod yX4_moveTowardsForwarding ∈ xw := xw_in (List.mem_of_getElem? (i := 503) (by decide +kernel)) rfl
set_option maxRecDepth 20000 in
theorem mq_504 : Cond.code yX4_moveTowardsForwarding cX4_moveTowardsForwarding 3 none ∈ xw := xw_in (List.mem_of_getElem? (i := 504) (by decide +kernel)) rfl
set_option maxRecDepth 20000 in
theorem mq_505 : Cond.methodLink RX4 59 yX3_ageEntries ∈ xw := xw_in (List.mem_of_getElem? (i := 505) (by decide +kernel)) rfl
set_option maxRecDepth 20000 in
theorem mq_506 : Cond.instanceMethod yX3_ageEntries ∈ xw := xw_in (List.mem_of_getElem? (i := 506) (by decide +kernel)) rfl
set_option maxRecDepth 20000 in
theorem mq_507 : Cond.selects RX3 yX3_ageEntries yX3_ageEntries ∈ xw := xw_in (List.mem_of_getElem? (i := 507) (by decide +kernel)) rfl
set_option maxRecDepth 20000 in
theorem mq_508 : Cond.code yX3_ageEntries cX3_ageEntries 2 none ∈ xw := xw_in (List.mem_of_getElem? (i := 508) (by decide +kernel)) rfl
set_option maxRecDepth 20000 in
theorem mq_509 : Cond.methodLink RL 58 yX6_settle ∈ xw := xw_in (List.mem_of_getElem? (i := 509) (by decide +kernel)) rfl
set_option maxRecDepth 20000 in
theorem mq_510 : Cond.instanceMethod yX6_settle ∈ xw := xw_in (List.mem_of_getElem? (i := 510) (by decide +kernel)) rfl
set_option maxRecDepth 20000 in
theorem mq_511 : Cond.selects RX6 yX6_settle yX6_settle ∈ xw := xw_in (List.mem_of_getElem? (i := 511) (by decide +kernel)) rfl
set_option maxRecDepth 20000 in
theorem mq_512 : Cond.code yX6_settle cX6_settle 5 (some .int) ∈ xw := xw_in (List.mem_of_getElem? (i := 512) (by decide +kernel)) rfl
set_option maxRecDepth 20000 in
theorem mq_513 : Cond.methodLink RL 62 yX6_identifier ∈ xw := xw_in (List.mem_of_getElem? (i := 513) (by decide +kernel)) rfl
set_option maxRecDepth 20000 in
theorem mq_514 : Cond.instanceMethod yX6_identifier ∈ xw := xw_in (List.mem_of_getElem? (i := 514) (by decide +kernel)) rfl
set_option maxRecDepth 20000 in
theorem mq_515 : Cond.selects RX6 yX6_identifier yX6_identifier ∈ xw := xw_in (List.mem_of_getElem? (i := 515) (by decide +kernel)) rfl
set_option maxRecDepth 20000 in
theorem mq_516 : Cond.code yX6_identifier cX6_identifier 2 (some .int) ∈ xw := xw_in (List.mem_of_getElem? (i := 516) (by decide +kernel)) rfl
set_option maxRecDepth 20000 in
theorem mq_517 : Cond.methodLink RX6 126 yX3_identifierOf ∈ xw := xw_in (List.mem_of_getElem? (i := 517) (by decide +kernel)) rfl
set_option maxRecDepth 20000 in
theorem mq_518 : Cond.methodLink RL 66 yX6_root ∈ xw := xw_in (List.mem_of_getElem? (i := 518) (by decide +kernel)) rfl
set_option maxRecDepth 20000 in
theorem mq_519 : Cond.instanceMethod yX6_root ∈ xw := xw_in (List.mem_of_getElem? (i := 519) (by decide +kernel)) rfl
set_option maxRecDepth 20000 in
theorem mq_520 : Cond.selects RX6 yX6_root yX6_root ∈ xw := xw_in (List.mem_of_getElem? (i := 520) (by decide +kernel)) rfl
set_option maxRecDepth 20000 in
theorem mq_521 : Cond.code yX6_root cX6_root 2 (some .int) ∈ xw := xw_in (List.mem_of_getElem? (i := 521) (by decide +kernel)) rfl
set_option maxRecDepth 20000 in
theorem mq_522 : Cond.methodLink RX6 129 yX3_isBridgeUp ∈ xw := xw_in (List.mem_of_getElem? (i := 522) (by decide +kernel)) rfl
set_option maxRecDepth 20000 in
theorem mq_523 : Cond.methodLink RL 70 yX6_rootCost ∈ xw := xw_in (List.mem_of_getElem? (i := 523) (by decide +kernel)) rfl
set_option maxRecDepth 20000 in
theorem mq_524 : Cond.instanceMethod yX6_rootCost ∈ xw := xw_in (List.mem_of_getElem? (i := 524) (by decide +kernel)) rfl
set_option maxRecDepth 20000 in
theorem mq_525 : Cond.selects RX6 yX6_rootCost yX6_rootCost ∈ xw := xw_in (List.mem_of_getElem? (i := 525) (by decide +kernel)) rfl
set_option maxRecDepth 20000 in
theorem mq_526 : Cond.code yX6_rootCost cX6_rootCost 2 (some .int) ∈ xw := xw_in (List.mem_of_getElem? (i := 526) (by decide +kernel)) rfl
set_option maxRecDepth 20000 in
theorem mq_527 : Cond.methodLink RL 74 yX6_rootPort ∈ xw := xw_in (List.mem_of_getElem? (i := 527) (by decide +kernel)) rfl
set_option maxRecDepth 20000 in
theorem mq_528 : Cond.instanceMethod yX6_rootPort ∈ xw := xw_in (List.mem_of_getElem? (i := 528) (by decide +kernel)) rfl
set_option maxRecDepth 20000 in
theorem mq_529 : Cond.selects RX6 yX6_rootPort yX6_rootPort ∈ xw := xw_in (List.mem_of_getElem? (i := 529) (by decide +kernel)) rfl
set_option maxRecDepth 20000 in
theorem mq_530 : Cond.code yX6_rootPort cX6_rootPort 3 (some .int) ∈ xw := xw_in (List.mem_of_getElem? (i := 530) (by decide +kernel)) rfl
set_option maxRecDepth 20000 in
theorem mq_531 : Cond.methodLink RL 78 yX6_role ∈ xw := xw_in (List.mem_of_getElem? (i := 531) (by decide +kernel)) rfl
set_option maxRecDepth 20000 in
theorem mq_532 : Cond.instanceMethod yX6_role ∈ xw := xw_in (List.mem_of_getElem? (i := 532) (by decide +kernel)) rfl
set_option maxRecDepth 20000 in
theorem mq_533 : Cond.selects RX6 yX6_role yX6_role ∈ xw := xw_in (List.mem_of_getElem? (i := 533) (by decide +kernel)) rfl
set_option maxRecDepth 20000 in
theorem mq_534 : Cond.code yX6_role cX6_role 2 (some .int) ∈ xw := xw_in (List.mem_of_getElem? (i := 534) (by decide +kernel)) rfl
set_option maxRecDepth 20000 in
theorem mq_535 : Cond.methodLink RL 82 yX6_state ∈ xw := xw_in (List.mem_of_getElem? (i := 535) (by decide +kernel)) rfl
set_option maxRecDepth 20000 in
theorem mq_536 : Cond.instanceMethod yX6_state ∈ xw := xw_in (List.mem_of_getElem? (i := 536) (by decide +kernel)) rfl
set_option maxRecDepth 20000 in
theorem mq_537 : Cond.selects RX6 yX6_state yX6_state ∈ xw := xw_in (List.mem_of_getElem? (i := 537) (by decide +kernel)) rfl
set_option maxRecDepth 20000 in
theorem mq_538 : Cond.code yX6_state cX6_state 2 (some .int) ∈ xw := xw_in (List.mem_of_getElem? (i := 538) (by decide +kernel)) rfl
set_option maxRecDepth 20000 in
theorem mq_539 : Cond.methodLink RL 86 yX6_stored ∈ xw := xw_in (List.mem_of_getElem? (i := 539) (by decide +kernel)) rfl
set_option maxRecDepth 20000 in
theorem mq_540 : Cond.instanceMethod yX6_stored ∈ xw := xw_in (List.mem_of_getElem? (i := 540) (by decide +kernel)) rfl
set_option maxRecDepth 20000 in
theorem mq_541 : Cond.selects RX6 yX6_stored yX6_stored ∈ xw := xw_in (List.mem_of_getElem? (i := 541) (by decide +kernel)) rfl
set_option maxRecDepth 20000 in
theorem mq_542 : Cond.code yX6_stored cX6_stored 5 (some .int) ∈ xw := xw_in (List.mem_of_getElem? (i := 542) (by decide +kernel)) rfl
set_option maxRecDepth 20000 in
theorem mq_543 : Cond.methodLink RX6 147 yX3_storesMessage ∈ xw := xw_in (List.mem_of_getElem? (i := 543) (by decide +kernel)) rfl
set_option maxRecDepth 20000 in
theorem mq_544 : Cond.methodLink RX6 154 yX2_rootOf ∈ xw := xw_in (List.mem_of_getElem? (i := 544) (by decide +kernel)) rfl
set_option maxRecDepth 20000 in
theorem mq_545 : Cond.methodLink RX6 160 yX2_costOf ∈ xw := xw_in (List.mem_of_getElem? (i := 545) (by decide +kernel)) rfl
set_option maxRecDepth 20000 in
theorem mq_546 : Cond.methodLink RX6 163 yX2_senderOf ∈ xw := xw_in (List.mem_of_getElem? (i := 546) (by decide +kernel)) rfl
set_option maxRecDepth 20000 in
theorem mq_547 : Cond.methodLink RX6 166 yX2_senderPortOf ∈ xw := xw_in (List.mem_of_getElem? (i := 547) (by decide +kernel)) rfl
set_option maxRecDepth 20000 in
theorem mq_548 : Cond.static yX2_senderPortOf ∈ xw := xw_in (List.mem_of_getElem? (i := 548) (by decide +kernel)) rfl
set_option maxRecDepth 20000 in
theorem mq_549 : Cond.code yX2_senderPortOf cX2_senderPortOf 2 (some .int) ∈ xw := xw_in (List.mem_of_getElem? (i := 549) (by decide +kernel)) rfl
set_option maxRecDepth 20000 in
theorem mq_550 : Cond.methodLink RL 90 yX6_portsIn ∈ xw := xw_in (List.mem_of_getElem? (i := 550) (by decide +kernel)) rfl
set_option maxRecDepth 20000 in
theorem mq_551 : Cond.instanceMethod yX6_portsIn ∈ xw := xw_in (List.mem_of_getElem? (i := 551) (by decide +kernel)) rfl
set_option maxRecDepth 20000 in
theorem mq_552 : Cond.selects RX6 yX6_portsIn yX6_portsIn ∈ xw := xw_in (List.mem_of_getElem? (i := 552) (by decide +kernel)) rfl
set_option maxRecDepth 20000 in
theorem mq_553 : Cond.code yX6_portsIn cX6_portsIn 4 (some .int) ∈ xw := xw_in (List.mem_of_getElem? (i := 553) (by decide +kernel)) rfl
set_option maxRecDepth 20000 in
theorem mq_554 : Cond.methodLink RL 94 yX6_parts ∈ xw := xw_in (List.mem_of_getElem? (i := 554) (by decide +kernel)) rfl
set_option maxRecDepth 20000 in
theorem mq_555 : Cond.instanceMethod yX6_parts ∈ xw := xw_in (List.mem_of_getElem? (i := 555) (by decide +kernel)) rfl
set_option maxRecDepth 20000 in
theorem mq_556 : Cond.selects RX6 yX6_parts yX6_parts ∈ xw := xw_in (List.mem_of_getElem? (i := 556) (by decide +kernel)) rfl
set_option maxRecDepth 20000 in
theorem mq_557 : Cond.code yX6_parts cX6_parts 1 (some .int) ∈ xw := xw_in (List.mem_of_getElem? (i := 557) (by decide +kernel)) rfl
set_option maxRecDepth 20000 in
theorem mq_558 : Cond.methodLink RX6 172 yX5_countParts ∈ xw := xw_in (List.mem_of_getElem? (i := 558) (by decide +kernel)) rfl
set_option maxRecDepth 20000 in
theorem mq_559 : Cond.instanceMethod yX5_countParts ∈ xw := xw_in (List.mem_of_getElem? (i := 559) (by decide +kernel)) rfl
set_option maxRecDepth 20000 in
theorem mq_560 : Cond.selects RX5 yX5_countParts yX5_countParts ∈ xw := xw_in (List.mem_of_getElem? (i := 560) (by decide +kernel)) rfl
set_option maxRecDepth 20000 in
theorem mq_561 : Cond.code yX5_countParts cX5_countParts 3 (some .int) ∈ xw := xw_in (List.mem_of_getElem? (i := 561) (by decide +kernel)) rfl
set_option maxRecDepth 20000 in
theorem mq_562 : Cond.methodLink RX5 19 yX5_countVertices ∈ xw := xw_in (List.mem_of_getElem? (i := 562) (by decide +kernel)) rfl
set_option maxRecDepth 20000 in
theorem mq_564 : Cond.instanceMethod yX5_countVertices ∈ xw := xw_in (List.mem_of_getElem? (i := 564) (by decide +kernel)) rfl
set_option maxRecDepth 20000 in
theorem mq_565 : Cond.code yX5_countVertices cX5_countVertices 3 (some .int) ∈ xw := xw_in (List.mem_of_getElem? (i := 565) (by decide +kernel)) rfl
set_option maxRecDepth 20000 in
theorem mq_566 : Cond.methodLink RX5 45 yX3_isBridgeUp ∈ xw := xw_in (List.mem_of_getElem? (i := 566) (by decide +kernel)) rfl
set_option maxRecDepth 20000 in
theorem mq_567 : Cond.methodLink RX5 29 yX3_isForwarding ∈ xw := xw_in (List.mem_of_getElem? (i := 567) (by decide +kernel)) rfl
set_option maxRecDepth 20000 in
theorem mq_568 : Cond.instanceMethod yX3_isForwarding ∈ xw := xw_in (List.mem_of_getElem? (i := 568) (by decide +kernel)) rfl
set_option maxRecDepth 20000 in
theorem mq_569 : Cond.selects RX3 yX3_isForwarding yX3_isForwarding ∈ xw := xw_in (List.mem_of_getElem? (i := 569) (by decide +kernel)) rfl
set_option maxRecDepth 20000 in
theorem mq_570 : Cond.code yX3_isForwarding cX3_isForwarding 2 (some .boolean) ∈ xw := xw_in (List.mem_of_getElem? (i := 570) (by decide +kernel)) rfl
set_option maxRecDepth 20000 in
theorem mq_571 : Cond.methodLink RX5 33 yX5_join ∈ xw := xw_in (List.mem_of_getElem? (i := 571) (by decide +kernel)) rfl
set_option maxRecDepth 20000 in
theorem mq_573 : Cond.instanceMethod yX5_join ∈ xw := xw_in (List.mem_of_getElem? (i := 573) (by decide +kernel)) rfl
set_option maxRecDepth 20000 in
theorem mq_574 : Cond.code yX5_join cX5_join 5 (some .boolean) ∈ xw := xw_in (List.mem_of_getElem? (i := 574) (by decide +kernel)) rfl
set_option maxRecDepth 20000 in
theorem mq_575 : Cond.methodLink RL 98 yX6_loops ∈ xw := xw_in (List.mem_of_getElem? (i := 575) (by decide +kernel)) rfl
set_option maxRecDepth 20000 in
theorem mq_576 : Cond.instanceMethod yX6_loops ∈ xw := xw_in (List.mem_of_getElem? (i := 576) (by decide +kernel)) rfl
set_option maxRecDepth 20000 in
theorem mq_577 : Cond.selects RX6 yX6_loops yX6_loops ∈ xw := xw_in (List.mem_of_getElem? (i := 577) (by decide +kernel)) rfl
set_option maxRecDepth 20000 in
theorem mq_578 : Cond.code yX6_loops cX6_loops 1 (some .int) ∈ xw := xw_in (List.mem_of_getElem? (i := 578) (by decide +kernel)) rfl
set_option maxRecDepth 20000 in
theorem mq_579 : Cond.methodLink RX6 175 yX5_countLoops ∈ xw := xw_in (List.mem_of_getElem? (i := 579) (by decide +kernel)) rfl
set_option maxRecDepth 20000 in
theorem mq_580 : Cond.instanceMethod yX5_countLoops ∈ xw := xw_in (List.mem_of_getElem? (i := 580) (by decide +kernel)) rfl
set_option maxRecDepth 20000 in
theorem mq_581 : Cond.selects RX5 yX5_countLoops yX5_countLoops ∈ xw := xw_in (List.mem_of_getElem? (i := 581) (by decide +kernel)) rfl
set_option maxRecDepth 20000 in
theorem mq_582 : Cond.code yX5_countLoops cX5_countLoops 3 (some .int) ∈ xw := xw_in (List.mem_of_getElem? (i := 582) (by decide +kernel)) rfl
set_option maxRecDepth 20000 in
theorem mq_583 : Cond.methodLink RX5 36 yX5_countParts ∈ xw := xw_in (List.mem_of_getElem? (i := 583) (by decide +kernel)) rfl
set_option maxRecDepth 20000 in
theorem mq_584 : Cond.methodLink RL 102 yX6_send ∈ xw := xw_in (List.mem_of_getElem? (i := 584) (by decide +kernel)) rfl
set_option maxRecDepth 20000 in
theorem mq_585 : Cond.instanceMethod yX6_send ∈ xw := xw_in (List.mem_of_getElem? (i := 585) (by decide +kernel)) rfl
set_option maxRecDepth 20000 in
theorem mq_586 : Cond.selects RX6 yX6_send yX6_send ∈ xw := xw_in (List.mem_of_getElem? (i := 586) (by decide +kernel)) rfl
set_option maxRecDepth 20000 in
theorem mq_587 : Cond.code yX6_send cX6_send 3 (some .int) ∈ xw := xw_in (List.mem_of_getElem? (i := 587) (by decide +kernel)) rfl
set_option maxRecDepth 20000 in
theorem mq_588 : Cond.methodLink RX6 178 yX1_deliver ∈ xw := xw_in (List.mem_of_getElem? (i := 588) (by decide +kernel)) rfl
set_option maxRecDepth 20000 in
theorem mq_589 : Cond.instanceMethod yX1_deliver ∈ xw := xw_in (List.mem_of_getElem? (i := 589) (by decide +kernel)) rfl
set_option maxRecDepth 20000 in
theorem mq_590 : Cond.selects RX1 yX1_deliver yX1_deliver ∈ xw := xw_in (List.mem_of_getElem? (i := 590) (by decide +kernel)) rfl
set_option maxRecDepth 20000 in
theorem mq_591 : Cond.code yX1_deliver cX1_deliver 4 (some .int) ∈ xw := xw_in (List.mem_of_getElem? (i := 591) (by decide +kernel)) rfl
set_option maxRecDepth 20000 in
theorem mq_592 : Cond.methodLink RX1 34 yX1_transmit ∈ xw := xw_in (List.mem_of_getElem? (i := 592) (by decide +kernel)) rfl
set_option maxRecDepth 20000 in
theorem mq_594 : Cond.instanceMethod yX1_transmit ∈ xw := xw_in (List.mem_of_getElem? (i := 594) (by decide +kernel)) rfl
set_option maxRecDepth 20000 in
theorem mq_595 : Cond.code yX1_transmit cX1_transmit 3 none ∈ xw := xw_in (List.mem_of_getElem? (i := 595) (by decide +kernel)) rfl
set_option maxRecDepth 20000 in
theorem mq_596 : Cond.methodLink RX1 38 yX1_visitPorts ∈ xw := xw_in (List.mem_of_getElem? (i := 596) (by decide +kernel)) rfl
set_option maxRecDepth 20000 in
theorem mq_598 : Cond.instanceMethod yX1_visitPorts ∈ xw := xw_in (List.mem_of_getElem? (i := 598) (by decide +kernel)) rfl
set_option maxRecDepth 20000 in
theorem mq_599 : Cond.code yX1_visitPorts cX1_visitPorts 6 none ∈ xw := xw_in (List.mem_of_getElem? (i := 599) (by decide +kernel)) rfl
set_option maxRecDepth 20000 in
theorem mq_600 : Cond.methodLink RX1 48 yX3_isActive ∈ xw := xw_in (List.mem_of_getElem? (i := 600) (by decide +kernel)) rfl
set_option maxRecDepth 20000 in
theorem mq_601 : Cond.methodLink RX1 52 yX1_visitPort ∈ xw := xw_in (List.mem_of_getElem? (i := 601) (by decide +kernel)) rfl
set_option maxRecDepth 20000 in
theorem mq_603 : Cond.instanceMethod yX1_visitPort ∈ xw := xw_in (List.mem_of_getElem? (i := 603) (by decide +kernel)) rfl
set_option maxRecDepth 20000 in
theorem mq_604 : Cond.code yX1_visitPort cX1_visitPort 5 none ∈ xw := xw_in (List.mem_of_getElem? (i := 604) (by decide +kernel)) rfl
set_option maxRecDepth 20000 in
theorem mq_605 : Cond.methodLink RX1 59 yX3_learn ∈ xw := xw_in (List.mem_of_getElem? (i := 605) (by decide +kernel)) rfl
set_option maxRecDepth 20000 in
theorem mq_606 : Cond.instanceMethod yX3_learn ∈ xw := xw_in (List.mem_of_getElem? (i := 606) (by decide +kernel)) rfl
set_option maxRecDepth 20000 in
theorem mq_607 : Cond.selects RX3 yX3_learn yX3_learn ∈ xw := xw_in (List.mem_of_getElem? (i := 607) (by decide +kernel)) rfl
set_option maxRecDepth 20000 in
theorem mq_608 : Cond.code yX3_learn cX3_learn 4 none ∈ xw := xw_in (List.mem_of_getElem? (i := 608) (by decide +kernel)) rfl
set_option maxRecDepth 20000 in
theorem mq_609 : Cond.methodLink RX3 101 yX3_entryIndex ∈ xw := xw_in (List.mem_of_getElem? (i := 609) (by decide +kernel)) rfl
set_option maxRecDepth 20000 in
theorem mq_610 : Cond.static yX3_entryIndex ∈ xw := xw_in (List.mem_of_getElem? (i := 610) (by decide +kernel)) rfl
set_option maxRecDepth 20000 in
theorem mq_611 : Cond.code yX3_entryIndex cX3_entryIndex 2 (some .int) ∈ xw := xw_in (List.mem_of_getElem? (i := 611) (by decide +kernel)) rfl
set_option maxRecDepth 20000 in
theorem mq_612 : Cond.methodLink RX1 62 yX1_passOn ∈ xw := xw_in (List.mem_of_getElem? (i := 612) (by decide +kernel)) rfl
set_option maxRecDepth 20000 in
theorem mq_614 : Cond.instanceMethod yX1_passOn ∈ xw := xw_in (List.mem_of_getElem? (i := 614) (by decide +kernel)) rfl
set_option maxRecDepth 20000 in
theorem mq_615 : Cond.code yX1_passOn cX1_passOn 5 none ∈ xw := xw_in (List.mem_of_getElem? (i := 615) (by decide +kernel)) rfl
set_option maxRecDepth 20000 in
theorem mq_616 : Cond.methodLink RX1 68 yX3_learnedPort ∈ xw := xw_in (List.mem_of_getElem? (i := 616) (by decide +kernel)) rfl
set_option maxRecDepth 20000 in
theorem mq_617 : Cond.instanceMethod yX3_learnedPort ∈ xw := xw_in (List.mem_of_getElem? (i := 617) (by decide +kernel)) rfl
set_option maxRecDepth 20000 in
theorem mq_618 : Cond.selects RX3 yX3_learnedPort yX3_learnedPort ∈ xw := xw_in (List.mem_of_getElem? (i := 618) (by decide +kernel)) rfl
set_option maxRecDepth 20000 in
theorem mq_619 : Cond.code yX3_learnedPort cX3_learnedPort 4 (some .int) ∈ xw := xw_in (List.mem_of_getElem? (i := 619) (by decide +kernel)) rfl
set_option maxRecDepth 20000 in
theorem mq_620 : Cond.methodLink RX1 72 yX3_isForwarding ∈ xw := xw_in (List.mem_of_getElem? (i := 620) (by decide +kernel)) rfl
set_option maxRecDepth 20000 in
theorem mq_621 : Cond.methodLink RX1 75 yX1_flood ∈ xw := xw_in (List.mem_of_getElem? (i := 621) (by decide +kernel)) rfl
set_option maxRecDepth 20000 in
theorem mq_623 : Cond.instanceMethod yX1_flood ∈ xw := xw_in (List.mem_of_getElem? (i := 623) (by decide +kernel)) rfl
set_option maxRecDepth 20000 in
theorem mq_624 : Cond.code yX1_flood cX1_flood 4 none ∈ xw := xw_in (List.mem_of_getElem? (i := 624) (by decide +kernel)) rfl
set_option maxRecDepth 20000 in
theorem mq_625 : Cond.methodLink RL 106 yX6_transmissions ∈ xw := xw_in (List.mem_of_getElem? (i := 625) (by decide +kernel)) rfl
set_option maxRecDepth 20000 in
theorem mq_626 : Cond.instanceMethod yX6_transmissions ∈ xw := xw_in (List.mem_of_getElem? (i := 626) (by decide +kernel)) rfl
set_option maxRecDepth 20000 in
theorem mq_627 : Cond.selects RX6 yX6_transmissions yX6_transmissions ∈ xw := xw_in (List.mem_of_getElem? (i := 627) (by decide +kernel)) rfl
set_option maxRecDepth 20000 in
theorem mq_628 : Cond.code yX6_transmissions cX6_transmissions 2 (some .int) ∈ xw := xw_in (List.mem_of_getElem? (i := 628) (by decide +kernel)) rfl
set_option maxRecDepth 20000 in
theorem mq_629 : Cond.methodLink RL 110 yX6_entry ∈ xw := xw_in (List.mem_of_getElem? (i := 629) (by decide +kernel)) rfl
set_option maxRecDepth 20000 in
theorem mq_630 : Cond.instanceMethod yX6_entry ∈ xw := xw_in (List.mem_of_getElem? (i := 630) (by decide +kernel)) rfl
set_option maxRecDepth 20000 in
theorem mq_631 : Cond.selects RX6 yX6_entry yX6_entry ∈ xw := xw_in (List.mem_of_getElem? (i := 631) (by decide +kernel)) rfl
set_option maxRecDepth 20000 in
theorem mq_632 : Cond.code yX6_entry cX6_entry 4 (some .int) ∈ xw := xw_in (List.mem_of_getElem? (i := 632) (by decide +kernel)) rfl
set_option maxRecDepth 20000 in
theorem mq_633 : Cond.methodLink RX6 184 yX3_learnedPort ∈ xw := xw_in (List.mem_of_getElem? (i := 633) (by decide +kernel)) rfl
set_option maxRecDepth 20000 in
theorem mq_634 : Cond.methodLink RL 114 yX6_count ∈ xw := xw_in (List.mem_of_getElem? (i := 634) (by decide +kernel)) rfl
set_option maxRecDepth 20000 in
theorem mq_635 : Cond.instanceMethod yX6_count ∈ xw := xw_in (List.mem_of_getElem? (i := 635) (by decide +kernel)) rfl
set_option maxRecDepth 20000 in
theorem mq_636 : Cond.selects RX6 yX6_count yX6_count ∈ xw := xw_in (List.mem_of_getElem? (i := 636) (by decide +kernel)) rfl
set_option maxRecDepth 20000 in
theorem mq_637 : Cond.code yX6_count cX6_count 2 (some .int) ∈ xw := xw_in (List.mem_of_getElem? (i := 637) (by decide +kernel)) rfl
set_option maxRecDepth 20000 in
theorem mq_638 : Cond.methodLink RL 118 yX6_save ∈ xw := xw_in (List.mem_of_getElem? (i := 638) (by decide +kernel)) rfl
set_option maxRecDepth 20000 in
theorem mq_639 : Cond.instanceMethod yX6_save ∈ xw := xw_in (List.mem_of_getElem? (i := 639) (by decide +kernel)) rfl
set_option maxRecDepth 20000 in
theorem mq_640 : Cond.selects RX6 yX6_save yX6_save ∈ xw := xw_in (List.mem_of_getElem? (i := 640) (by decide +kernel)) rfl
set_option maxRecDepth 20000 in
theorem mq_641 : Cond.code yX6_save cX6_save 2 (some .int) ∈ xw := xw_in (List.mem_of_getElem? (i := 641) (by decide +kernel)) rfl
set_option maxRecDepth 20000 in
theorem mq_642 : Cond.methodLink RX6 187 yX6_isSlot ∈ xw := xw_in (List.mem_of_getElem? (i := 642) (by decide +kernel)) rfl
set_option maxRecDepth 20000 in
theorem mq_643 : Cond.static yX6_isSlot ∈ xw := xw_in (List.mem_of_getElem? (i := 643) (by decide +kernel)) rfl
set_option maxRecDepth 20000 in
theorem mq_644 : Cond.code yX6_isSlot cX6_isSlot 1 (some .boolean) ∈ xw := xw_in (List.mem_of_getElem? (i := 644) (by decide +kernel)) rfl
set_option maxRecDepth 20000 in
theorem mq_645 : Cond.methodLink RX6 190 yX3_copyFrom ∈ xw := xw_in (List.mem_of_getElem? (i := 645) (by decide +kernel)) rfl
set_option maxRecDepth 20000 in
theorem mq_646 : Cond.instanceMethod yX3_copyFrom ∈ xw := xw_in (List.mem_of_getElem? (i := 646) (by decide +kernel)) rfl
set_option maxRecDepth 20000 in
theorem mq_647 : Cond.selects RX3 yX3_copyFrom yX3_copyFrom ∈ xw := xw_in (List.mem_of_getElem? (i := 647) (by decide +kernel)) rfl
set_option maxRecDepth 20000 in
theorem mq_648 : Cond.code yX3_copyFrom cX3_copyFrom 2 none ∈ xw := xw_in (List.mem_of_getElem? (i := 648) (by decide +kernel)) rfl
set_option maxRecDepth 20000 in
theorem mq_649 : Cond.methodLink RX3 71 yX3_copyRow ∈ xw := xw_in (List.mem_of_getElem? (i := 649) (by decide +kernel)) rfl
set_option maxRecDepth 20000 in
theorem mq_650 : Cond.static yX3_copyRow ∈ xw := xw_in (List.mem_of_getElem? (i := 650) (by decide +kernel)) rfl
set_option maxRecDepth 20000 in
theorem mq_651 : Cond.code yX3_copyRow cX3_copyRow 2 none ∈ xw := xw_in (List.mem_of_getElem? (i := 651) (by decide +kernel)) rfl
set_option maxRecDepth 20000 in
theorem mq_652 : Cond.methodLink RX3 81 yJ9_min_7cf53 ∈ xw := xw_in (List.mem_of_getElem? (i := 652) (by decide +kernel)) rfl
set_option maxRecDepth 20000 in
theorem mq_653 : Cond.static yJ9_min_7cf53 ∈ xw := xw_in (List.mem_of_getElem? (i := 653) (by decide +kernel)) rfl
set_option maxRecDepth 20000 in
theorem mq_654 : Cond.code yJ9_min_7cf53 cJ9_min_7cf53 2 (some .int) ∈ xw := xw_in (List.mem_of_getElem? (i := 654) (by decide +kernel)) rfl
set_option maxRecDepth 20000 in
theorem mq_655 : Cond.methodLink RX3 75 arraycopyName ∈ xw := xw_in (List.mem_of_getElem? (i := 655) (by decide +kernel)) rfl
set_option maxRecDepth 20000 in
theorem mq_656 : Cond.static arraycopyName ∈ xw := xw_in (List.mem_of_getElem? (i := 656) (by decide +kernel)) rfl
set_option maxRecDepth 20000 in
theorem mq_657 : Cond.native arraycopyName ∈ xw := xw_in (List.mem_of_getElem? (i := 657) (by decide +kernel)) rfl
set_option maxRecDepth 20000 in
theorem mq_658 : Cond.methodLink RL 122 yX6_restore ∈ xw := xw_in (List.mem_of_getElem? (i := 658) (by decide +kernel)) rfl
set_option maxRecDepth 20000 in
theorem mq_659 : Cond.instanceMethod yX6_restore ∈ xw := xw_in (List.mem_of_getElem? (i := 659) (by decide +kernel)) rfl
set_option maxRecDepth 20000 in
theorem mq_660 : Cond.selects RX6 yX6_restore yX6_restore ∈ xw := xw_in (List.mem_of_getElem? (i := 660) (by decide +kernel)) rfl
set_option maxRecDepth 20000 in
theorem mq_661 : Cond.code yX6_restore cX6_restore 2 (some .int) ∈ xw := xw_in (List.mem_of_getElem? (i := 661) (by decide +kernel)) rfl
set_option maxRecDepth 20000 in
theorem mq_662 : Cond.classLink RL 10 RX7 ∈ xw := xw_in (List.mem_of_getElem? (i := 662) (by decide +kernel)) rfl
set_option maxRecDepth 20000 in
theorem mq_663 : Cond.instantiable RX7 16 ∈ xw := xw_in (List.mem_of_getElem? (i := 663) (by decide +kernel)) rfl
set_option maxRecDepth 20000 in
theorem mq_664 : Cond.methodLink RL 12 yX7_init ∈ xw := xw_in (List.mem_of_getElem? (i := 664) (by decide +kernel)) rfl
set_option maxRecDepth 20000 in
theorem mq_665 : Cond.instanceMethod yX7_init ∈ xw := xw_in (List.mem_of_getElem? (i := 665) (by decide +kernel)) rfl
set_option maxRecDepth 20000 in
theorem mq_666 : Cond.code yX7_init cX7_init 1 none ∈ xw := xw_in (List.mem_of_getElem? (i := 666) (by decide +kernel)) rfl
set_option maxRecDepth 20000 in
theorem mq_667 : Cond.methodLink RX7 1 objectInit ∈ xw := xw_in (List.mem_of_getElem? (i := 667) (by decide +kernel)) rfl
set_option maxRecDepth 20000 in
theorem mq_668 : Cond.fieldLink RX7 7 "SpanningTreeProtocolModel" "at" "[I" ∈ xw := xw_in (List.mem_of_getElem? (i := 668) (by decide +kernel)) rfl
set_option maxRecDepth 20000 in
theorem mq_669 : Cond.fieldLink RX7 13 "SpanningTreeProtocolModel" "slots" "[I" ∈ xw := xw_in (List.mem_of_getElem? (i := 669) (by decide +kernel)) rfl
set_option maxRecDepth 20000 in
theorem mq_670 : Cond.fieldLink RX7 16 "SpanningTreeProtocolModel" "isSaved" "[Z" ∈ xw := xw_in (List.mem_of_getElem? (i := 670) (by decide +kernel)) rfl
set_option maxRecDepth 20000 in
theorem mq_671 : Cond.fieldLink RX7 20 "SpanningTreeProtocolModel" "wasActive" "[Z" ∈ xw := xw_in (List.mem_of_getElem? (i := 671) (by decide +kernel)) rfl
set_option maxRecDepth 20000 in
theorem mq_672 : Cond.fieldLink RX7 23 "SpanningTreeProtocolModel" "rootPorts" "[I" ∈ xw := xw_in (List.mem_of_getElem? (i := 672) (by decide +kernel)) rfl
set_option maxRecDepth 20000 in
theorem mq_673 : Cond.fieldLink RX7 26 "SpanningTreeProtocolModel" "roots" "[I" ∈ xw := xw_in (List.mem_of_getElem? (i := 673) (by decide +kernel)) rfl
set_option maxRecDepth 20000 in
theorem mq_674 : Cond.fieldLink RX7 29 "SpanningTreeProtocolModel" "rootCosts" "[I" ∈ xw := xw_in (List.mem_of_getElem? (i := 674) (by decide +kernel)) rfl
set_option maxRecDepth 20000 in
theorem mq_675 : Cond.fieldLink RX7 32 "SpanningTreeProtocolModel" "roles" "[I" ∈ xw := xw_in (List.mem_of_getElem? (i := 675) (by decide +kernel)) rfl
set_option maxRecDepth 20000 in
theorem mq_676 : Cond.fieldLink RX7 35 "SpanningTreeProtocolModel" "ages" "[I" ∈ xw := xw_in (List.mem_of_getElem? (i := 676) (by decide +kernel)) rfl
set_option maxRecDepth 20000 in
theorem mq_677 : Cond.fieldLink RX7 38 "SpanningTreeProtocolModel" "sentRoot" "[I" ∈ xw := xw_in (List.mem_of_getElem? (i := 677) (by decide +kernel)) rfl
set_option maxRecDepth 20000 in
theorem mq_678 : Cond.fieldLink RX7 41 "SpanningTreeProtocolModel" "sentCost" "[I" ∈ xw := xw_in (List.mem_of_getElem? (i := 678) (by decide +kernel)) rfl
set_option maxRecDepth 20000 in
theorem mq_679 : Cond.fieldLink RX7 44 "SpanningTreeProtocolModel" "rolesBefore" "[I" ∈ xw := xw_in (List.mem_of_getElem? (i := 679) (by decide +kernel)) rfl
set_option maxRecDepth 20000 in
theorem mq_680 : Cond.fieldLink RX7 47 "SpanningTreeProtocolModel" "part" "[I" ∈ xw := xw_in (List.mem_of_getElem? (i := 680) (by decide +kernel)) rfl
set_option maxRecDepth 20000 in
theorem mq_681 : Cond.fieldLink RX7 50 "SpanningTreeProtocolModel" "onSegment" "[I" ∈ xw := xw_in (List.mem_of_getElem? (i := 681) (by decide +kernel)) rfl
set_option maxRecDepth 20000 in
theorem mq_682 : Cond.fieldLink RX7 53 "SpanningTreeProtocolModel" "byPort" "[I" ∈ xw := xw_in (List.mem_of_getElem? (i := 682) (by decide +kernel)) rfl
set_option maxRecDepth 20000 in
theorem mq_683 : Cond.fieldLink RX7 160 "SpanningTreeProtocolModel" "made" "I" ∈ xw := xw_in (List.mem_of_getElem? (i := 683) (by decide +kernel)) rfl
set_option maxRecDepth 20000 in
theorem mq_717 : Cond.arrayClass .boolean ∈ xw := xw_in (List.mem_of_getElem? (i := 717) (by decide +kernel)) rfl
set_option maxRecDepth 20000 in
theorem mq_718 : Cond.methodLink RL 17 yX7_addBridge ∈ xw := xw_in (List.mem_of_getElem? (i := 718) (by decide +kernel)) rfl
set_option maxRecDepth 20000 in
theorem mq_719 : Cond.instanceMethod yX7_addBridge ∈ xw := xw_in (List.mem_of_getElem? (i := 719) (by decide +kernel)) rfl
set_option maxRecDepth 20000 in
theorem mq_720 : Cond.selects RX7 yX7_addBridge yX7_addBridge ∈ xw := xw_in (List.mem_of_getElem? (i := 720) (by decide +kernel)) rfl
set_option maxRecDepth 20000 in
theorem mq_721 : Cond.code yX7_addBridge cX7_addBridge 3 (some .int) ∈ xw := xw_in (List.mem_of_getElem? (i := 721) (by decide +kernel)) rfl
set_option maxRecDepth 20000 in
theorem mq_722 : Cond.methodLink RX7 56 yX7_in ∈ xw := xw_in (List.mem_of_getElem? (i := 722) (by decide +kernel)) rfl
set_option maxRecDepth 20000 in
theorem mq_723 : Cond.static yX7_in ∈ xw := xw_in (List.mem_of_getElem? (i := 723) (by decide +kernel)) rfl
set_option maxRecDepth 20000 in
theorem mq_724 : Cond.code yX7_in cX7_in 3 (some .boolean) ∈ xw := xw_in (List.mem_of_getElem? (i := 724) (by decide +kernel)) rfl
set_option maxRecDepth 20000 in
theorem mq_725 : Cond.methodLink RL 22 yX7_addSegment ∈ xw := xw_in (List.mem_of_getElem? (i := 725) (by decide +kernel)) rfl
set_option maxRecDepth 20000 in
theorem mq_726 : Cond.instanceMethod yX7_addSegment ∈ xw := xw_in (List.mem_of_getElem? (i := 726) (by decide +kernel)) rfl
set_option maxRecDepth 20000 in
theorem mq_727 : Cond.selects RX7 yX7_addSegment yX7_addSegment ∈ xw := xw_in (List.mem_of_getElem? (i := 727) (by decide +kernel)) rfl
set_option maxRecDepth 20000 in
theorem mq_728 : Cond.code yX7_addSegment cX7_addSegment 1 (some .int) ∈ xw := xw_in (List.mem_of_getElem? (i := 728) (by decide +kernel)) rfl
set_option maxRecDepth 20000 in
theorem mq_729 : Cond.methodLink RL 27 yX7_addPort ∈ xw := xw_in (List.mem_of_getElem? (i := 729) (by decide +kernel)) rfl
set_option maxRecDepth 20000 in
theorem mq_730 : Cond.instanceMethod yX7_addPort ∈ xw := xw_in (List.mem_of_getElem? (i := 730) (by decide +kernel)) rfl
set_option maxRecDepth 20000 in
theorem mq_731 : Cond.selects RX7 yX7_addPort yX7_addPort ∈ xw := xw_in (List.mem_of_getElem? (i := 731) (by decide +kernel)) rfl
set_option maxRecDepth 20000 in
theorem mq_732 : Cond.code yX7_addPort cX7_addPort 5 (some .int) ∈ xw := xw_in (List.mem_of_getElem? (i := 732) (by decide +kernel)) rfl
set_option maxRecDepth 20000 in
theorem mq_733 : Cond.methodLink RX7 68 yX7_isBridge ∈ xw := xw_in (List.mem_of_getElem? (i := 733) (by decide +kernel)) rfl
set_option maxRecDepth 20000 in
theorem mq_735 : Cond.instanceMethod yX7_isBridge ∈ xw := xw_in (List.mem_of_getElem? (i := 735) (by decide +kernel)) rfl
set_option maxRecDepth 20000 in
theorem mq_736 : Cond.code yX7_isBridge cX7_isBridge 2 (some .boolean) ∈ xw := xw_in (List.mem_of_getElem? (i := 736) (by decide +kernel)) rfl
set_option maxRecDepth 20000 in
theorem mq_737 : Cond.methodLink RX7 72 yX7_isSegment ∈ xw := xw_in (List.mem_of_getElem? (i := 737) (by decide +kernel)) rfl
set_option maxRecDepth 20000 in
theorem mq_739 : Cond.instanceMethod yX7_isSegment ∈ xw := xw_in (List.mem_of_getElem? (i := 739) (by decide +kernel)) rfl
set_option maxRecDepth 20000 in
theorem mq_740 : Cond.code yX7_isSegment cX7_isSegment 2 (some .boolean) ∈ xw := xw_in (List.mem_of_getElem? (i := 740) (by decide +kernel)) rfl
set_option maxRecDepth 20000 in
theorem mq_741 : Cond.methodLink RX7 75 yX7_ports ∈ xw := xw_in (List.mem_of_getElem? (i := 741) (by decide +kernel)) rfl
set_option maxRecDepth 20000 in
theorem mq_743 : Cond.instanceMethod yX7_ports ∈ xw := xw_in (List.mem_of_getElem? (i := 743) (by decide +kernel)) rfl
set_option maxRecDepth 20000 in
theorem mq_744 : Cond.code yX7_ports cX7_ports 1 (some .int) ∈ xw := xw_in (List.mem_of_getElem? (i := 744) (by decide +kernel)) rfl
set_option maxRecDepth 20000 in
theorem mq_745 : Cond.methodLink RX7 79 yX7_isActive ∈ xw := xw_in (List.mem_of_getElem? (i := 745) (by decide +kernel)) rfl
set_option maxRecDepth 20000 in
theorem mq_747 : Cond.instanceMethod yX7_isActive ∈ xw := xw_in (List.mem_of_getElem? (i := 747) (by decide +kernel)) rfl
set_option maxRecDepth 20000 in
theorem mq_748 : Cond.code yX7_isActive cX7_isActive 2 (some .boolean) ∈ xw := xw_in (List.mem_of_getElem? (i := 748) (by decide +kernel)) rfl
set_option maxRecDepth 20000 in
theorem mq_749 : Cond.methodLink RX7 60 yX7_bridgeOf ∈ xw := xw_in (List.mem_of_getElem? (i := 749) (by decide +kernel)) rfl
set_option maxRecDepth 20000 in
theorem mq_751 : Cond.instanceMethod yX7_bridgeOf ∈ xw := xw_in (List.mem_of_getElem? (i := 751) (by decide +kernel)) rfl
set_option maxRecDepth 20000 in
theorem mq_752 : Cond.code yX7_bridgeOf cX7_bridgeOf 2 (some .int) ∈ xw := xw_in (List.mem_of_getElem? (i := 752) (by decide +kernel)) rfl
set_option maxRecDepth 20000 in
theorem mq_753 : Cond.methodLink RL 31 yX7_addStation ∈ xw := xw_in (List.mem_of_getElem? (i := 753) (by decide +kernel)) rfl
set_option maxRecDepth 20000 in
theorem mq_754 : Cond.instanceMethod yX7_addStation ∈ xw := xw_in (List.mem_of_getElem? (i := 754) (by decide +kernel)) rfl
set_option maxRecDepth 20000 in
theorem mq_755 : Cond.selects RX7 yX7_addStation yX7_addStation ∈ xw := xw_in (List.mem_of_getElem? (i := 755) (by decide +kernel)) rfl
set_option maxRecDepth 20000 in
theorem mq_756 : Cond.code yX7_addStation cX7_addStation 2 (some .int) ∈ xw := xw_in (List.mem_of_getElem? (i := 756) (by decide +kernel)) rfl
set_option maxRecDepth 20000 in
theorem mq_757 : Cond.methodLink RL 36 yX7_setPriority ∈ xw := xw_in (List.mem_of_getElem? (i := 757) (by decide +kernel)) rfl
set_option maxRecDepth 20000 in
theorem mq_758 : Cond.instanceMethod yX7_setPriority ∈ xw := xw_in (List.mem_of_getElem? (i := 758) (by decide +kernel)) rfl
set_option maxRecDepth 20000 in
theorem mq_759 : Cond.selects RX7 yX7_setPriority yX7_setPriority ∈ xw := xw_in (List.mem_of_getElem? (i := 759) (by decide +kernel)) rfl
set_option maxRecDepth 20000 in
theorem mq_760 : Cond.code yX7_setPriority cX7_setPriority 3 (some .int) ∈ xw := xw_in (List.mem_of_getElem? (i := 760) (by decide +kernel)) rfl
set_option maxRecDepth 20000 in
theorem mq_761 : Cond.methodLink RX7 82 yX7_set ∈ xw := xw_in (List.mem_of_getElem? (i := 761) (by decide +kernel)) rfl
set_option maxRecDepth 20000 in
theorem mq_763 : Cond.instanceMethod yX7_set ∈ xw := xw_in (List.mem_of_getElem? (i := 763) (by decide +kernel)) rfl
set_option maxRecDepth 20000 in
theorem mq_764 : Cond.code yX7_set cX7_set 4 (some .int) ∈ xw := xw_in (List.mem_of_getElem? (i := 764) (by decide +kernel)) rfl
set_option maxRecDepth 20000 in
theorem mq_765 : Cond.methodLink RL 40 yX7_setCost ∈ xw := xw_in (List.mem_of_getElem? (i := 765) (by decide +kernel)) rfl
set_option maxRecDepth 20000 in
theorem mq_766 : Cond.instanceMethod yX7_setCost ∈ xw := xw_in (List.mem_of_getElem? (i := 766) (by decide +kernel)) rfl
set_option maxRecDepth 20000 in
theorem mq_767 : Cond.selects RX7 yX7_setCost yX7_setCost ∈ xw := xw_in (List.mem_of_getElem? (i := 767) (by decide +kernel)) rfl
set_option maxRecDepth 20000 in
theorem mq_768 : Cond.code yX7_setCost cX7_setCost 3 (some .int) ∈ xw := xw_in (List.mem_of_getElem? (i := 768) (by decide +kernel)) rfl
set_option maxRecDepth 20000 in
theorem mq_769 : Cond.methodLink RX7 85 yX7_isPort ∈ xw := xw_in (List.mem_of_getElem? (i := 769) (by decide +kernel)) rfl
set_option maxRecDepth 20000 in
theorem mq_771 : Cond.instanceMethod yX7_isPort ∈ xw := xw_in (List.mem_of_getElem? (i := 771) (by decide +kernel)) rfl
set_option maxRecDepth 20000 in
theorem mq_772 : Cond.code yX7_isPort cX7_isPort 2 (some .boolean) ∈ xw := xw_in (List.mem_of_getElem? (i := 772) (by decide +kernel)) rfl
set_option maxRecDepth 20000 in
theorem mq_773 : Cond.methodLink RL 45 yX7_setBridge ∈ xw := xw_in (List.mem_of_getElem? (i := 773) (by decide +kernel)) rfl
set_option maxRecDepth 20000 in
theorem mq_774 : Cond.instanceMethod yX7_setBridge ∈ xw := xw_in (List.mem_of_getElem? (i := 774) (by decide +kernel)) rfl
set_option maxRecDepth 20000 in
theorem mq_775 : Cond.selects RX7 yX7_setBridge yX7_setBridge ∈ xw := xw_in (List.mem_of_getElem? (i := 775) (by decide +kernel)) rfl
set_option maxRecDepth 20000 in
theorem mq_776 : Cond.code yX7_setBridge cX7_setBridge 3 (some .int) ∈ xw := xw_in (List.mem_of_getElem? (i := 776) (by decide +kernel)) rfl
set_option maxRecDepth 20000 in
theorem mq_777 : Cond.methodLink RX7 92 yX7_turnAll ∈ xw := xw_in (List.mem_of_getElem? (i := 777) (by decide +kernel)) rfl
set_option maxRecDepth 20000 in
theorem mq_779 : Cond.instanceMethod yX7_turnAll ∈ xw := xw_in (List.mem_of_getElem? (i := 779) (by decide +kernel)) rfl
set_option maxRecDepth 20000 in
theorem mq_780 : Cond.code yX7_turnAll cX7_turnAll 5 (some .int) ∈ xw := xw_in (List.mem_of_getElem? (i := 780) (by decide +kernel)) rfl
set_option maxRecDepth 20000 in
theorem mq_781 : Cond.methodLink RX7 88 yX7_turn ∈ xw := xw_in (List.mem_of_getElem? (i := 781) (by decide +kernel)) rfl
set_option maxRecDepth 20000 in
theorem mq_783 : Cond.instanceMethod yX7_turn ∈ xw := xw_in (List.mem_of_getElem? (i := 783) (by decide +kernel)) rfl
set_option maxRecDepth 20000 in
theorem mq_784 : Cond.code yX7_turn cX7_turn 5 none ∈ xw := xw_in (List.mem_of_getElem? (i := 784) (by decide +kernel)) rfl
set_option maxRecDepth 20000 in
theorem mq_785 : Cond.methodLink RL 49 yX7_setPort ∈ xw := xw_in (List.mem_of_getElem? (i := 785) (by decide +kernel)) rfl
set_option maxRecDepth 20000 in
theorem mq_786 : Cond.instanceMethod yX7_setPort ∈ xw := xw_in (List.mem_of_getElem? (i := 786) (by decide +kernel)) rfl
set_option maxRecDepth 20000 in
theorem mq_787 : Cond.selects RX7 yX7_setPort yX7_setPort ∈ xw := xw_in (List.mem_of_getElem? (i := 787) (by decide +kernel)) rfl
set_option maxRecDepth 20000 in
theorem mq_788 : Cond.code yX7_setPort cX7_setPort 3 (some .int) ∈ xw := xw_in (List.mem_of_getElem? (i := 788) (by decide +kernel)) rfl
set_option maxRecDepth 20000 in
theorem mq_789 : Cond.methodLink RL 53 yX7_moveStation ∈ xw := xw_in (List.mem_of_getElem? (i := 789) (by decide +kernel)) rfl
set_option maxRecDepth 20000 in
theorem mq_790 : Cond.instanceMethod yX7_moveStation ∈ xw := xw_in (List.mem_of_getElem? (i := 790) (by decide +kernel)) rfl
set_option maxRecDepth 20000 in
theorem mq_791 : Cond.selects RX7 yX7_moveStation yX7_moveStation ∈ xw := xw_in (List.mem_of_getElem? (i := 791) (by decide +kernel)) rfl
set_option maxRecDepth 20000 in
theorem mq_792 : Cond.code yX7_moveStation cX7_moveStation 3 (some .int) ∈ xw := xw_in (List.mem_of_getElem? (i := 792) (by decide +kernel)) rfl
set_option maxRecDepth 20000 in
theorem mq_793 : Cond.methodLink RX7 96 yX7_isStation ∈ xw := xw_in (List.mem_of_getElem? (i := 793) (by decide +kernel)) rfl
set_option maxRecDepth 20000 in
theorem mq_795 : Cond.instanceMethod yX7_isStation ∈ xw := xw_in (List.mem_of_getElem? (i := 795) (by decide +kernel)) rfl
set_option maxRecDepth 20000 in
theorem mq_796 : Cond.code yX7_isStation cX7_isStation 2 (some .boolean) ∈ xw := xw_in (List.mem_of_getElem? (i := 796) (by decide +kernel)) rfl
set_option maxRecDepth 20000 in
theorem mq_797 : Cond.methodLink RL 57 yX7_tick ∈ xw := xw_in (List.mem_of_getElem? (i := 797) (by decide +kernel)) rfl
set_option maxRecDepth 20000 in
theorem mq_798 : Cond.instanceMethod yX7_tick ∈ xw := xw_in (List.mem_of_getElem? (i := 798) (by decide +kernel)) rfl
set_option maxRecDepth 20000 in
theorem mq_799 : Cond.selects RX7 yX7_tick yX7_tick ∈ xw := xw_in (List.mem_of_getElem? (i := 799) (by decide +kernel)) rfl
set_option maxRecDepth 20000 in
theorem mq_800 : Cond.code yX7_tick cX7_tick 4 (some .int) ∈ xw := xw_in (List.mem_of_getElem? (i := 800) (by decide +kernel)) rfl
set_option maxRecDepth 20000 in
theorem mq_801 : Cond.methodLink RX7 141 yX7_tickOnce ∈ xw := xw_in (List.mem_of_getElem? (i := 801) (by decide +kernel)) rfl
set_option maxRecDepth 20000 in
theorem mq_803 : Cond.instanceMethod yX7_tickOnce ∈ xw := xw_in (List.mem_of_getElem? (i := 803) (by decide +kernel)) rfl
set_option maxRecDepth 20000 in
theorem mq_804 : Cond.code yX7_tickOnce cX7_tickOnce 4 (some .boolean) ∈ xw := xw_in (List.mem_of_getElem? (i := 804) (by decide +kernel)) rfl
set_option maxRecDepth 20000 in
theorem mq_805 : Cond.methodLink RX7 129 yX7_layRoles ∈ xw := xw_in (List.mem_of_getElem? (i := 805) (by decide +kernel)) rfl
set_option maxRecDepth 20000 in
theorem mq_807 : Cond.instanceMethod yX7_layRoles ∈ xw := xw_in (List.mem_of_getElem? (i := 807) (by decide +kernel)) rfl
set_option maxRecDepth 20000 in
theorem mq_808 : Cond.code yX7_layRoles cX7_layRoles 2 none ∈ xw := xw_in (List.mem_of_getElem? (i := 808) (by decide +kernel)) rfl
set_option maxRecDepth 20000 in
theorem mq_809 : Cond.methodLink RX7 116 yX7_layRoot ∈ xw := xw_in (List.mem_of_getElem? (i := 809) (by decide +kernel)) rfl
set_option maxRecDepth 20000 in
theorem mq_811 : Cond.instanceMethod yX7_layRoot ∈ xw := xw_in (List.mem_of_getElem? (i := 811) (by decide +kernel)) rfl
set_option maxRecDepth 20000 in
theorem mq_812 : Cond.code yX7_layRoot cX7_layRoot 5 none ∈ xw := xw_in (List.mem_of_getElem? (i := 812) (by decide +kernel)) rfl
set_option maxRecDepth 20000 in
theorem mq_813 : Cond.methodLink RX7 99 yX7_stores ∈ xw := xw_in (List.mem_of_getElem? (i := 813) (by decide +kernel)) rfl
set_option maxRecDepth 20000 in
theorem mq_815 : Cond.instanceMethod yX7_stores ∈ xw := xw_in (List.mem_of_getElem? (i := 815) (by decide +kernel)) rfl
set_option maxRecDepth 20000 in
theorem mq_816 : Cond.code yX7_stores cX7_stores 2 (some .boolean) ∈ xw := xw_in (List.mem_of_getElem? (i := 816) (by decide +kernel)) rfl
set_option maxRecDepth 20000 in
theorem mq_817 : Cond.methodLink RX7 64 yX7_message ∈ xw := xw_in (List.mem_of_getElem? (i := 817) (by decide +kernel)) rfl
set_option maxRecDepth 20000 in
theorem mq_819 : Cond.instanceMethod yX7_message ∈ xw := xw_in (List.mem_of_getElem? (i := 819) (by decide +kernel)) rfl
set_option maxRecDepth 20000 in
theorem mq_820 : Cond.code yX7_message cX7_message 3 (some .int) ∈ xw := xw_in (List.mem_of_getElem? (i := 820) (by decide +kernel)) rfl
set_option maxRecDepth 20000 in
theorem mq_821 : Cond.methodLink RX7 102 yX7_idOf ∈ xw := xw_in (List.mem_of_getElem? (i := 821) (by decide +kernel)) rfl
set_option maxRecDepth 20000 in
theorem mq_823 : Cond.instanceMethod yX7_idOf ∈ xw := xw_in (List.mem_of_getElem? (i := 823) (by decide +kernel)) rfl
set_option maxRecDepth 20000 in
theorem mq_824 : Cond.code yX7_idOf cX7_idOf 2 (some .int) ∈ xw := xw_in (List.mem_of_getElem? (i := 824) (by decide +kernel)) rfl
set_option maxRecDepth 20000 in
theorem mq_825 : Cond.methodLink RX7 105 yX7_isBetterOffer ∈ xw := xw_in (List.mem_of_getElem? (i := 825) (by decide +kernel)) rfl
set_option maxRecDepth 20000 in
theorem mq_827 : Cond.instanceMethod yX7_isBetterOffer ∈ xw := xw_in (List.mem_of_getElem? (i := 827) (by decide +kernel)) rfl
set_option maxRecDepth 20000 in
theorem mq_828 : Cond.code yX7_isBetterOffer cX7_isBetterOffer 5 (some .boolean) ∈ xw := xw_in (List.mem_of_getElem? (i := 828) (by decide +kernel)) rfl
set_option maxRecDepth 20000 in
theorem mq_829 : Cond.methodLink RX7 120 yX7_roleOf ∈ xw := xw_in (List.mem_of_getElem? (i := 829) (by decide +kernel)) rfl
set_option maxRecDepth 20000 in
theorem mq_831 : Cond.instanceMethod yX7_roleOf ∈ xw := xw_in (List.mem_of_getElem? (i := 831) (by decide +kernel)) rfl
set_option maxRecDepth 20000 in
theorem mq_832 : Cond.code yX7_roleOf cX7_roleOf 3 (some .int) ∈ xw := xw_in (List.mem_of_getElem? (i := 832) (by decide +kernel)) rfl
set_option maxRecDepth 20000 in
theorem mq_833 : Cond.methodLink RX7 113 yX7_isOwnBetter ∈ xw := xw_in (List.mem_of_getElem? (i := 833) (by decide +kernel)) rfl
set_option maxRecDepth 20000 in
theorem mq_835 : Cond.instanceMethod yX7_isOwnBetter ∈ xw := xw_in (List.mem_of_getElem? (i := 835) (by decide +kernel)) rfl
set_option maxRecDepth 20000 in
theorem mq_836 : Cond.code yX7_isOwnBetter cX7_isOwnBetter 3 (some .boolean) ∈ xw := xw_in (List.mem_of_getElem? (i := 836) (by decide +kernel)) rfl
set_option maxRecDepth 20000 in
theorem mq_837 : Cond.methodLink RX7 109 yX7_isBetter ∈ xw := xw_in (List.mem_of_getElem? (i := 837) (by decide +kernel)) rfl
set_option maxRecDepth 20000 in
theorem mq_838 : Cond.static yX7_isBetter ∈ xw := xw_in (List.mem_of_getElem? (i := 838) (by decide +kernel)) rfl
set_option maxRecDepth 20000 in
theorem mq_839 : Cond.code yX7_isBetter cX7_isBetter 8 (some .boolean) ∈ xw := xw_in (List.mem_of_getElem? (i := 839) (by decide +kernel)) rfl
set_option maxRecDepth 20000 in
theorem mq_840 : Cond.methodLink RX7 132 yX7_sendAll ∈ xw := xw_in (List.mem_of_getElem? (i := 840) (by decide +kernel)) rfl
set_option maxRecDepth 20000 in
theorem mq_842 : Cond.instanceMethod yX7_sendAll ∈ xw := xw_in (List.mem_of_getElem? (i := 842) (by decide +kernel)) rfl
set_option maxRecDepth 20000 in
theorem mq_843 : Cond.code yX7_sendAll cX7_sendAll 4 none ∈ xw := xw_in (List.mem_of_getElem? (i := 843) (by decide +kernel)) rfl
set_option maxRecDepth 20000 in
theorem mq_844 : Cond.methodLink RX7 135 yX7_hear ∈ xw := xw_in (List.mem_of_getElem? (i := 844) (by decide +kernel)) rfl
set_option maxRecDepth 20000 in
theorem mq_846 : Cond.instanceMethod yX7_hear ∈ xw := xw_in (List.mem_of_getElem? (i := 846) (by decide +kernel)) rfl
set_option maxRecDepth 20000 in
theorem mq_847 : Cond.code yX7_hear cX7_hear 7 none ∈ xw := xw_in (List.mem_of_getElem? (i := 847) (by decide +kernel)) rfl
set_option maxRecDepth 20000 in
theorem mq_848 : Cond.methodLink RX7 126 yX7_heardBy ∈ xw := xw_in (List.mem_of_getElem? (i := 848) (by decide +kernel)) rfl
set_option maxRecDepth 20000 in
theorem mq_850 : Cond.instanceMethod yX7_heardBy ∈ xw := xw_in (List.mem_of_getElem? (i := 850) (by decide +kernel)) rfl
set_option maxRecDepth 20000 in
theorem mq_851 : Cond.code yX7_heardBy cX7_heardBy 5 (some .int) ∈ xw := xw_in (List.mem_of_getElem? (i := 851) (by decide +kernel)) rfl
set_option maxRecDepth 20000 in
theorem mq_852 : Cond.methodLink RX7 123 yX7_isBetterSent ∈ xw := xw_in (List.mem_of_getElem? (i := 852) (by decide +kernel)) rfl
set_option maxRecDepth 20000 in
theorem mq_854 : Cond.instanceMethod yX7_isBetterSent ∈ xw := xw_in (List.mem_of_getElem? (i := 854) (by decide +kernel)) rfl
set_option maxRecDepth 20000 in
theorem mq_855 : Cond.code yX7_isBetterSent cX7_isBetterSent 3 (some .boolean) ∈ xw := xw_in (List.mem_of_getElem? (i := 855) (by decide +kernel)) rfl
set_option maxRecDepth 20000 in
theorem mq_856 : Cond.methodLink RX7 138 yX7_goOn ∈ xw := xw_in (List.mem_of_getElem? (i := 856) (by decide +kernel)) rfl
set_option maxRecDepth 20000 in
theorem mq_858 : Cond.instanceMethod yX7_goOn ∈ xw := xw_in (List.mem_of_getElem? (i := 858) (by decide +kernel)) rfl
set_option maxRecDepth 20000 in
theorem mq_859 : Cond.code yX7_goOn cX7_goOn 3 none ∈ xw := xw_in (List.mem_of_getElem? (i := 859) (by decide +kernel)) rfl
set_option maxRecDepth 20000 in
theorem mq_860 : Cond.methodLink RL 61 yX7_settle ∈ xw := xw_in (List.mem_of_getElem? (i := 860) (by decide +kernel)) rfl
set_option maxRecDepth 20000 in
theorem mq_861 : Cond.instanceMethod yX7_settle ∈ xw := xw_in (List.mem_of_getElem? (i := 861) (by decide +kernel)) rfl
set_option maxRecDepth 20000 in
theorem mq_862 : Cond.selects RX7 yX7_settle yX7_settle ∈ xw := xw_in (List.mem_of_getElem? (i := 862) (by decide +kernel)) rfl
set_option maxRecDepth 20000 in
theorem mq_863 : Cond.code yX7_settle cX7_settle 4 (some .int) ∈ xw := xw_in (List.mem_of_getElem? (i := 863) (by decide +kernel)) rfl
set_option maxRecDepth 20000 in
theorem mq_864 : Cond.methodLink RL 65 yX7_identifier ∈ xw := xw_in (List.mem_of_getElem? (i := 864) (by decide +kernel)) rfl
set_option maxRecDepth 20000 in
theorem mq_865 : Cond.instanceMethod yX7_identifier ∈ xw := xw_in (List.mem_of_getElem? (i := 865) (by decide +kernel)) rfl
set_option maxRecDepth 20000 in
theorem mq_866 : Cond.selects RX7 yX7_identifier yX7_identifier ∈ xw := xw_in (List.mem_of_getElem? (i := 866) (by decide +kernel)) rfl
set_option maxRecDepth 20000 in
theorem mq_867 : Cond.code yX7_identifier cX7_identifier 2 (some .int) ∈ xw := xw_in (List.mem_of_getElem? (i := 867) (by decide +kernel)) rfl
set_option maxRecDepth 20000 in
theorem mq_868 : Cond.methodLink RL 69 yX7_root ∈ xw := xw_in (List.mem_of_getElem? (i := 868) (by decide +kernel)) rfl
set_option maxRecDepth 20000 in
theorem mq_869 : Cond.instanceMethod yX7_root ∈ xw := xw_in (List.mem_of_getElem? (i := 869) (by decide +kernel)) rfl
set_option maxRecDepth 20000 in
theorem mq_870 : Cond.selects RX7 yX7_root yX7_root ∈ xw := xw_in (List.mem_of_getElem? (i := 870) (by decide +kernel)) rfl
set_option maxRecDepth 20000 in
theorem mq_871 : Cond.code yX7_root cX7_root 2 (some .int) ∈ xw := xw_in (List.mem_of_getElem? (i := 871) (by decide +kernel)) rfl
set_option maxRecDepth 20000 in
theorem mq_872 : Cond.methodLink RX7 145 yX7_isUp ∈ xw := xw_in (List.mem_of_getElem? (i := 872) (by decide +kernel)) rfl
set_option maxRecDepth 20000 in
theorem mq_874 : Cond.instanceMethod yX7_isUp ∈ xw := xw_in (List.mem_of_getElem? (i := 874) (by decide +kernel)) rfl
set_option maxRecDepth 20000 in
theorem mq_875 : Cond.code yX7_isUp cX7_isUp 2 (some .boolean) ∈ xw := xw_in (List.mem_of_getElem? (i := 875) (by decide +kernel)) rfl
set_option maxRecDepth 20000 in
theorem mq_876 : Cond.methodLink RL 73 yX7_rootCost ∈ xw := xw_in (List.mem_of_getElem? (i := 876) (by decide +kernel)) rfl
set_option maxRecDepth 20000 in
theorem mq_877 : Cond.instanceMethod yX7_rootCost ∈ xw := xw_in (List.mem_of_getElem? (i := 877) (by decide +kernel)) rfl
set_option maxRecDepth 20000 in
theorem mq_878 : Cond.selects RX7 yX7_rootCost yX7_rootCost ∈ xw := xw_in (List.mem_of_getElem? (i := 878) (by decide +kernel)) rfl
set_option maxRecDepth 20000 in
theorem mq_879 : Cond.code yX7_rootCost cX7_rootCost 2 (some .int) ∈ xw := xw_in (List.mem_of_getElem? (i := 879) (by decide +kernel)) rfl
set_option maxRecDepth 20000 in
theorem mq_880 : Cond.methodLink RL 77 yX7_rootPort ∈ xw := xw_in (List.mem_of_getElem? (i := 880) (by decide +kernel)) rfl
set_option maxRecDepth 20000 in
theorem mq_881 : Cond.instanceMethod yX7_rootPort ∈ xw := xw_in (List.mem_of_getElem? (i := 881) (by decide +kernel)) rfl
set_option maxRecDepth 20000 in
theorem mq_882 : Cond.selects RX7 yX7_rootPort yX7_rootPort ∈ xw := xw_in (List.mem_of_getElem? (i := 882) (by decide +kernel)) rfl
set_option maxRecDepth 20000 in
theorem mq_883 : Cond.code yX7_rootPort cX7_rootPort 2 (some .int) ∈ xw := xw_in (List.mem_of_getElem? (i := 883) (by decide +kernel)) rfl
set_option maxRecDepth 20000 in
theorem mq_884 : Cond.methodLink RL 81 yX7_role ∈ xw := xw_in (List.mem_of_getElem? (i := 884) (by decide +kernel)) rfl
set_option maxRecDepth 20000 in
theorem mq_885 : Cond.instanceMethod yX7_role ∈ xw := xw_in (List.mem_of_getElem? (i := 885) (by decide +kernel)) rfl
set_option maxRecDepth 20000 in
theorem mq_886 : Cond.selects RX7 yX7_role yX7_role ∈ xw := xw_in (List.mem_of_getElem? (i := 886) (by decide +kernel)) rfl
set_option maxRecDepth 20000 in
theorem mq_887 : Cond.code yX7_role cX7_role 2 (some .int) ∈ xw := xw_in (List.mem_of_getElem? (i := 887) (by decide +kernel)) rfl
set_option maxRecDepth 20000 in
theorem mq_888 : Cond.methodLink RL 85 yX7_state ∈ xw := xw_in (List.mem_of_getElem? (i := 888) (by decide +kernel)) rfl
set_option maxRecDepth 20000 in
theorem mq_889 : Cond.instanceMethod yX7_state ∈ xw := xw_in (List.mem_of_getElem? (i := 889) (by decide +kernel)) rfl
set_option maxRecDepth 20000 in
theorem mq_890 : Cond.selects RX7 yX7_state yX7_state ∈ xw := xw_in (List.mem_of_getElem? (i := 890) (by decide +kernel)) rfl
set_option maxRecDepth 20000 in
theorem mq_891 : Cond.code yX7_state cX7_state 2 (some .int) ∈ xw := xw_in (List.mem_of_getElem? (i := 891) (by decide +kernel)) rfl
set_option maxRecDepth 20000 in
theorem mq_892 : Cond.methodLink RL 89 yX7_stored ∈ xw := xw_in (List.mem_of_getElem? (i := 892) (by decide +kernel)) rfl
set_option maxRecDepth 20000 in
theorem mq_893 : Cond.instanceMethod yX7_stored ∈ xw := xw_in (List.mem_of_getElem? (i := 893) (by decide +kernel)) rfl
set_option maxRecDepth 20000 in
theorem mq_894 : Cond.selects RX7 yX7_stored yX7_stored ∈ xw := xw_in (List.mem_of_getElem? (i := 894) (by decide +kernel)) rfl
set_option maxRecDepth 20000 in
theorem mq_895 : Cond.code yX7_stored cX7_stored 3 (some .int) ∈ xw := xw_in (List.mem_of_getElem? (i := 895) (by decide +kernel)) rfl
set_option maxRecDepth 20000 in
theorem mq_896 : Cond.methodLink RL 93 yX7_portsIn ∈ xw := xw_in (List.mem_of_getElem? (i := 896) (by decide +kernel)) rfl
set_option maxRecDepth 20000 in
theorem mq_897 : Cond.instanceMethod yX7_portsIn ∈ xw := xw_in (List.mem_of_getElem? (i := 897) (by decide +kernel)) rfl
set_option maxRecDepth 20000 in
theorem mq_898 : Cond.selects RX7 yX7_portsIn yX7_portsIn ∈ xw := xw_in (List.mem_of_getElem? (i := 898) (by decide +kernel)) rfl
set_option maxRecDepth 20000 in
theorem mq_899 : Cond.code yX7_portsIn cX7_portsIn 4 (some .int) ∈ xw := xw_in (List.mem_of_getElem? (i := 899) (by decide +kernel)) rfl
set_option maxRecDepth 20000 in
theorem mq_900 : Cond.methodLink RL 97 yX7_parts ∈ xw := xw_in (List.mem_of_getElem? (i := 900) (by decide +kernel)) rfl
set_option maxRecDepth 20000 in
theorem mq_901 : Cond.instanceMethod yX7_parts ∈ xw := xw_in (List.mem_of_getElem? (i := 901) (by decide +kernel)) rfl
set_option maxRecDepth 20000 in
theorem mq_902 : Cond.selects RX7 yX7_parts yX7_parts ∈ xw := xw_in (List.mem_of_getElem? (i := 902) (by decide +kernel)) rfl
set_option maxRecDepth 20000 in
theorem mq_903 : Cond.code yX7_parts cX7_parts 2 (some .int) ∈ xw := xw_in (List.mem_of_getElem? (i := 903) (by decide +kernel)) rfl
set_option maxRecDepth 20000 in
theorem mq_904 : Cond.methodLink RX7 151 yX7_joinAll ∈ xw := xw_in (List.mem_of_getElem? (i := 904) (by decide +kernel)) rfl
set_option maxRecDepth 20000 in
theorem mq_906 : Cond.instanceMethod yX7_joinAll ∈ xw := xw_in (List.mem_of_getElem? (i := 906) (by decide +kernel)) rfl
set_option maxRecDepth 20000 in
theorem mq_907 : Cond.code yX7_joinAll cX7_joinAll 6 (some .int) ∈ xw := xw_in (List.mem_of_getElem? (i := 907) (by decide +kernel)) rfl
set_option maxRecDepth 20000 in
theorem mq_908 : Cond.methodLink RX7 154 yX7_partsNow ∈ xw := xw_in (List.mem_of_getElem? (i := 908) (by decide +kernel)) rfl
set_option maxRecDepth 20000 in
theorem mq_910 : Cond.instanceMethod yX7_partsNow ∈ xw := xw_in (List.mem_of_getElem? (i := 910) (by decide +kernel)) rfl
set_option maxRecDepth 20000 in
theorem mq_911 : Cond.code yX7_partsNow cX7_partsNow 5 (some .int) ∈ xw := xw_in (List.mem_of_getElem? (i := 911) (by decide +kernel)) rfl
set_option maxRecDepth 20000 in
theorem mq_912 : Cond.methodLink RX7 148 yX7_isVertex ∈ xw := xw_in (List.mem_of_getElem? (i := 912) (by decide +kernel)) rfl
set_option maxRecDepth 20000 in
theorem mq_914 : Cond.instanceMethod yX7_isVertex ∈ xw := xw_in (List.mem_of_getElem? (i := 914) (by decide +kernel)) rfl
set_option maxRecDepth 20000 in
theorem mq_915 : Cond.code yX7_isVertex cX7_isVertex 2 (some .boolean) ∈ xw := xw_in (List.mem_of_getElem? (i := 915) (by decide +kernel)) rfl
set_option maxRecDepth 20000 in
theorem mq_916 : Cond.methodLink RL 101 yX7_loops ∈ xw := xw_in (List.mem_of_getElem? (i := 916) (by decide +kernel)) rfl
set_option maxRecDepth 20000 in
theorem mq_917 : Cond.instanceMethod yX7_loops ∈ xw := xw_in (List.mem_of_getElem? (i := 917) (by decide +kernel)) rfl
set_option maxRecDepth 20000 in
theorem mq_918 : Cond.selects RX7 yX7_loops yX7_loops ∈ xw := xw_in (List.mem_of_getElem? (i := 918) (by decide +kernel)) rfl
set_option maxRecDepth 20000 in
theorem mq_919 : Cond.code yX7_loops cX7_loops 2 (some .int) ∈ xw := xw_in (List.mem_of_getElem? (i := 919) (by decide +kernel)) rfl
set_option maxRecDepth 20000 in
theorem mq_920 : Cond.methodLink RX7 157 yX7_vertices ∈ xw := xw_in (List.mem_of_getElem? (i := 920) (by decide +kernel)) rfl
set_option maxRecDepth 20000 in
theorem mq_922 : Cond.instanceMethod yX7_vertices ∈ xw := xw_in (List.mem_of_getElem? (i := 922) (by decide +kernel)) rfl
set_option maxRecDepth 20000 in
theorem mq_923 : Cond.code yX7_vertices cX7_vertices 3 (some .int) ∈ xw := xw_in (List.mem_of_getElem? (i := 923) (by decide +kernel)) rfl
set_option maxRecDepth 20000 in
theorem mq_924 : Cond.methodLink RL 105 yX7_send ∈ xw := xw_in (List.mem_of_getElem? (i := 924) (by decide +kernel)) rfl
set_option maxRecDepth 20000 in
theorem mq_925 : Cond.instanceMethod yX7_send ∈ xw := xw_in (List.mem_of_getElem? (i := 925) (by decide +kernel)) rfl
set_option maxRecDepth 20000 in
theorem mq_926 : Cond.selects RX7 yX7_send yX7_send ∈ xw := xw_in (List.mem_of_getElem? (i := 926) (by decide +kernel)) rfl
set_option maxRecDepth 20000 in
theorem mq_927 : Cond.code yX7_send cX7_send 5 (some .int) ∈ xw := xw_in (List.mem_of_getElem? (i := 927) (by decide +kernel)) rfl
set_option maxRecDepth 20000 in
theorem mq_928 : Cond.methodLink RX7 167 yX7_transmit ∈ xw := xw_in (List.mem_of_getElem? (i := 928) (by decide +kernel)) rfl
set_option maxRecDepth 20000 in
theorem mq_930 : Cond.instanceMethod yX7_transmit ∈ xw := xw_in (List.mem_of_getElem? (i := 930) (by decide +kernel)) rfl
set_option maxRecDepth 20000 in
theorem mq_931 : Cond.code yX7_transmit cX7_transmit 3 none ∈ xw := xw_in (List.mem_of_getElem? (i := 931) (by decide +kernel)) rfl
set_option maxRecDepth 20000 in
theorem mq_932 : Cond.methodLink RX7 171 yX7_receive ∈ xw := xw_in (List.mem_of_getElem? (i := 932) (by decide +kernel)) rfl
set_option maxRecDepth 20000 in
theorem mq_934 : Cond.instanceMethod yX7_receive ∈ xw := xw_in (List.mem_of_getElem? (i := 934) (by decide +kernel)) rfl
set_option maxRecDepth 20000 in
theorem mq_935 : Cond.code yX7_receive cX7_receive 9 none ∈ xw := xw_in (List.mem_of_getElem? (i := 935) (by decide +kernel)) rfl
set_option maxRecDepth 20000 in
theorem mq_936 : Cond.methodLink RX7 164 yX7_cell ∈ xw := xw_in (List.mem_of_getElem? (i := 936) (by decide +kernel)) rfl
set_option maxRecDepth 20000 in
theorem mq_937 : Cond.static yX7_cell ∈ xw := xw_in (List.mem_of_getElem? (i := 937) (by decide +kernel)) rfl
set_option maxRecDepth 20000 in
theorem mq_938 : Cond.code yX7_cell cX7_cell 2 (some .int) ∈ xw := xw_in (List.mem_of_getElem? (i := 938) (by decide +kernel)) rfl
set_option maxRecDepth 20000 in
theorem mq_939 : Cond.methodLink RL 109 yX7_transmissions ∈ xw := xw_in (List.mem_of_getElem? (i := 939) (by decide +kernel)) rfl
set_option maxRecDepth 20000 in
theorem mq_940 : Cond.instanceMethod yX7_transmissions ∈ xw := xw_in (List.mem_of_getElem? (i := 940) (by decide +kernel)) rfl
set_option maxRecDepth 20000 in
theorem mq_941 : Cond.selects RX7 yX7_transmissions yX7_transmissions ∈ xw := xw_in (List.mem_of_getElem? (i := 941) (by decide +kernel)) rfl
set_option maxRecDepth 20000 in
theorem mq_942 : Cond.code yX7_transmissions cX7_transmissions 2 (some .int) ∈ xw := xw_in (List.mem_of_getElem? (i := 942) (by decide +kernel)) rfl
set_option maxRecDepth 20000 in
theorem mq_943 : Cond.methodLink RL 113 yX7_entry ∈ xw := xw_in (List.mem_of_getElem? (i := 943) (by decide +kernel)) rfl
set_option maxRecDepth 20000 in
theorem mq_944 : Cond.instanceMethod yX7_entry ∈ xw := xw_in (List.mem_of_getElem? (i := 944) (by decide +kernel)) rfl
set_option maxRecDepth 20000 in
theorem mq_945 : Cond.selects RX7 yX7_entry yX7_entry ∈ xw := xw_in (List.mem_of_getElem? (i := 945) (by decide +kernel)) rfl
set_option maxRecDepth 20000 in
theorem mq_946 : Cond.code yX7_entry cX7_entry 3 (some .int) ∈ xw := xw_in (List.mem_of_getElem? (i := 946) (by decide +kernel)) rfl
set_option maxRecDepth 20000 in
theorem mq_947 : Cond.methodLink RL 117 yX7_count ∈ xw := xw_in (List.mem_of_getElem? (i := 947) (by decide +kernel)) rfl
set_option maxRecDepth 20000 in
theorem mq_948 : Cond.instanceMethod yX7_count ∈ xw := xw_in (List.mem_of_getElem? (i := 948) (by decide +kernel)) rfl
set_option maxRecDepth 20000 in
theorem mq_949 : Cond.selects RX7 yX7_count yX7_count ∈ xw := xw_in (List.mem_of_getElem? (i := 949) (by decide +kernel)) rfl
set_option maxRecDepth 20000 in
theorem mq_950 : Cond.code yX7_count cX7_count 2 (some .int) ∈ xw := xw_in (List.mem_of_getElem? (i := 950) (by decide +kernel)) rfl
set_option maxRecDepth 20000 in
theorem mq_951 : Cond.methodLink RL 121 yX7_save ∈ xw := xw_in (List.mem_of_getElem? (i := 951) (by decide +kernel)) rfl
set_option maxRecDepth 20000 in
theorem mq_952 : Cond.instanceMethod yX7_save ∈ xw := xw_in (List.mem_of_getElem? (i := 952) (by decide +kernel)) rfl
set_option maxRecDepth 20000 in
theorem mq_953 : Cond.selects RX7 yX7_save yX7_save ∈ xw := xw_in (List.mem_of_getElem? (i := 953) (by decide +kernel)) rfl
set_option maxRecDepth 20000 in
theorem mq_954 : Cond.code yX7_save cX7_save 3 (some .int) ∈ xw := xw_in (List.mem_of_getElem? (i := 954) (by decide +kernel)) rfl
set_option maxRecDepth 20000 in
theorem mq_955 : Cond.methodLink RL 125 yX7_restore ∈ xw := xw_in (List.mem_of_getElem? (i := 955) (by decide +kernel)) rfl
set_option maxRecDepth 20000 in
theorem mq_956 : Cond.instanceMethod yX7_restore ∈ xw := xw_in (List.mem_of_getElem? (i := 956) (by decide +kernel)) rfl
set_option maxRecDepth 20000 in
theorem mq_957 : Cond.selects RX7 yX7_restore yX7_restore ∈ xw := xw_in (List.mem_of_getElem? (i := 957) (by decide +kernel)) rfl
set_option maxRecDepth 20000 in
theorem mq_958 : Cond.code yX7_restore cX7_restore 3 (some .int) ∈ xw := xw_in (List.mem_of_getElem? (i := 958) (by decide +kernel)) rfl
set_option maxRecDepth 20000 in
theorem inX0 : ∀ w ∈ wsX00, w ∈ xw := by
  intro w hw
  obtain ⟨k, hk, rfl⟩ := List.mem_map.mp hw
  have hk := List.mem_range.mp hk
  have hg : ∀ k, k < 7 → u_lay RX0 TX0 k ∈ xw := by
    intro k hk
    match k, hk with
    | 0, _ => exact xw_in (List.mem_of_getElem? (i := 197) (by decide +kernel)) rfl
    | 1, _ => exact xw_in (List.mem_of_getElem? (i := 199) (by decide +kernel)) rfl
    | 2, _ => exact xw_in (List.mem_of_getElem? (i := 201) (by decide +kernel)) rfl
    | 3, _ => exact xw_in (List.mem_of_getElem? (i := 203) (by decide +kernel)) rfl
    | 4, _ => exact xw_in (List.mem_of_getElem? (i := 205) (by decide +kernel)) rfl
    | 5, _ => exact xw_in (List.mem_of_getElem? (i := 207) (by decide +kernel)) rfl
    | 6, _ => exact xw_in (List.mem_of_getElem? (i := 209) (by decide +kernel)) rfl
    | k + 7, hk => exact absurd hk (by omega)
  exact hg k hk
set_option maxRecDepth 20000 in
theorem inX1 : ∀ w ∈ wsX10, w ∈ xw := by
  intro w hw
  obtain ⟨k, hk, rfl⟩ := List.mem_map.mp hw
  have hk := List.mem_range.mp hk
  have hg : ∀ k, k < 4 → u_lay RX1 TX1 k ∈ xw := by
    intro k hk
    match k, hk with
    | 0, _ => exact xw_in (List.mem_of_getElem? (i := 247) (by decide +kernel)) rfl
    | 1, _ => exact xw_in (List.mem_of_getElem? (i := 249) (by decide +kernel)) rfl
    | 2, _ => exact xw_in (List.mem_of_getElem? (i := 251) (by decide +kernel)) rfl
    | 3, _ => exact xw_in (List.mem_of_getElem? (i := 253) (by decide +kernel)) rfl
    | k + 4, hk => exact absurd hk (by omega)
  exact hg k hk
set_option maxRecDepth 20000 in
theorem inX3 : ∀ w ∈ wsX30, w ∈ xw := by
  intro w hw
  obtain ⟨k, hk, rfl⟩ := List.mem_map.mp hw
  have hk := List.mem_range.mp hk
  have hg : ∀ k, k < 19 → u_lay RX3 TX3 k ∈ xw := by
    intro k hk
    match k, hk with
    | 0, _ => exact xw_in (List.mem_of_getElem? (i := 137) (by decide +kernel)) rfl
    | 1, _ => exact xw_in (List.mem_of_getElem? (i := 139) (by decide +kernel)) rfl
    | 2, _ => exact xw_in (List.mem_of_getElem? (i := 141) (by decide +kernel)) rfl
    | 3, _ => exact xw_in (List.mem_of_getElem? (i := 143) (by decide +kernel)) rfl
    | 4, _ => exact xw_in (List.mem_of_getElem? (i := 145) (by decide +kernel)) rfl
    | 5, _ => exact xw_in (List.mem_of_getElem? (i := 147) (by decide +kernel)) rfl
    | 6, _ => exact xw_in (List.mem_of_getElem? (i := 149) (by decide +kernel)) rfl
    | 7, _ => exact xw_in (List.mem_of_getElem? (i := 151) (by decide +kernel)) rfl
    | 8, _ => exact xw_in (List.mem_of_getElem? (i := 153) (by decide +kernel)) rfl
    | 9, _ => exact xw_in (List.mem_of_getElem? (i := 155) (by decide +kernel)) rfl
    | 10, _ => exact xw_in (List.mem_of_getElem? (i := 157) (by decide +kernel)) rfl
    | 11, _ => exact xw_in (List.mem_of_getElem? (i := 159) (by decide +kernel)) rfl
    | 12, _ => exact xw_in (List.mem_of_getElem? (i := 161) (by decide +kernel)) rfl
    | 13, _ => exact xw_in (List.mem_of_getElem? (i := 163) (by decide +kernel)) rfl
    | 14, _ => exact xw_in (List.mem_of_getElem? (i := 165) (by decide +kernel)) rfl
    | 15, _ => exact xw_in (List.mem_of_getElem? (i := 167) (by decide +kernel)) rfl
    | 16, _ => exact xw_in (List.mem_of_getElem? (i := 169) (by decide +kernel)) rfl
    | 17, _ => exact xw_in (List.mem_of_getElem? (i := 171) (by decide +kernel)) rfl
    | 18, _ => exact xw_in (List.mem_of_getElem? (i := 173) (by decide +kernel)) rfl
    | k + 19, hk => exact absurd hk (by omega)
  exact hg k hk
set_option maxRecDepth 20000 in
theorem inX4 : ∀ w ∈ wsX40, w ∈ xw := by
  intro w hw
  obtain ⟨k, hk, rfl⟩ := List.mem_map.mp hw
  have hk := List.mem_range.mp hk
  have hg : ∀ k, k < 6 → u_lay RX4 TX4 k ∈ xw := by
    intro k hk
    match k, hk with
    | 0, _ => exact xw_in (List.mem_of_getElem? (i := 224) (by decide +kernel)) rfl
    | 1, _ => exact xw_in (List.mem_of_getElem? (i := 226) (by decide +kernel)) rfl
    | 2, _ => exact xw_in (List.mem_of_getElem? (i := 228) (by decide +kernel)) rfl
    | 3, _ => exact xw_in (List.mem_of_getElem? (i := 230) (by decide +kernel)) rfl
    | 4, _ => exact xw_in (List.mem_of_getElem? (i := 232) (by decide +kernel)) rfl
    | 5, _ => exact xw_in (List.mem_of_getElem? (i := 234) (by decide +kernel)) rfl
    | k + 6, hk => exact absurd hk (by omega)
  exact hg k hk
set_option maxRecDepth 20000 in
theorem inX5 : ∀ w ∈ wsX50, w ∈ xw := by
  intro w hw
  obtain ⟨k, hk, rfl⟩ := List.mem_map.mp hw
  have hk := List.mem_range.mp hk
  have hg : ∀ k, k < 2 → u_lay RX5 TX5 k ∈ xw := by
    intro k hk
    match k, hk with
    | 0, _ => exact xw_in (List.mem_of_getElem? (i := 264) (by decide +kernel)) rfl
    | 1, _ => exact xw_in (List.mem_of_getElem? (i := 266) (by decide +kernel)) rfl
    | k + 2, hk => exact absurd hk (by omega)
  exact hg k hk
set_option maxRecDepth 20000 in
theorem inX6 : ∀ w ∈ wsX60, w ∈ xw := by
  intro w hw
  obtain ⟨k, hk, rfl⟩ := List.mem_map.mp hw
  have hk := List.mem_range.mp hk
  have hg : ∀ k, k < 6 → u_lay RX6 TX6 k ∈ xw := by
    intro k hk
    match k, hk with
    | 0, _ => exact xw_in (List.mem_of_getElem? (i := 276) (by decide +kernel)) rfl
    | 1, _ => exact xw_in (List.mem_of_getElem? (i := 278) (by decide +kernel)) rfl
    | 2, _ => exact xw_in (List.mem_of_getElem? (i := 280) (by decide +kernel)) rfl
    | 3, _ => exact xw_in (List.mem_of_getElem? (i := 282) (by decide +kernel)) rfl
    | 4, _ => exact xw_in (List.mem_of_getElem? (i := 284) (by decide +kernel)) rfl
    | 5, _ => exact xw_in (List.mem_of_getElem? (i := 286) (by decide +kernel)) rfl
    | k + 6, hk => exact absurd hk (by omega)
  exact hg k hk
set_option maxRecDepth 20000 in
theorem inX7 : ∀ w ∈ wsX70, w ∈ xw := by
  intro w hw
  obtain ⟨k, hk, rfl⟩ := List.mem_map.mp hw
  have hk := List.mem_range.mp hk
  have hg : ∀ k, k < 16 → u_lay RX7 TX7 k ∈ xw := by
    intro k hk
    match k, hk with
    | 0, _ => exact xw_in (List.mem_of_getElem? (i := 684) (by decide +kernel)) rfl
    | 1, _ => exact xw_in (List.mem_of_getElem? (i := 686) (by decide +kernel)) rfl
    | 2, _ => exact xw_in (List.mem_of_getElem? (i := 688) (by decide +kernel)) rfl
    | 3, _ => exact xw_in (List.mem_of_getElem? (i := 690) (by decide +kernel)) rfl
    | 4, _ => exact xw_in (List.mem_of_getElem? (i := 692) (by decide +kernel)) rfl
    | 5, _ => exact xw_in (List.mem_of_getElem? (i := 694) (by decide +kernel)) rfl
    | 6, _ => exact xw_in (List.mem_of_getElem? (i := 696) (by decide +kernel)) rfl
    | 7, _ => exact xw_in (List.mem_of_getElem? (i := 698) (by decide +kernel)) rfl
    | 8, _ => exact xw_in (List.mem_of_getElem? (i := 700) (by decide +kernel)) rfl
    | 9, _ => exact xw_in (List.mem_of_getElem? (i := 702) (by decide +kernel)) rfl
    | 10, _ => exact xw_in (List.mem_of_getElem? (i := 704) (by decide +kernel)) rfl
    | 11, _ => exact xw_in (List.mem_of_getElem? (i := 706) (by decide +kernel)) rfl
    | 12, _ => exact xw_in (List.mem_of_getElem? (i := 708) (by decide +kernel)) rfl
    | 13, _ => exact xw_in (List.mem_of_getElem? (i := 710) (by decide +kernel)) rfl
    | 14, _ => exact xw_in (List.mem_of_getElem? (i := 712) (by decide +kernel)) rfl
    | 15, _ => exact xw_in (List.mem_of_getElem? (i := 714) (by decide +kernel)) rfl
    | k + 16, hk => exact absurd hk (by omega)
  exact hg k hk
