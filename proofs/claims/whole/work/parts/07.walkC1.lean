set_option maxRecDepth 20000 in
set_option maxHeartbeats 1000000 in
theorem tX3_isBridgeUp {l : Launch} {Y : xY} {ad : Nat → Nat} {fr : va_W} {M : xM} {p1 : Int32} {z0 : Int32} (hf : fX3_isBridgeUp M p1 = some z0) : xcI l Y (wC Y ad fr) yX3_isBridgeUp cX3_isBridgeUp 2 (some .boolean) 0 0 [.ref (ad 0), .int p1] M z0 M := by
  refine x_entryI [(0, .ref (ad 0)), (1, .int p1)] pnX3 rfl (Nat.le_of_ble_eq_true rfl) rfl (fun X C HQ => ?_)
  unfold fX3_isBridgeUp at hf
  refine x_alN 1 C dX3_isBridgeUp_0 0 rfl rfl rfl ?_
  refine xgX3_6 4 C mq_102 dX3_isBridgeUp_1 rfl ?_
  refine x_ilN 5 C dX3_isBridgeUp_4 1 rfl rfl rfl ?_
  refine xrC_2 6 C dX3_isBridgeUp_5 rfl hf (fun x1 hf => ?_)
  refine x_iconst 7 C (nI 1) dX3_isBridgeUp_6 ki_1 rfl ?_
  refine x_icmp_ne 10 C 14 dX3_isBridgeUp_7 (by decide) rfl hf (fun hf => ?_) (fun hf => ?_)
  ·
    refine x_iconst 15 C (nI 0) dX3_isBridgeUp_14 ki_0 rfl ?_
    exact x_iretP C HQ rfl rfl dX3_isBridgeUp_15 hf
  ·
    refine x_iconst 11 C (nI 1) dX3_isBridgeUp_10 ki_1 rfl ?_
    refine x_goto 15 C dX3_isBridgeUp_11 (by decide) ?_
    exact x_iretP C HQ rfl rfl dX3_isBridgeUp_15 hf
set_option maxRecDepth 20000 in
set_option maxHeartbeats 1000000 in
theorem tX3_isActive {l : Launch} {Y : xY} {ad : Nat → Nat} {fr : va_W} {M : xM} {p1 : Int32} {z0 : Int32} (hf : fX3_isActive M p1 = some z0) : xcI l Y (wC Y ad fr) yX3_isActive cX3_isActive 2 (some .boolean) 1 21 [.ref (ad 0), .int p1] M z0 M := by
  refine x_entryI [(0, .ref (ad 0)), (1, .int p1)] pnX3 rfl (Nat.le_of_ble_eq_true rfl) rfl (fun X C HQ => ?_)
  unfold fX3_isActive at hf
  refine x_alN 1 C dX3_isActive_0 0 rfl rfl rfl ?_
  refine xgX3_10 4 C mq_115 dX3_isActive_1 rfl ?_
  refine x_ilN 5 C dX3_isActive_4 1 rfl rfl rfl ?_
  refine xrC_6 6 C dX3_isActive_5 rfl hf (fun x1 hf => ?_)
  refine x_iconst 7 C (nI 1) dX3_isActive_6 ki_1 rfl ?_
  refine x_icmp_ne 10 C 27 dX3_isActive_7 (by decide) rfl hf (fun hf => ?_) (fun hf => ?_)
  ·
    refine x_iconst 28 C (nI 0) dX3_isActive_27 ki_0 rfl ?_
    exact x_iretP C HQ rfl rfl dX3_isActive_28 hf
  ·
    refine x_alN 11 C dX3_isActive_10 0 rfl rfl rfl ?_
    refine x_alN 12 C dX3_isActive_11 0 rfl rfl rfl ?_
    refine xgX3_7 15 C mq_103 dX3_isActive_12 rfl ?_
    refine x_ilN 16 C dX3_isActive_15 1 rfl rfl rfl ?_
    refine xrC_3 17 C dX3_isActive_16 rfl hf (fun x2 hf => ?_)
    refine x_cvIP 20 C [.int x2] hwX3_isBridgeUp mq_327 dX3_isActive_17 rfl ⟨Nat.le_of_ble_eq_true rfl, Nat.le_of_ble_eq_true rfl⟩ 0 wC_at_0 rfl rfl rfl (Nat.le_of_ble_eq_true rfl) (fun z hz => tX3_isBridgeUp hz) hf (fun z3 hf => ?_)
    refine x_if_eq 23 C 27 dX3_isActive_20 (by decide) rfl hf (fun hf => ?_) (fun hf => ?_)
    ·
      refine x_iconst 28 C (nI 0) dX3_isActive_27 ki_0 rfl ?_
      exact x_iretP C HQ rfl rfl dX3_isActive_28 hf
    ·
      refine x_iconst 24 C (nI 1) dX3_isActive_23 ki_1 rfl ?_
      refine x_goto 28 C dX3_isActive_24 (by decide) ?_
      exact x_iretP C HQ rfl rfl dX3_isActive_28 hf
set_option maxRecDepth 20000 in
set_option maxHeartbeats 1000000 in
theorem tX3_storesMessage {l : Launch} {Y : xY} {ad : Nat → Nat} {fr : va_W} {M : xM} {p1 : Int32} {z0 : Int32} (hf : fX3_storesMessage M p1 = some z0) : xcI l Y (wC Y ad fr) yX3_storesMessage cX3_storesMessage 2 (some .boolean) 0 0 [.ref (ad 0), .int p1] M z0 M := by
  refine x_entryI [(0, .ref (ad 0)), (1, .int p1)] pnX3 rfl (Nat.le_of_ble_eq_true rfl) rfl (fun X C HQ => ?_)
  unfold fX3_storesMessage at hf
  refine x_alN 1 C dX3_storesMessage_0 0 rfl rfl rfl ?_
  refine xgX3_14 4 C mq_126 dX3_storesMessage_1 rfl ?_
  refine x_ilN 5 C dX3_storesMessage_4 1 rfl rfl rfl ?_
  refine xrC_10 6 C dX3_storesMessage_5 rfl hf (fun x1 hf => ?_)
  refine x_if_le 9 C 13 dX3_storesMessage_6 (by decide) rfl hf (fun hf => ?_) (fun hf => ?_)
  ·
    refine x_iconst 14 C (nI 0) dX3_storesMessage_13 ki_0 rfl ?_
    exact x_iretP C HQ rfl rfl dX3_storesMessage_14 hf
  ·
    refine x_iconst 10 C (nI 1) dX3_storesMessage_9 ki_1 rfl ?_
    refine x_goto 14 C dX3_storesMessage_10 (by decide) ?_
    exact x_iretP C HQ rfl rfl dX3_storesMessage_14 hf
set_option maxRecDepth 20000 in
set_option maxHeartbeats 1000000 in
theorem tX2_senderOf {l : Launch} {Y : xY} {ad : Nat → Nat} {fr : va_W} {M : xM} {p1 : Int64} {z0 : Int32} (hf : fX2_senderOf M p1 = some z0) : xcI l Y (wC Y ad fr) yX2_senderOf cX2_senderOf 2 (some .int) 0 0 [.long p1] M z0 M := by
  refine x_entryI [(0, .long p1)] pnX2 rfl (Nat.le_of_ble_eq_true rfl) rfl (fun X C HQ => ?_)
  unfold fX2_senderOf at hf
  refine x_llN 1 C dX2_senderOf_0 0 rfl rfl rfl ?_
  refine x_bipush 3 C (nI 8) dX2_senderOf_1 kb_8 rfl ?_
  refine x_lshr 4 C dX2_senderOf_3 rfl ?_
  refine x_ldc2 7 C dX2_senderOf_4 mq_415 rfl ?_
  refine x_land 8 C dX2_senderOf_7 rfl ?_
  refine x_l2i 9 C dX2_senderOf_8 rfl ?_
  exact x_iretP C HQ rfl (vp_nar_int _) dX2_senderOf_9 hf
set_option maxRecDepth 20000 in
set_option maxHeartbeats 1000000 in
theorem tX3_identifierOf {l : Launch} {Y : xY} {ad : Nat → Nat} {fr : va_W} {M : xM} {p1 : Int32} {z0 : Int32} (hf : fX3_identifierOf M p1 = some z0) : xcI l Y (wC Y ad fr) yX3_identifierOf cX3_identifierOf 2 (some .int) 0 0 [.ref (ad 0), .int p1] M z0 M := by
  refine x_entryI [(0, .ref (ad 0)), (1, .int p1)] pnX3 rfl (Nat.le_of_ble_eq_true rfl) rfl (fun X C HQ => ?_)
  unfold fX3_identifierOf at hf
  refine x_bipush 2 C (nI 16) dX3_identifierOf_0 kb_16 rfl ?_
  refine x_alN 3 C dX3_identifierOf_2 0 rfl rfl rfl ?_
  refine xgX3_5 6 C mq_100 dX3_identifierOf_3 rfl ?_
  refine x_ilN 7 C dX3_identifierOf_6 1 rfl rfl rfl ?_
  refine xrC_1 8 C dX3_identifierOf_7 rfl hf (fun x1 hf => ?_)
  refine x_imul 9 C dX3_identifierOf_8 rfl ?_
  refine x_ilN 10 C dX3_identifierOf_9 1 rfl rfl rfl ?_
  refine x_iadd 11 C dX3_identifierOf_10 rfl ?_
  exact x_iretP C HQ rfl (vp_nar_int _) dX3_identifierOf_11 hf
set_option maxRecDepth 20000 in
set_option maxHeartbeats 1000000 in
theorem tX2_withCostAdded {l : Launch} {Y : xY} {ad : Nat → Nat} {fr : va_W} {M : xM} {p1 : Int64} {p2 : Int32} {z0 : Int64} (hf : fX2_withCostAdded M p1 p2 = some z0) : xcL l Y (wC Y ad fr) yX2_withCostAdded cX2_withCostAdded 3 (some .long) 0 0 [.long p1, .int p2] M z0 M := by
  refine x_entryL [(0, .long p1), (2, .int p2)] pnX2 rfl (Nat.le_of_ble_eq_true rfl) rfl (fun X C HQ => ?_)
  unfold fX2_withCostAdded at hf
  refine x_llN 1 C dX2_withCostAdded_0 0 rfl rfl rfl ?_
  refine x_ilN 2 C dX2_withCostAdded_1 1 rfl rfl rfl ?_
  refine x_i2l 3 C dX2_withCostAdded_2 rfl ?_
  refine x_bipush 5 C (nI 16) dX2_withCostAdded_3 kb_16 rfl ?_
  refine x_lshl 6 C dX2_withCostAdded_5 rfl ?_
  refine x_ladd 7 C dX2_withCostAdded_6 rfl ?_
  exact x_lretP C HQ rfl dX2_withCostAdded_7 hf
set_option maxRecDepth 20000 in
set_option maxHeartbeats 1000000 in
theorem tX2_rootOf {l : Launch} {Y : xY} {ad : Nat → Nat} {fr : va_W} {M : xM} {p1 : Int64} {z0 : Int32} (hf : fX2_rootOf M p1 = some z0) : xcI l Y (wC Y ad fr) yX2_rootOf cX2_rootOf 2 (some .int) 0 0 [.long p1] M z0 M := by
  refine x_entryI [(0, .long p1)] pnX2 rfl (Nat.le_of_ble_eq_true rfl) rfl (fun X C HQ => ?_)
  unfold fX2_rootOf at hf
  refine x_llN 1 C dX2_rootOf_0 0 rfl rfl rfl ?_
  refine x_bipush 3 C (nI 40) dX2_rootOf_1 kb_40 rfl ?_
  refine x_lshr 4 C dX2_rootOf_3 rfl ?_
  refine x_l2i 5 C dX2_rootOf_4 rfl ?_
  exact x_iretP C HQ rfl (vp_nar_int _) dX2_rootOf_5 hf
set_option maxRecDepth 20000 in
set_option maxHeartbeats 1000000 in
theorem tX2_costOf {l : Launch} {Y : xY} {ad : Nat → Nat} {fr : va_W} {M : xM} {p1 : Int64} {z0 : Int32} (hf : fX2_costOf M p1 = some z0) : xcI l Y (wC Y ad fr) yX2_costOf cX2_costOf 2 (some .int) 0 0 [.long p1] M z0 M := by
  refine x_entryI [(0, .long p1)] pnX2 rfl (Nat.le_of_ble_eq_true rfl) rfl (fun X C HQ => ?_)
  unfold fX2_costOf at hf
  refine x_llN 1 C dX2_costOf_0 0 rfl rfl rfl ?_
  refine x_bipush 3 C (nI 16) dX2_costOf_1 kb_16 rfl ?_
  refine x_lshr 4 C dX2_costOf_3 rfl ?_
  refine x_ldc2 7 C dX2_costOf_4 mq_437 rfl ?_
  refine x_land 8 C dX2_costOf_7 rfl ?_
  refine x_l2i 9 C dX2_costOf_8 rfl ?_
  exact x_iretP C HQ rfl (vp_nar_int _) dX2_costOf_9 hf
set_option maxRecDepth 20000 in
set_option maxHeartbeats 1000000 in
theorem tX2_of {l : Launch} {Y : xY} {ad : Nat → Nat} {fr : va_W} {M : xM} {p1 : Int32} {p2 : Int32} {p3 : Int32} {p4 : Int32} {z0 : Int64} (hf : fX2_of M p1 p2 p3 p4 = some z0) : xcL l Y (wC Y ad fr) yX2_of cX2_of 4 (some .long) 0 0 [.int p1, .int p2, .int p3, .int p4] M z0 M := by
  refine x_entryL [(0, .int p1), (1, .int p2), (2, .int p3), (3, .int p4)] pnX2 rfl (Nat.le_of_ble_eq_true rfl) rfl (fun X C HQ => ?_)
  unfold fX2_of at hf
  refine x_ilN 1 C dX2_of_0 0 rfl rfl rfl ?_
  refine x_i2l 2 C dX2_of_1 rfl ?_
  refine x_bipush 4 C (nI 40) dX2_of_2 kb_40 rfl ?_
  refine x_lshl 5 C dX2_of_4 rfl ?_
  refine x_ilN 6 C dX2_of_5 1 rfl rfl rfl ?_
  refine x_i2l 7 C dX2_of_6 rfl ?_
  refine x_bipush 9 C (nI 16) dX2_of_7 kb_16 rfl ?_
  refine x_lshl 10 C dX2_of_9 rfl ?_
  refine x_lor 11 C dX2_of_10 rfl ?_
  refine x_ilN 12 C dX2_of_11 2 rfl rfl rfl ?_
  refine x_i2l 13 C dX2_of_12 rfl ?_
  refine x_bipush 15 C (nI 8) dX2_of_13 kb_8 rfl ?_
  refine x_lshl 16 C dX2_of_15 rfl ?_
  refine x_lor 17 C dX2_of_16 rfl ?_
  refine x_ilN 18 C dX2_of_17 3 rfl rfl rfl ?_
  refine x_i2l 19 C dX2_of_18 rfl ?_
  refine x_lor 20 C dX2_of_19 rfl ?_
  exact x_lretP C HQ rfl dX2_of_20 hf
set_option maxRecDepth 20000 in
set_option maxHeartbeats 1000000 in
theorem tX3_entryIndex {l : Launch} {Y : xY} {ad : Nat → Nat} {fr : va_W} {M : xM} {p1 : Int32} {p2 : Int32} {z0 : Int32} (hf : fX3_entryIndex M p1 p2 = some z0) : xcI l Y (wC Y ad fr) yX3_entryIndex cX3_entryIndex 2 (some .int) 0 0 [.int p1, .int p2] M z0 M := by
  refine x_entryI [(0, .int p1), (1, .int p2)] pnX3 rfl (Nat.le_of_ble_eq_true rfl) rfl (fun X C HQ => ?_)
  unfold fX3_entryIndex at hf
  refine x_ilN 1 C dX3_entryIndex_0 0 rfl rfl rfl ?_
  refine x_bipush 3 C (nI 8) dX3_entryIndex_1 kb_8 rfl ?_
  refine x_imul 4 C dX3_entryIndex_3 rfl ?_
  refine x_ilN 5 C dX3_entryIndex_4 1 rfl rfl rfl ?_
  refine x_iadd 6 C dX3_entryIndex_5 rfl ?_
  exact x_iretP C HQ rfl (vp_nar_int _) dX3_entryIndex_6 hf
set_option maxRecDepth 20000 in
set_option maxHeartbeats 1000000 in
theorem tX3_learn {l : Launch} {Y : xY} {ad : Nat → Nat} {fr : va_W} {M : xM} {p1 : Int32} {p2 : Int32} {z0 : xM} (hf : fX3_learn M p1 p2 = some z0) : xcV l Y (wC Y ad fr) yX3_learn cX3_learn 4 none 1 21 [.ref (ad 0), .int p1, .int p2] M z0 := by
  refine x_entryV [(0, .ref (ad 0)), (1, .int p1), (2, .int p2)] pnX3 rfl (Nat.le_of_ble_eq_true rfl) rfl (fun X C HQ => ?_)
  unfold fX3_learn at hf
  refine x_alN 1 C dX3_learn_0 0 rfl rfl rfl ?_
  refine xgX3_7 4 C mq_103 dX3_learn_1 rfl ?_
  refine x_ilN 5 C dX3_learn_4 2 rfl rfl rfl ?_
  refine xrC_3 6 C dX3_learn_5 rfl hf (fun x1 hf => ?_)
  refine x_ilN 7 C dX3_learn_6 1 rfl rfl rfl ?_
  refine x_csIP 10 C [.int x1, .int p1] hwX3_entryIndex mq_609 dX3_learn_7 rfl ⟨Nat.le_of_ble_eq_true rfl, Nat.le_of_ble_eq_true rfl⟩ rfl rfl (Nat.le_of_ble_eq_true rfl) (fun z hz => tX3_entryIndex hz) hf (fun z2 hf => ?_)
  refine x_isN 11 C 3 (lv2 := [(3, .int z2), (0, .ref (ad 0)), (1, .int p1), (2, .int p2)]) dX3_learn_10 rfl rfl (Nat.le_of_ble_eq_true rfl) rfl ?_
  refine x_alN 12 C dX3_learn_11 1 rfl rfl rfl ?_
  refine xgX3_16 15 C mq_132 dX3_learn_12 rfl ?_
  refine x_ilN 16 C dX3_learn_15 0 rfl rfl rfl ?_
  refine x_ilN 17 C dX3_learn_16 3 rfl rfl rfl ?_
  refine xwC_12 18 C dX3_learn_17 rfl hf (fun M3 hf => ?_)
  refine x_alN 19 C dX3_learn_18 1 rfl rfl rfl ?_
  refine xgX3_17 22 C mq_133 dX3_learn_19 rfl ?_
  refine x_ilN 23 C dX3_learn_22 0 rfl rfl rfl ?_
  refine x_bipush 25 C (nI 10) dX3_learn_23 kb_10 rfl ?_
  refine xwC_13 26 C dX3_learn_25 rfl hf (fun M4 hf => ?_)
  exact x_vret C HQ rfl dX3_learn_26 hf
set_option maxRecDepth 20000 in
set_option maxHeartbeats 1000000 in
theorem tX3_learnedPort {l : Launch} {Y : xY} {ad : Nat → Nat} {fr : va_W} {M : xM} {p1 : Int32} {p2 : Int32} {z0 : Int32} (hf : fX3_learnedPort M p1 p2 = some z0) : xcI l Y (wC Y ad fr) yX3_learnedPort cX3_learnedPort 4 (some .int) 1 21 [.ref (ad 0), .int p1, .int p2] M z0 M := by
  refine x_entryI [(0, .ref (ad 0)), (1, .int p1), (2, .int p2)] pnX3 rfl (Nat.le_of_ble_eq_true rfl) rfl (fun X C HQ => ?_)
  unfold fX3_learnedPort at hf
  refine x_ilN 1 C dX3_learnedPort_0 1 rfl rfl rfl ?_
  refine x_ilN 2 C dX3_learnedPort_1 2 rfl rfl rfl ?_
  refine x_csIP 5 C [.int p1, .int p2] hwX3_entryIndex mq_609 dX3_learnedPort_2 rfl ⟨Nat.le_of_ble_eq_true rfl, Nat.le_of_ble_eq_true rfl⟩ rfl rfl (Nat.le_of_ble_eq_true rfl) (fun z hz => tX3_entryIndex hz) hf (fun z1 hf => ?_)
  refine x_isN 6 C 3 (lv2 := [(3, .int z1), (0, .ref (ad 0)), (1, .int p1), (2, .int p2)]) dX3_learnedPort_5 rfl rfl (Nat.le_of_ble_eq_true rfl) rfl ?_
  refine x_alN 7 C dX3_learnedPort_6 1 rfl rfl rfl ?_
  refine xgX3_17 10 C mq_133 dX3_learnedPort_7 rfl ?_
  refine x_ilN 11 C dX3_learnedPort_10 0 rfl rfl rfl ?_
  refine xrC_13 12 C dX3_learnedPort_11 rfl hf (fun x2 hf => ?_)
  refine x_if_le 15 C 24 dX3_learnedPort_12 (by decide) rfl hf (fun hf => ?_) (fun hf => ?_)
  ·
    refine x_iconst 25 C (-1) dX3_learnedPort_24 ki_m1 rfl ?_
    exact x_iretP C HQ rfl (vp_nar_int _) dX3_learnedPort_25 hf
  ·
    refine x_alN 16 C dX3_learnedPort_15 1 rfl rfl rfl ?_
    refine xgX3_16 19 C mq_132 dX3_learnedPort_16 rfl ?_
    refine x_ilN 20 C dX3_learnedPort_19 0 rfl rfl rfl ?_
    refine xrC_12 21 C dX3_learnedPort_20 rfl hf (fun x3 hf => ?_)
    refine x_goto 25 C dX3_learnedPort_21 (by decide) ?_
    exact x_iretP C HQ rfl (vp_nar_int _) dX3_learnedPort_25 hf
set_option maxRecDepth 20000 in
set_option maxHeartbeats 1000000 in
theorem tX3_isForwarding {l : Launch} {Y : xY} {ad : Nat → Nat} {fr : va_W} {M : xM} {p1 : Int32} {z0 : Int32} (hf : fX3_isForwarding M p1 = some z0) : xcI l Y (wC Y ad fr) yX3_isForwarding cX3_isForwarding 2 (some .boolean) 0 0 [.ref (ad 0), .int p1] M z0 M := by
  refine x_entryI [(0, .ref (ad 0)), (1, .int p1)] pnX3 rfl (Nat.le_of_ble_eq_true rfl) rfl (fun X C HQ => ?_)
  unfold fX3_isForwarding at hf
  refine x_alN 1 C dX3_isForwarding_0 0 rfl rfl rfl ?_
  refine xgX3_11 4 C mq_116 dX3_isForwarding_1 rfl ?_
  refine x_ilN 5 C dX3_isForwarding_4 1 rfl rfl rfl ?_
  refine xrC_7 6 C dX3_isForwarding_5 rfl hf (fun x1 hf => ?_)
  refine x_iconst 7 C (nI 4) dX3_isForwarding_6 ki_4 rfl ?_
  refine x_icmp_ne 10 C 14 dX3_isForwarding_7 (by decide) rfl hf (fun hf => ?_) (fun hf => ?_)
  ·
    refine x_iconst 15 C (nI 0) dX3_isForwarding_14 ki_0 rfl ?_
    exact x_iretP C HQ rfl rfl dX3_isForwarding_15 hf
  ·
    refine x_iconst 11 C (nI 1) dX3_isForwarding_10 ki_1 rfl ?_
    refine x_goto 15 C dX3_isForwarding_11 (by decide) ?_
    exact x_iretP C HQ rfl rfl dX3_isForwarding_15 hf
set_option maxRecDepth 20000 in
set_option maxHeartbeats 1000000 in
theorem tX2_senderPortOf {l : Launch} {Y : xY} {ad : Nat → Nat} {fr : va_W} {M : xM} {p1 : Int64} {z0 : Int32} (hf : fX2_senderPortOf M p1 = some z0) : xcI l Y (wC Y ad fr) yX2_senderPortOf cX2_senderPortOf 2 (some .int) 0 0 [.long p1] M z0 M := by
  refine x_entryI [(0, .long p1)] pnX2 rfl (Nat.le_of_ble_eq_true rfl) rfl (fun X C HQ => ?_)
  unfold fX2_senderPortOf at hf
  refine x_llN 1 C dX2_senderPortOf_0 0 rfl rfl rfl ?_
  refine x_ldc2 4 C dX2_senderPortOf_1 mq_415 rfl ?_
  refine x_land 5 C dX2_senderPortOf_4 rfl ?_
  refine x_l2i 6 C dX2_senderPortOf_5 rfl ?_
  exact x_iretP C HQ rfl (vp_nar_int _) dX2_senderPortOf_6 hf
set_option maxRecDepth 20000 in
set_option maxHeartbeats 1000000 in
theorem tX2_haveSameSource {l : Launch} {Y : xY} {ad : Nat → Nat} {fr : va_W} {M : xM} {p1 : Int64} {p2 : Int64} {z0 : Int32} (hf : fX2_haveSameSource M p1 p2 = some z0) : xcI l Y (wC Y ad fr) yX2_haveSameSource cX2_haveSameSource 4 (some .boolean) 0 0 [.long p1, .long p2] M z0 M := by
  refine x_entryI [(0, .long p1), (2, .long p2)] pnX2 rfl (Nat.le_of_ble_eq_true rfl) rfl (fun X C HQ => ?_)
  unfold fX2_haveSameSource at hf
  refine x_llN 1 C dX2_haveSameSource_0 0 rfl rfl rfl ?_
  refine x_ldc2 4 C dX2_haveSameSource_1 mq_483 rfl ?_
  refine x_land 5 C dX2_haveSameSource_4 rfl ?_
  refine x_llN 6 C dX2_haveSameSource_5 1 rfl rfl rfl ?_
  refine x_ldc2 9 C dX2_haveSameSource_6 mq_483 rfl ?_
  refine x_land 10 C dX2_haveSameSource_9 rfl ?_
  refine x_lcmp 11 C dX2_haveSameSource_10 rfl ?_
  refine x_if_ne 14 C 18 dX2_haveSameSource_11 (by decide) rfl hf (fun hf => ?_) (fun hf => ?_)
  ·
    refine x_iconst 19 C (nI 0) dX2_haveSameSource_18 ki_0 rfl ?_
    exact x_iretP C HQ rfl rfl dX2_haveSameSource_19 hf
  ·
    refine x_iconst 15 C (nI 1) dX2_haveSameSource_14 ki_1 rfl ?_
    refine x_goto 19 C dX2_haveSameSource_15 (by decide) ?_
    exact x_iretP C HQ rfl rfl dX2_haveSameSource_19 hf
set_option maxRecDepth 20000 in
set_option maxHeartbeats 1000000 in
theorem tX3_hasBridge {l : Launch} {Y : xY} {ad : Nat → Nat} {fr : va_W} {M : xM} {p1 : Int32} {z0 : Int32} (hf : fX3_hasBridge M p1 = some z0) : xcI l Y (wC Y ad fr) yX3_hasBridge cX3_hasBridge 2 (some .boolean) 0 0 [.ref (ad 0), .int p1] M z0 M := by
  refine x_entryI [(0, .ref (ad 0)), (1, .int p1)] pnX3 rfl (Nat.le_of_ble_eq_true rfl) rfl (fun X C HQ => ?_)
  unfold fX3_hasBridge at hf
  refine x_ilN 1 C dX3_hasBridge_0 1 rfl rfl rfl ?_
  refine x_if_lt 4 C 16 dX3_hasBridge_1 (by decide) rfl hf (fun hf => ?_) (fun hf => ?_)
  ·
    refine x_iconst 17 C (nI 0) dX3_hasBridge_16 ki_0 rfl ?_
    exact x_iretP C HQ rfl rfl dX3_hasBridge_17 hf
  ·
    refine x_ilN 5 C dX3_hasBridge_4 1 rfl rfl rfl ?_
    refine x_alN 6 C dX3_hasBridge_5 0 rfl rfl rfl ?_
    refine xgX3_0 9 C mq_81 dX3_hasBridge_6 rfl ?_
    refine x_icmp_ge 12 C 16 dX3_hasBridge_9 (by decide) rfl hf (fun hf => ?_) (fun hf => ?_)
    ·
      refine x_iconst 17 C (nI 0) dX3_hasBridge_16 ki_0 rfl ?_
      exact x_iretP C HQ rfl rfl dX3_hasBridge_17 hf
    ·
      refine x_iconst 13 C (nI 1) dX3_hasBridge_12 ki_1 rfl ?_
      refine x_goto 17 C dX3_hasBridge_13 (by decide) ?_
      exact x_iretP C HQ rfl rfl dX3_hasBridge_17 hf
set_option maxRecDepth 20000 in
set_option maxHeartbeats 1000000 in
theorem tX3_hasSegment {l : Launch} {Y : xY} {ad : Nat → Nat} {fr : va_W} {M : xM} {p1 : Int32} {z0 : Int32} (hf : fX3_hasSegment M p1 = some z0) : xcI l Y (wC Y ad fr) yX3_hasSegment cX3_hasSegment 2 (some .boolean) 0 0 [.ref (ad 0), .int p1] M z0 M := by
  refine x_entryI [(0, .ref (ad 0)), (1, .int p1)] pnX3 rfl (Nat.le_of_ble_eq_true rfl) rfl (fun X C HQ => ?_)
  unfold fX3_hasSegment at hf
  refine x_ilN 1 C dX3_hasSegment_0 1 rfl rfl rfl ?_
  refine x_if_lt 4 C 16 dX3_hasSegment_1 (by decide) rfl hf (fun hf => ?_) (fun hf => ?_)
  ·
    refine x_iconst 17 C (nI 0) dX3_hasSegment_16 ki_0 rfl ?_
    exact x_iretP C HQ rfl rfl dX3_hasSegment_17 hf
  ·
    refine x_ilN 5 C dX3_hasSegment_4 1 rfl rfl rfl ?_
    refine x_alN 6 C dX3_hasSegment_5 0 rfl rfl rfl ?_
    refine xgX3_1 9 C mq_85 dX3_hasSegment_6 rfl ?_
    refine x_icmp_ge 12 C 16 dX3_hasSegment_9 (by decide) rfl hf (fun hf => ?_) (fun hf => ?_)
    ·
      refine x_iconst 17 C (nI 0) dX3_hasSegment_16 ki_0 rfl ?_
      exact x_iretP C HQ rfl rfl dX3_hasSegment_17 hf
    ·
      refine x_iconst 13 C (nI 1) dX3_hasSegment_12 ki_1 rfl ?_
      refine x_goto 17 C dX3_hasSegment_13 (by decide) ?_
      exact x_iretP C HQ rfl rfl dX3_hasSegment_17 hf
set_option maxRecDepth 20000 in
set_option maxHeartbeats 1000000 in
theorem tX3_hasPort {l : Launch} {Y : xY} {ad : Nat → Nat} {fr : va_W} {M : xM} {p1 : Int32} {z0 : Int32} (hf : fX3_hasPort M p1 = some z0) : xcI l Y (wC Y ad fr) yX3_hasPort cX3_hasPort 2 (some .boolean) 0 0 [.ref (ad 0), .int p1] M z0 M := by
  refine x_entryI [(0, .ref (ad 0)), (1, .int p1)] pnX3 rfl (Nat.le_of_ble_eq_true rfl) rfl (fun X C HQ => ?_)
  unfold fX3_hasPort at hf
  refine x_ilN 1 C dX3_hasPort_0 1 rfl rfl rfl ?_
  refine x_if_lt 4 C 16 dX3_hasPort_1 (by decide) rfl hf (fun hf => ?_) (fun hf => ?_)
  ·
    refine x_iconst 17 C (nI 0) dX3_hasPort_16 ki_0 rfl ?_
    exact x_iretP C HQ rfl rfl dX3_hasPort_17 hf
  ·
    refine x_ilN 5 C dX3_hasPort_4 1 rfl rfl rfl ?_
    refine x_alN 6 C dX3_hasPort_5 0 rfl rfl rfl ?_
    refine xgX3_2 9 C mq_90 dX3_hasPort_6 rfl ?_
    refine x_icmp_ge 12 C 16 dX3_hasPort_9 (by decide) rfl hf (fun hf => ?_) (fun hf => ?_)
    ·
      refine x_iconst 17 C (nI 0) dX3_hasPort_16 ki_0 rfl ?_
      exact x_iretP C HQ rfl rfl dX3_hasPort_17 hf
    ·
      refine x_iconst 13 C (nI 1) dX3_hasPort_12 ki_1 rfl ?_
      refine x_goto 17 C dX3_hasPort_13 (by decide) ?_
      exact x_iretP C HQ rfl rfl dX3_hasPort_17 hf
set_option maxRecDepth 20000 in
set_option maxHeartbeats 1000000 in
theorem tX3_hasStation {l : Launch} {Y : xY} {ad : Nat → Nat} {fr : va_W} {M : xM} {p1 : Int32} {z0 : Int32} (hf : fX3_hasStation M p1 = some z0) : xcI l Y (wC Y ad fr) yX3_hasStation cX3_hasStation 2 (some .boolean) 0 0 [.ref (ad 0), .int p1] M z0 M := by
  refine x_entryI [(0, .ref (ad 0)), (1, .int p1)] pnX3 rfl (Nat.le_of_ble_eq_true rfl) rfl (fun X C HQ => ?_)
  unfold fX3_hasStation at hf
  refine x_ilN 1 C dX3_hasStation_0 1 rfl rfl rfl ?_
  refine x_if_lt 4 C 16 dX3_hasStation_1 (by decide) rfl hf (fun hf => ?_) (fun hf => ?_)
  ·
    refine x_iconst 17 C (nI 0) dX3_hasStation_16 ki_0 rfl ?_
    exact x_iretP C HQ rfl rfl dX3_hasStation_17 hf
  ·
    refine x_ilN 5 C dX3_hasStation_4 1 rfl rfl rfl ?_
    refine x_alN 6 C dX3_hasStation_5 0 rfl rfl rfl ?_
    refine xgX3_3 9 C mq_95 dX3_hasStation_6 rfl ?_
    refine x_icmp_ge 12 C 16 dX3_hasStation_9 (by decide) rfl hf (fun hf => ?_) (fun hf => ?_)
    ·
      refine x_iconst 17 C (nI 0) dX3_hasStation_16 ki_0 rfl ?_
      exact x_iretP C HQ rfl rfl dX3_hasStation_17 hf
    ·
      refine x_iconst 13 C (nI 1) dX3_hasStation_12 ki_1 rfl ?_
      refine x_goto 17 C dX3_hasStation_13 (by decide) ?_
      exact x_iretP C HQ rfl rfl dX3_hasStation_17 hf
set_option maxRecDepth 20000 in
set_option maxHeartbeats 1000000 in
theorem tX3_appendBridge {l : Launch} {Y : xY} {ad : Nat → Nat} {fr : va_W} {M : xM} {p1 : Int32} {z0 : Int32 × xM} (hf : fX3_appendBridge M p1 = some z0) : xcI l Y (wC Y ad fr) yX3_appendBridge cX3_appendBridge 3 (some .int) 0 0 [.ref (ad 0), .int p1] M z0.1 z0.2 := by
  refine x_entryI [(0, .ref (ad 0)), (1, .int p1)] pnX3 rfl (Nat.le_of_ble_eq_true rfl) rfl (fun X C HQ => ?_)
  unfold fX3_appendBridge at hf
  refine x_alN 1 C dX3_appendBridge_0 0 rfl rfl rfl ?_
  refine xgX3_0 4 C mq_81 dX3_appendBridge_1 rfl ?_
  refine x_isN 5 C 2 (lv2 := [(2, .int (M.1 0 0)), (0, .ref (ad 0)), (1, .int p1)]) dX3_appendBridge_4 rfl rfl (Nat.le_of_ble_eq_true rfl) rfl ?_
  refine x_alN 6 C dX3_appendBridge_5 1 rfl rfl rfl ?_
  refine xgX3_5 9 C mq_100 dX3_appendBridge_6 rfl ?_
  refine x_ilN 10 C dX3_appendBridge_9 0 rfl rfl rfl ?_
  refine x_ilN 11 C dX3_appendBridge_10 2 rfl rfl rfl ?_
  refine xwC_1 12 C dX3_appendBridge_11 rfl hf (fun M1 hf => ?_)
  refine x_alN 13 C dX3_appendBridge_12 1 rfl rfl rfl ?_
  refine xgX3_6 16 C mq_102 dX3_appendBridge_13 rfl ?_
  refine x_ilN 17 C dX3_appendBridge_16 0 rfl rfl rfl ?_
  refine x_iconst 18 C (nI 1) dX3_appendBridge_17 ki_1 rfl ?_
  refine xwC_2 19 C dX3_appendBridge_18 rfl hf (fun M2 hf => ?_)
  refine x_alN 20 C dX3_appendBridge_19 1 rfl rfl rfl ?_
  refine x_dup 21 C dX3_appendBridge_20 rfl rfl ?_
  refine xgX3_0 24 C mq_81 dX3_appendBridge_21 rfl ?_
  refine x_iconst 25 C (nI 1) dX3_appendBridge_24 ki_1 rfl ?_
  refine x_iadd 26 C dX3_appendBridge_25 rfl ?_
  refine xpX3_0 29 C mq_81 dX3_appendBridge_26 rfl hf (fun M3 hf => ?_)
  refine x_ilN 30 C dX3_appendBridge_29 0 rfl rfl rfl ?_
  exact x_iretM C HQ rfl (vp_nar_int _) dX3_appendBridge_30 hf
set_option maxRecDepth 20000 in
set_option maxHeartbeats 1000000 in
theorem tX3_appendSegment {l : Launch} {Y : xY} {ad : Nat → Nat} {fr : va_W} {M : xM}  {z0 : Int32 × xM} (hf : fX3_appendSegment M = some z0) : xcI l Y (wC Y ad fr) yX3_appendSegment cX3_appendSegment 2 (some .int) 0 0 [.ref (ad 0)] M z0.1 z0.2 := by
  refine x_entryI [(0, .ref (ad 0))] pnX3 rfl (Nat.le_of_ble_eq_true rfl) rfl (fun X C HQ => ?_)
  unfold fX3_appendSegment at hf
  refine x_alN 1 C dX3_appendSegment_0 0 rfl rfl rfl ?_
  refine xgX3_1 4 C mq_85 dX3_appendSegment_1 rfl ?_
  refine x_isN 5 C 1 (lv2 := [(1, .int (M.1 0 1)), (0, .ref (ad 0))]) dX3_appendSegment_4 rfl rfl (Nat.le_of_ble_eq_true rfl) rfl ?_
  refine x_alN 6 C dX3_appendSegment_5 1 rfl rfl rfl ?_
  refine x_dup 7 C dX3_appendSegment_6 rfl rfl ?_
  refine xgX3_1 10 C mq_85 dX3_appendSegment_7 rfl ?_
  refine x_iconst 11 C (nI 1) dX3_appendSegment_10 ki_1 rfl ?_
  refine x_iadd 12 C dX3_appendSegment_11 rfl ?_
  refine xpX3_1 15 C mq_85 dX3_appendSegment_12 rfl hf (fun M1 hf => ?_)
  refine x_ilN 16 C dX3_appendSegment_15 0 rfl rfl rfl ?_
  exact x_iretM C HQ rfl (vp_nar_int _) dX3_appendSegment_16 hf
set_option maxRecDepth 20000 in
set_option maxHeartbeats 1000000 in
theorem tX3_appendPort_j57 {l : Launch} {Y : xY} {X : xE} {ad : Nat → Nat} {fr : va_W} {z0 : Int32 × xM} (C : xC Y X cX3_appendPort RX3 (some .int) 5 1 21) (HQ : xRI Y X (wC Y ad fr) z0.1 z0.2) (M : xM) (v4 : Int32) (s0 : Int32) (s1 : Int32)  (hf : fX3_appendPort_j57 M v4 s0 s1 = some z0) : xG Y l X (wC Y ad fr) M 57 [(0, .ref (ad 0)), (4, .int v4)] [.int s0, .int s1, .ref (ad 7)] := by
  unfold fX3_appendPort_j57 at hf
  refine xwC_7 58 C dX3_appendPort_57 rfl hf (fun M6 hf => ?_)
  refine x_alN 59 C dX3_appendPort_58 0 rfl rfl rfl ?_
  refine x_dup 60 C dX3_appendPort_59 rfl rfl ?_
  refine xgX3_2 63 C mq_90 dX3_appendPort_60 rfl ?_
  refine x_iconst 64 C (nI 1) dX3_appendPort_63 ki_1 rfl ?_
  refine x_iadd 65 C dX3_appendPort_64 rfl ?_
  refine xpX3_2 68 C mq_90 dX3_appendPort_65 rfl hf (fun M7 hf => ?_)
  refine x_il 70 C dX3_appendPort_68 1 rfl rfl ?_
  exact x_iretM C HQ rfl (vp_nar_int _) dX3_appendPort_70 hf
set_option maxRecDepth 20000 in
set_option maxHeartbeats 1000000 in
theorem tX3_appendPort {l : Launch} {Y : xY} {ad : Nat → Nat} {fr : va_W} {M : xM} {p1 : Int32} {p2 : Int32} {p3 : Int32} {z0 : Int32 × xM} (hf : fX3_appendPort M p1 p2 p3 = some z0) : xcI l Y (wC Y ad fr) yX3_appendPort cX3_appendPort 5 (some .int) 1 21 [.ref (ad 0), .int p1, .int p2, .int p3] M z0.1 z0.2 := by
  refine x_entryI [(0, .ref (ad 0)), (1, .int p1), (2, .int p2), (3, .int p3)] pnX3 rfl (Nat.le_of_ble_eq_true rfl) rfl (fun X C HQ => ?_)
  unfold fX3_appendPort at hf
  refine x_alN 1 C dX3_appendPort_0 0 rfl rfl rfl ?_
  refine xgX3_2 4 C mq_90 dX3_appendPort_1 rfl ?_
  refine x_is 6 C 4 (lv2 := [(4, .int (M.1 0 2)), (0, .ref (ad 0)), (1, .int p1), (2, .int p2), (3, .int p3)]) dX3_appendPort_4 rfl (Nat.le_of_ble_eq_true rfl) rfl ?_
  refine x_alN 7 C dX3_appendPort_6 1 rfl rfl rfl ?_
  refine xgX3_7 10 C mq_103 dX3_appendPort_7 rfl ?_
  refine x_il 12 C dX3_appendPort_10 0 rfl rfl ?_
  refine x_ilN 13 C dX3_appendPort_12 2 rfl rfl rfl ?_
  refine xwC_3 14 C dX3_appendPort_13 rfl hf (fun M1 hf => ?_)
  refine x_alN 15 C dX3_appendPort_14 1 rfl rfl rfl ?_
  refine xgX3_8 18 C mq_108 dX3_appendPort_15 rfl ?_
  refine x_il 20 C dX3_appendPort_18 0 rfl rfl ?_
  refine x_ilN 21 C dX3_appendPort_20 3 rfl rfl rfl ?_
  refine xwC_4 22 C dX3_appendPort_21 rfl hf (fun M2 hf => ?_)
  refine x_alN 23 C dX3_appendPort_22 1 rfl rfl rfl ?_
  refine xgX3_9 26 C mq_112 dX3_appendPort_23 rfl ?_
  refine x_il 28 C dX3_appendPort_26 0 rfl rfl ?_
  refine x_ilN 29 C dX3_appendPort_28 4 rfl rfl rfl ?_
  refine xwC_5 30 C dX3_appendPort_29 rfl hf (fun M3 hf => ?_)
  refine x_alN 31 C dX3_appendPort_30 1 rfl rfl rfl ?_
  refine xgX3_10 34 C mq_115 dX3_appendPort_31 rfl ?_
  refine x_il 36 C dX3_appendPort_34 0 rfl rfl ?_
  refine x_iconst 37 C (nI 1) dX3_appendPort_36 ki_1 rfl ?_
  refine xwC_6 38 C dX3_appendPort_37 rfl hf (fun M4 hf => ?_)
  refine x_alN 39 C dX3_appendPort_38 1 rfl rfl rfl ?_
  refine xgX3_11 42 C mq_116 dX3_appendPort_39 rfl ?_
  refine x_il 44 C dX3_appendPort_42 0 rfl rfl ?_
  refine x_alN 45 C dX3_appendPort_44 1 rfl rfl rfl ?_
  refine x_ilN 46 C dX3_appendPort_45 2 rfl rfl rfl ?_
  refine x_cvIP 49 C [.int p1] hwX3_isBridgeUp mq_327 dX3_appendPort_46 rfl ⟨Nat.le_of_ble_eq_true rfl, Nat.le_of_ble_eq_true rfl⟩ 0 wC_at_0 rfl rfl rfl (Nat.le_of_ble_eq_true rfl) (fun z hz => tX3_isBridgeUp hz) hf (fun z5 hf => ?_)
  refine x_if_eq 52 C 56 dX3_appendPort_49 (by decide) rfl hf (fun hf => ?_) (fun hf => ?_)
  ·
    refine x_iconst 57 C (nI 0) dX3_appendPort_56 ki_0 rfl ?_
    refine x_sub [1, 0] rfl ?_
    exact tX3_appendPort_j57 C HQ _ _ _ _  hf
  ·
    refine x_iconst 53 C (nI 1) dX3_appendPort_52 ki_1 rfl ?_
    refine x_goto 57 C dX3_appendPort_53 (by decide) ?_
    refine x_sub [1, 0] rfl ?_
    exact tX3_appendPort_j57 C HQ _ _ _ _  hf
set_option maxRecDepth 20000 in
set_option maxHeartbeats 1000000 in
theorem tX3_appendStation {l : Launch} {Y : xY} {ad : Nat → Nat} {fr : va_W} {M : xM} {p1 : Int32} {z0 : Int32 × xM} (hf : fX3_appendStation M p1 = some z0) : xcI l Y (wC Y ad fr) yX3_appendStation cX3_appendStation 3 (some .int) 0 0 [.ref (ad 0), .int p1] M z0.1 z0.2 := by
  refine x_entryI [(0, .ref (ad 0)), (1, .int p1)] pnX3 rfl (Nat.le_of_ble_eq_true rfl) rfl (fun X C HQ => ?_)
  unfold fX3_appendStation at hf
  refine x_alN 1 C dX3_appendStation_0 0 rfl rfl rfl ?_
  refine xgX3_3 4 C mq_95 dX3_appendStation_1 rfl ?_
  refine x_isN 5 C 2 (lv2 := [(2, .int (M.1 0 3)), (0, .ref (ad 0)), (1, .int p1)]) dX3_appendStation_4 rfl rfl (Nat.le_of_ble_eq_true rfl) rfl ?_
  refine x_alN 6 C dX3_appendStation_5 1 rfl rfl rfl ?_
  refine xgX3_15 9 C mq_129 dX3_appendStation_6 rfl ?_
  refine x_ilN 10 C dX3_appendStation_9 0 rfl rfl rfl ?_
  refine x_ilN 11 C dX3_appendStation_10 2 rfl rfl rfl ?_
  refine xwC_11 12 C dX3_appendStation_11 rfl hf (fun M1 hf => ?_)
  refine x_alN 13 C dX3_appendStation_12 1 rfl rfl rfl ?_
  refine x_dup 14 C dX3_appendStation_13 rfl rfl ?_
  refine xgX3_3 17 C mq_95 dX3_appendStation_14 rfl ?_
  refine x_iconst 18 C (nI 1) dX3_appendStation_17 ki_1 rfl ?_
  refine x_iadd 19 C dX3_appendStation_18 rfl ?_
  refine xpX3_3 22 C mq_95 dX3_appendStation_19 rfl hf (fun M2 hf => ?_)
  refine x_ilN 23 C dX3_appendStation_22 0 rfl rfl rfl ?_
  exact x_iretM C HQ rfl (vp_nar_int _) dX3_appendStation_23 hf
set_option maxRecDepth 20000 in
set_option maxHeartbeats 1000000 in
theorem tX3_forgetEntriesWith_B2 {l : Launch} {Y : xY} {X : xE} {ad : Nat → Nat} {fr : va_W} {z0 : xM} (C : xC Y X cX3_forgetEntriesWith RX3 none 3 0 0) (HQ : xRV Y X (wC Y ad fr) z0)  (v1 : Int32) (k34 : xM → Option (xM)) (Hk34 : ∀ (M : xM), k34 M = some z0 → xG Y l X (wC Y ad fr) M 34 [] []) (M : xM) (v2 : Int32) (b2 : xM → Int32 → Option (xM)) (Hb2 : ∀ (M : xM) (v2 : Int32), b2 M v2 = some z0 → xG Y l X (wC Y ad fr) M 2 [(0, .ref (ad 0)), (1, .int v1), (2, .int v2)] []) (hf : fX3_forgetEntriesWith_B2 v1 k34 M v2 b2 = some z0) : xG Y l X (wC Y ad fr) M 2 [(0, .ref (ad 0)), (1, .int v1), (2, .int v2)] [] := by
  unfold fX3_forgetEntriesWith_B2 at hf
  refine x_ilN 3 C dX3_forgetEntriesWith_2 2 rfl rfl rfl ?_
  refine x_alN 4 C dX3_forgetEntriesWith_3 0 rfl rfl rfl ?_
  refine xgX3_16 7 C mq_132 dX3_forgetEntriesWith_4 rfl ?_
  refine x_alenI 8 C 12 (nI 64) wC_at_12 rfl dX3_forgetEntriesWith_7 rfl ?_
  refine x_icmp_ge 11 C 34 dX3_forgetEntriesWith_8 (by decide) rfl hf (fun hf => ?_) (fun hf => ?_)
  ·
    refine x_sub [] rfl ?_
    exact Hk34 _ hf
  ·
    refine x_alN 12 C dX3_forgetEntriesWith_11 0 rfl rfl rfl ?_
    refine xgX3_16 15 C mq_132 dX3_forgetEntriesWith_12 rfl ?_
    refine x_ilN 16 C dX3_forgetEntriesWith_15 2 rfl rfl rfl ?_
    refine xrC_12 17 C dX3_forgetEntriesWith_16 rfl hf (fun x1 hf => ?_)
    refine x_ilN 18 C dX3_forgetEntriesWith_17 1 rfl rfl rfl ?_
    refine x_icmp_ne 21 C 28 dX3_forgetEntriesWith_18 (by decide) rfl hf (fun hf => ?_) (fun hf => ?_)
    ·
      refine x_iinc 31 C (v2 + (nI 1)) (lv2 := [(2, .int (v2 + (nI 1))), (0, .ref (ad 0)), (1, .int v1)]) dX3_forgetEntriesWith_28 2 rfl rfl rfl (Nat.le_of_ble_eq_true rfl) rfl ?_
      refine x_goto 2 C dX3_forgetEntriesWith_31 (by decide) ?_
      refine x_sub [1, 2, 0] rfl ?_
      exact Hb2 _ _ hf
    ·
      refine x_alN 22 C dX3_forgetEntriesWith_21 0 rfl rfl rfl ?_
      refine xgX3_17 25 C mq_133 dX3_forgetEntriesWith_22 rfl ?_
      refine x_ilN 26 C dX3_forgetEntriesWith_25 2 rfl rfl rfl ?_
      refine x_iconst 27 C (nI 0) dX3_forgetEntriesWith_26 ki_0 rfl ?_
      refine xwC_13 28 C dX3_forgetEntriesWith_27 rfl hf (fun M2 hf => ?_)
      refine x_iinc 31 C (v2 + (nI 1)) (lv2 := [(2, .int (v2 + (nI 1))), (0, .ref (ad 0)), (1, .int v1)]) dX3_forgetEntriesWith_28 2 rfl rfl rfl (Nat.le_of_ble_eq_true rfl) rfl ?_
      refine x_goto 2 C dX3_forgetEntriesWith_31 (by decide) ?_
      refine x_sub [1, 2, 0] rfl ?_
      exact Hb2 _ _ hf
set_option maxRecDepth 20000 in
set_option maxHeartbeats 1000000 in
theorem tX3_forgetEntriesWith_L2 {l : Launch} {Y : xY} {X : xE} {ad : Nat → Nat} {fr : va_W} {z0 : xM} (C : xC Y X cX3_forgetEntriesWith RX3 none 3 0 0) (HQ : xRV Y X (wC Y ad fr) z0)  (v1 : Int32) (k34 : xM → Option (xM)) (Hk34 : ∀ (M : xM), k34 M = some z0 → xG Y l X (wC Y ad fr) M 34 [] []) : ∀ (n : Nat) (M : xM) (v2 : Int32), fX3_forgetEntriesWith_L2 v1 k34 n M v2 = some z0 → xG Y l X (wC Y ad fr) M 2 [(0, .ref (ad 0)), (1, .int v1), (2, .int v2)] [] := by
  intro n
  induction n with
  | zero =>
    intro M v2 hf
    cases hf
  | succ n ih =>
    intro M v2 hf
    exact tX3_forgetEntriesWith_B2 C HQ  v1 _ Hk34 M v2 _ (fun M v2 hf => ih M v2 hf) hf
set_option maxRecDepth 20000 in
set_option maxHeartbeats 1000000 in
theorem tX3_forgetEntriesWith {l : Launch} {Y : xY} {ad : Nat → Nat} {fr : va_W} {M : xM} {p1 : Int32} {z0 : xM} (hf : fX3_forgetEntriesWith M p1 = some z0) : xcV l Y (wC Y ad fr) yX3_forgetEntriesWith cX3_forgetEntriesWith 3 none 0 0 [.ref (ad 0), .int p1] M z0 := by
  refine x_entryV [(0, .ref (ad 0)), (1, .int p1)] pnX3 rfl (Nat.le_of_ble_eq_true rfl) rfl (fun X C HQ => ?_)
  unfold fX3_forgetEntriesWith at hf
  refine x_iconst 1 C (nI 0) dX3_forgetEntriesWith_0 ki_0 rfl ?_
  refine x_isN 2 C 2 (lv2 := [(2, .int (nI 0)), (0, .ref (ad 0)), (1, .int p1)]) dX3_forgetEntriesWith_1 rfl rfl (Nat.le_of_ble_eq_true rfl) rfl ?_
  refine x_sub [1, 2, 0] rfl ?_
  refine tX3_forgetEntriesWith_L2 C HQ _ _ (fun M3 hf => ?_) 512 _ _ hf
  exact x_vret C HQ rfl dX3_forgetEntriesWith_34 hf
set_option maxRecDepth 20000 in
set_option maxHeartbeats 1000000 in
theorem tX3_resetPort {l : Launch} {Y : xY} {ad : Nat → Nat} {fr : va_W} {M : xM} {p1 : Int32} {z0 : xM} (hf : fX3_resetPort M p1 = some z0) : xcV l Y (wC Y ad fr) yX3_resetPort cX3_resetPort 2 none 2 42 [.ref (ad 0), .int p1] M z0 := by
  refine x_entryV [(0, .ref (ad 0)), (1, .int p1)] pnX3 rfl (Nat.le_of_ble_eq_true rfl) rfl (fun X C HQ => ?_)
  unfold fX3_resetPort at hf
  refine x_alN 1 C dX3_resetPort_0 0 rfl rfl rfl ?_
  refine xgX3_14 4 C mq_126 dX3_resetPort_1 rfl ?_
  refine x_ilN 5 C dX3_resetPort_4 1 rfl rfl rfl ?_
  refine x_iconst 6 C (nI 0) dX3_resetPort_5 ki_0 rfl ?_
  refine xwC_10 7 C dX3_resetPort_6 rfl hf (fun M1 hf => ?_)
  refine x_alN 8 C dX3_resetPort_7 0 rfl rfl rfl ?_
  refine xgX3_12 11 C mq_120 dX3_resetPort_8 rfl ?_
  refine x_ilN 12 C dX3_resetPort_11 1 rfl rfl rfl ?_
  refine x_iconst 13 C (nI 0) dX3_resetPort_12 ki_0 rfl ?_
  refine xwC_8 14 C dX3_resetPort_13 rfl hf (fun M2 hf => ?_)
  refine x_alN 15 C dX3_resetPort_14 0 rfl rfl rfl ?_
  refine x_ilN 16 C dX3_resetPort_15 1 rfl rfl rfl ?_
  refine x_cvIP 19 C [.int p1] hwX3_isActive mq_363 dX3_resetPort_16 rfl ⟨Nat.le_of_ble_eq_true rfl, Nat.le_of_ble_eq_true rfl⟩ 0 wC_at_0 rfl rfl rfl (Nat.le_of_ble_eq_true rfl) (fun z hz => tX3_isActive hz) hf (fun z3 hf => ?_)
  refine x_if_eq 22 C 32 dX3_resetPort_19 (by decide) rfl hf (fun hf => ?_) (fun hf => ?_)
  ·
    refine x_alN 33 C dX3_resetPort_32 0 rfl rfl rfl ?_
    refine xgX3_11 36 C mq_116 dX3_resetPort_33 rfl ?_
    refine x_ilN 37 C dX3_resetPort_36 1 rfl rfl rfl ?_
    refine x_iconst 38 C (nI 0) dX3_resetPort_37 ki_0 rfl ?_
    refine xwC_7 39 C dX3_resetPort_38 rfl hf (fun M4 hf => ?_)
    refine x_alN 40 C dX3_resetPort_39 0 rfl rfl rfl ?_
    refine x_ilN 41 C dX3_resetPort_40 1 rfl rfl rfl ?_
    refine x_cvVM 44 C [.int p1] hwX3_forgetEntriesWith mq_367 dX3_resetPort_41 rfl ⟨Nat.le_of_ble_eq_true rfl, Nat.le_of_ble_eq_true rfl⟩ 0 wC_at_0 rfl rfl rfl (Nat.le_of_ble_eq_true rfl) (fun z hz => tX3_forgetEntriesWith hz) hf (fun z5 hf => ?_)
    exact x_vret C HQ rfl dX3_resetPort_44 hf
  ·
    refine x_alN 23 C dX3_resetPort_22 0 rfl rfl rfl ?_
    refine xgX3_11 26 C mq_116 dX3_resetPort_23 rfl ?_
    refine x_ilN 27 C dX3_resetPort_26 1 rfl rfl rfl ?_
    refine x_iconst 28 C (nI 1) dX3_resetPort_27 ki_1 rfl ?_
    refine xwC_7 29 C dX3_resetPort_28 rfl hf (fun M6 hf => ?_)
    refine x_goto 44 C dX3_resetPort_29 (by decide) ?_
    exact x_vret C HQ rfl dX3_resetPort_44 hf
set_option maxRecDepth 20000 in
set_option maxHeartbeats 1000000 in
theorem tX3_switchBridge_B17 {l : Launch} {Y : xY} {X : xE} {ad : Nat → Nat} {fr : va_W} {z0 : Int32 × xM} (C : xC Y X cX3_switchBridge RX3 (some .int) 5 3 63) (HQ : xRI Y X (wC Y ad fr) z0.1 z0.2)  (v1 : Int32) (v2 : Int32) (v3 : Int32) (k65 : xM → Option (Int32 × xM)) (Hk65 : ∀ (M : xM), k65 M = some z0 → xG Y l X (wC Y ad fr) M 65 [(3, .int v3)] []) (M : xM) (v4 : Int32) (b17 : xM → Int32 → Option (Int32 × xM)) (Hb17 : ∀ (M : xM) (v4 : Int32), b17 M v4 = some z0 → xG Y l X (wC Y ad fr) M 17 [(0, .ref (ad 0)), (1, .int v1), (2, .int v2), (3, .int v3), (4, .int v4)] []) (hf : fX3_switchBridge_B17 v1 v2 v3 k65 M v4 b17 = some z0) : xG Y l X (wC Y ad fr) M 17 [(0, .ref (ad 0)), (1, .int v1), (2, .int v2), (3, .int v3), (4, .int v4)] [] := by
  unfold fX3_switchBridge_B17 at hf
  refine x_il 19 C dX3_switchBridge_17 4 rfl rfl ?_
  refine x_alN 20 C dX3_switchBridge_19 0 rfl rfl rfl ?_
  refine xgX3_2 23 C mq_90 dX3_switchBridge_20 rfl ?_
  refine x_icmp_ge 26 C 65 dX3_switchBridge_23 (by decide) rfl hf (fun hf => ?_) (fun hf => ?_)
  ·
    refine x_sub [3] rfl ?_
    exact Hk65 _ hf
  ·
    refine x_ilN 27 C dX3_switchBridge_26 3 rfl rfl rfl ?_
    refine x_ilN 28 C dX3_switchBridge_27 2 rfl rfl rfl ?_
    refine x_icmp_eq 31 C 59 dX3_switchBridge_28 (by decide) rfl hf (fun hf => ?_) (fun hf => ?_)
    ·
      refine x_iinc 62 C (v4 + (nI 1)) (lv2 := [(4, .int (v4 + (nI 1))), (0, .ref (ad 0)), (1, .int v1), (2, .int v2), (3, .int v3)]) dX3_switchBridge_59 4 rfl rfl rfl (Nat.le_of_ble_eq_true rfl) rfl ?_
      refine x_goto 17 C dX3_switchBridge_62 (by decide) ?_
      refine x_sub [1, 2, 3, 4, 0] rfl ?_
      exact Hb17 _ _ hf
    ·
      refine x_alN 32 C dX3_switchBridge_31 0 rfl rfl rfl ?_
      refine xgX3_7 35 C mq_103 dX3_switchBridge_32 rfl ?_
      refine x_il 37 C dX3_switchBridge_35 4 rfl rfl ?_
      refine xrC_3 38 C dX3_switchBridge_37 rfl hf (fun x3 hf => ?_)
      refine x_ilN 39 C dX3_switchBridge_38 1 rfl rfl rfl ?_
      refine x_icmp_ne 42 C 59 dX3_switchBridge_39 (by decide) rfl hf (fun hf => ?_) (fun hf => ?_)
      ·
        refine x_iinc 62 C (v4 + (nI 1)) (lv2 := [(4, .int (v4 + (nI 1))), (0, .ref (ad 0)), (1, .int v1), (2, .int v2), (3, .int v3)]) dX3_switchBridge_59 4 rfl rfl rfl (Nat.le_of_ble_eq_true rfl) rfl ?_
        refine x_goto 17 C dX3_switchBridge_62 (by decide) ?_
        refine x_sub [1, 2, 3, 4, 0] rfl ?_
        exact Hb17 _ _ hf
      ·
        refine x_alN 43 C dX3_switchBridge_42 0 rfl rfl rfl ?_
        refine xgX3_10 46 C mq_115 dX3_switchBridge_43 rfl ?_
        refine x_il 48 C dX3_switchBridge_46 4 rfl rfl ?_
        refine xrC_6 49 C dX3_switchBridge_48 rfl hf (fun x4 hf => ?_)
        refine x_iconst 50 C (nI 1) dX3_switchBridge_49 ki_1 rfl ?_
        refine x_icmp_ne 53 C 59 dX3_switchBridge_50 (by decide) rfl hf (fun hf => ?_) (fun hf => ?_)
        ·
          refine x_iinc 62 C (v4 + (nI 1)) (lv2 := [(4, .int (v4 + (nI 1))), (0, .ref (ad 0)), (1, .int v1), (2, .int v2), (3, .int v3)]) dX3_switchBridge_59 4 rfl rfl rfl (Nat.le_of_ble_eq_true rfl) rfl ?_
          refine x_goto 17 C dX3_switchBridge_62 (by decide) ?_
          refine x_sub [1, 2, 3, 4, 0] rfl ?_
          exact Hb17 _ _ hf
        ·
          refine x_alN 54 C dX3_switchBridge_53 0 rfl rfl rfl ?_
          refine x_il 56 C dX3_switchBridge_54 4 rfl rfl ?_
          refine x_cvVM 59 C [.int v4] hwX3_resetPort mq_359 dX3_switchBridge_56 rfl ⟨Nat.le_of_ble_eq_true rfl, Nat.le_of_ble_eq_true rfl⟩ 0 wC_at_0 rfl rfl rfl (Nat.le_of_ble_eq_true rfl) (fun z hz => tX3_resetPort hz) hf (fun z5 hf => ?_)
          refine x_iinc 62 C (v4 + (nI 1)) (lv2 := [(4, .int (v4 + (nI 1))), (0, .ref (ad 0)), (1, .int v1), (2, .int v2), (3, .int v3)]) dX3_switchBridge_59 4 rfl rfl rfl (Nat.le_of_ble_eq_true rfl) rfl ?_
          refine x_goto 17 C dX3_switchBridge_62 (by decide) ?_
          refine x_sub [1, 2, 3, 4, 0] rfl ?_
          exact Hb17 _ _ hf
set_option maxRecDepth 20000 in
set_option maxHeartbeats 1000000 in
theorem tX3_switchBridge_L17 {l : Launch} {Y : xY} {X : xE} {ad : Nat → Nat} {fr : va_W} {z0 : Int32 × xM} (C : xC Y X cX3_switchBridge RX3 (some .int) 5 3 63) (HQ : xRI Y X (wC Y ad fr) z0.1 z0.2)  (v1 : Int32) (v2 : Int32) (v3 : Int32) (k65 : xM → Option (Int32 × xM)) (Hk65 : ∀ (M : xM), k65 M = some z0 → xG Y l X (wC Y ad fr) M 65 [(3, .int v3)] []) : ∀ (n : Nat) (M : xM) (v4 : Int32), fX3_switchBridge_L17 v1 v2 v3 k65 n M v4 = some z0 → xG Y l X (wC Y ad fr) M 17 [(0, .ref (ad 0)), (1, .int v1), (2, .int v2), (3, .int v3), (4, .int v4)] [] := by
  intro n
  induction n with
  | zero =>
    intro M v4 hf
    cases hf
  | succ n ih =>
    intro M v4 hf
    exact tX3_switchBridge_B17 C HQ  v1 v2 v3 _ Hk65 M v4 _ (fun M v4 hf => ih M v4 hf) hf
set_option maxRecDepth 20000 in
set_option maxHeartbeats 1000000 in
theorem tX3_switchBridge {l : Launch} {Y : xY} {ad : Nat → Nat} {fr : va_W} {M : xM} {p1 : Int32} {p2 : Int32} {z0 : Int32 × xM} (hf : fX3_switchBridge M p1 p2 = some z0) : xcI l Y (wC Y ad fr) yX3_switchBridge cX3_switchBridge 5 (some .int) 3 63 [.ref (ad 0), .int p1, .int p2] M z0.1 z0.2 := by
  refine x_entryI [(0, .ref (ad 0)), (1, .int p1), (2, .int p2)] pnX3 rfl (Nat.le_of_ble_eq_true rfl) rfl (fun X C HQ => ?_)
  unfold fX3_switchBridge at hf
  refine x_alN 1 C dX3_switchBridge_0 0 rfl rfl rfl ?_
  refine xgX3_6 4 C mq_102 dX3_switchBridge_1 rfl ?_
  refine x_ilN 5 C dX3_switchBridge_4 1 rfl rfl rfl ?_
  refine xrC_2 6 C dX3_switchBridge_5 rfl hf (fun x1 hf => ?_)
  refine x_isN 7 C 3 (lv2 := [(3, .int x1), (0, .ref (ad 0)), (1, .int p1), (2, .int p2)]) dX3_switchBridge_6 rfl rfl (Nat.le_of_ble_eq_true rfl) rfl ?_
  refine x_alN 8 C dX3_switchBridge_7 1 rfl rfl rfl ?_
  refine xgX3_6 11 C mq_102 dX3_switchBridge_8 rfl ?_
  refine x_ilN 12 C dX3_switchBridge_11 2 rfl rfl rfl ?_
  refine x_ilN 13 C dX3_switchBridge_12 3 rfl rfl rfl ?_
  refine xwC_2 14 C dX3_switchBridge_13 rfl hf (fun M2 hf => ?_)
  refine x_iconst 15 C (nI 0) dX3_switchBridge_14 ki_0 rfl ?_
  refine x_is 17 C 4 (lv2 := [(4, .int (nI 0)), (3, .int x1), (0, .ref (ad 0)), (1, .int p1), (2, .int p2)]) dX3_switchBridge_15 rfl (Nat.le_of_ble_eq_true rfl) rfl ?_
  refine x_sub [2, 3, 4, 1, 0] rfl ?_
  refine tX3_switchBridge_L17 C HQ _ _ _ _ (fun M6 hf => ?_) 512 _ _ hf
  refine x_ilN 66 C dX3_switchBridge_65 0 rfl rfl rfl ?_
  exact x_iretM C HQ rfl (vp_nar_int _) dX3_switchBridge_66 hf
set_option maxRecDepth 20000 in
set_option maxHeartbeats 1000000 in
theorem tX3_switchPort {l : Launch} {Y : xY} {ad : Nat → Nat} {fr : va_W} {M : xM} {p1 : Int32} {p2 : Int32} {z0 : Int32 × xM} (hf : fX3_switchPort M p1 p2 = some z0) : xcI l Y (wC Y ad fr) yX3_switchPort cX3_switchPort 4 (some .int) 3 63 [.ref (ad 0), .int p1, .int p2] M z0.1 z0.2 := by
  refine x_entryI [(0, .ref (ad 0)), (1, .int p1), (2, .int p2)] pnX3 rfl (Nat.le_of_ble_eq_true rfl) rfl (fun X C HQ => ?_)
  unfold fX3_switchPort at hf
  refine x_alN 1 C dX3_switchPort_0 0 rfl rfl rfl ?_
  refine xgX3_10 4 C mq_115 dX3_switchPort_1 rfl ?_
  refine x_ilN 5 C dX3_switchPort_4 1 rfl rfl rfl ?_
  refine xrC_6 6 C dX3_switchPort_5 rfl hf (fun x1 hf => ?_)
  refine x_isN 7 C 3 (lv2 := [(3, .int x1), (0, .ref (ad 0)), (1, .int p1), (2, .int p2)]) dX3_switchPort_6 rfl rfl (Nat.le_of_ble_eq_true rfl) rfl ?_
  refine x_alN 8 C dX3_switchPort_7 1 rfl rfl rfl ?_
  refine xgX3_10 11 C mq_115 dX3_switchPort_8 rfl ?_
  refine x_ilN 12 C dX3_switchPort_11 2 rfl rfl rfl ?_
  refine x_ilN 13 C dX3_switchPort_12 3 rfl rfl rfl ?_
  refine xwC_6 14 C dX3_switchPort_13 rfl hf (fun M2 hf => ?_)
  refine x_ilN 15 C dX3_switchPort_14 0 rfl rfl rfl ?_
  refine x_ilN 16 C dX3_switchPort_15 3 rfl rfl rfl ?_
  refine x_icmp_eq 19 C 37 dX3_switchPort_16 (by decide) rfl hf (fun hf => ?_) (fun hf => ?_)
  ·
    refine x_ilN 38 C dX3_switchPort_37 0 rfl rfl rfl ?_
    exact x_iretM C HQ rfl (vp_nar_int _) dX3_switchPort_38 hf
  ·
    refine x_alN 20 C dX3_switchPort_19 1 rfl rfl rfl ?_
    refine x_alN 21 C dX3_switchPort_20 1 rfl rfl rfl ?_
    refine xgX3_7 24 C mq_103 dX3_switchPort_21 rfl ?_
    refine x_ilN 25 C dX3_switchPort_24 2 rfl rfl rfl ?_
    refine xrC_3 26 C dX3_switchPort_25 rfl hf (fun x3 hf => ?_)
    refine x_cvIP 29 C [.int x3] hwX3_isBridgeUp mq_327 dX3_switchPort_26 rfl ⟨Nat.le_of_ble_eq_true rfl, Nat.le_of_ble_eq_true rfl⟩ 0 wC_at_0 rfl rfl rfl (Nat.le_of_ble_eq_true rfl) (fun z hz => tX3_isBridgeUp hz) hf (fun z4 hf => ?_)
    refine x_if_eq 32 C 37 dX3_switchPort_29 (by decide) rfl hf (fun hf => ?_) (fun hf => ?_)
    ·
      refine x_ilN 38 C dX3_switchPort_37 0 rfl rfl rfl ?_
      exact x_iretM C HQ rfl (vp_nar_int _) dX3_switchPort_38 hf
    ·
      refine x_alN 33 C dX3_switchPort_32 1 rfl rfl rfl ?_
      refine x_ilN 34 C dX3_switchPort_33 2 rfl rfl rfl ?_
      refine x_cvVM 37 C [.int p1] hwX3_resetPort mq_359 dX3_switchPort_34 rfl ⟨Nat.le_of_ble_eq_true rfl, Nat.le_of_ble_eq_true rfl⟩ 0 wC_at_0 rfl rfl rfl (Nat.le_of_ble_eq_true rfl) (fun z hz => tX3_resetPort hz) hf (fun z5 hf => ?_)
      refine x_ilN 38 C dX3_switchPort_37 0 rfl rfl rfl ?_
      exact x_iretM C HQ rfl (vp_nar_int _) dX3_switchPort_38 hf
set_option maxRecDepth 20000 in
set_option maxHeartbeats 1000000 in
theorem tX3_ageEntries_B2 {l : Launch} {Y : xY} {X : xE} {ad : Nat → Nat} {fr : va_W} {z0 : xM} (C : xC Y X cX3_ageEntries RX3 none 2 0 0) (HQ : xRV Y X (wC Y ad fr) z0)   (k36 : xM → Option (xM)) (Hk36 : ∀ (M : xM), k36 M = some z0 → xG Y l X (wC Y ad fr) M 36 [] []) (M : xM) (v1 : Int32) (b2 : xM → Int32 → Option (xM)) (Hb2 : ∀ (M : xM) (v1 : Int32), b2 M v1 = some z0 → xG Y l X (wC Y ad fr) M 2 [(0, .ref (ad 0)), (1, .int v1)] []) (hf : fX3_ageEntries_B2 k36 M v1 b2 = some z0) : xG Y l X (wC Y ad fr) M 2 [(0, .ref (ad 0)), (1, .int v1)] [] := by
  unfold fX3_ageEntries_B2 at hf
  refine x_ilN 3 C dX3_ageEntries_2 1 rfl rfl rfl ?_
  refine x_alN 4 C dX3_ageEntries_3 0 rfl rfl rfl ?_
  refine xgX3_17 7 C mq_133 dX3_ageEntries_4 rfl ?_
  refine x_alenI 8 C 13 (nI 64) wC_at_13 rfl dX3_ageEntries_7 rfl ?_
  refine x_icmp_ge 11 C 36 dX3_ageEntries_8 (by decide) rfl hf (fun hf => ?_) (fun hf => ?_)
  ·
    refine x_sub [] rfl ?_
    exact Hk36 _ hf
  ·
    refine x_alN 12 C dX3_ageEntries_11 0 rfl rfl rfl ?_
    refine xgX3_17 15 C mq_133 dX3_ageEntries_12 rfl ?_
    refine x_ilN 16 C dX3_ageEntries_15 1 rfl rfl rfl ?_
    refine xrC_13 17 C dX3_ageEntries_16 rfl hf (fun x1 hf => ?_)
    refine x_if_le 20 C 30 dX3_ageEntries_17 (by decide) rfl hf (fun hf => ?_) (fun hf => ?_)
    ·
      refine x_iinc 33 C (v1 + (nI 1)) (lv2 := [(1, .int (v1 + (nI 1))), (0, .ref (ad 0))]) dX3_ageEntries_30 1 rfl rfl rfl (Nat.le_of_ble_eq_true rfl) rfl ?_
      refine x_goto 2 C dX3_ageEntries_33 (by decide) ?_
      refine x_sub [1, 0] rfl ?_
      exact Hb2 _ _ hf
    ·
      refine x_alN 21 C dX3_ageEntries_20 0 rfl rfl rfl ?_
      refine xgX3_17 24 C mq_133 dX3_ageEntries_21 rfl ?_
      refine x_ilN 25 C dX3_ageEntries_24 1 rfl rfl rfl ?_
      refine x_dup2 26 C dX3_ageEntries_25 rfl rfl rfl ?_
      refine xrC_13 27 C dX3_ageEntries_26 rfl hf (fun x2 hf => ?_)
      refine x_iconst 28 C (nI 1) dX3_ageEntries_27 ki_1 rfl ?_
      refine x_isub 29 C dX3_ageEntries_28 rfl ?_
      refine xwC_13 30 C dX3_ageEntries_29 rfl hf (fun M3 hf => ?_)
      refine x_iinc 33 C (v1 + (nI 1)) (lv2 := [(1, .int (v1 + (nI 1))), (0, .ref (ad 0))]) dX3_ageEntries_30 1 rfl rfl rfl (Nat.le_of_ble_eq_true rfl) rfl ?_
      refine x_goto 2 C dX3_ageEntries_33 (by decide) ?_
      refine x_sub [1, 0] rfl ?_
      exact Hb2 _ _ hf
set_option maxRecDepth 20000 in
set_option maxHeartbeats 1000000 in
theorem tX3_ageEntries_L2 {l : Launch} {Y : xY} {X : xE} {ad : Nat → Nat} {fr : va_W} {z0 : xM} (C : xC Y X cX3_ageEntries RX3 none 2 0 0) (HQ : xRV Y X (wC Y ad fr) z0)   (k36 : xM → Option (xM)) (Hk36 : ∀ (M : xM), k36 M = some z0 → xG Y l X (wC Y ad fr) M 36 [] []) : ∀ (n : Nat) (M : xM) (v1 : Int32), fX3_ageEntries_L2 k36 n M v1 = some z0 → xG Y l X (wC Y ad fr) M 2 [(0, .ref (ad 0)), (1, .int v1)] [] := by
  intro n
  induction n with
  | zero =>
    intro M v1 hf
    cases hf
  | succ n ih =>
    intro M v1 hf
    exact tX3_ageEntries_B2 C HQ   _ Hk36 M v1 _ (fun M v1 hf => ih M v1 hf) hf
set_option maxRecDepth 20000 in
set_option maxHeartbeats 1000000 in
theorem tX3_ageEntries {l : Launch} {Y : xY} {ad : Nat → Nat} {fr : va_W} {M : xM}  {z0 : xM} (hf : fX3_ageEntries M = some z0) : xcV l Y (wC Y ad fr) yX3_ageEntries cX3_ageEntries 2 none 0 0 [.ref (ad 0)] M z0 := by
  refine x_entryV [(0, .ref (ad 0))] pnX3 rfl (Nat.le_of_ble_eq_true rfl) rfl (fun X C HQ => ?_)
  unfold fX3_ageEntries at hf
  refine x_iconst 1 C (nI 0) dX3_ageEntries_0 ki_0 rfl ?_
  refine x_isN 2 C 1 (lv2 := [(1, .int (nI 0)), (0, .ref (ad 0))]) dX3_ageEntries_1 rfl rfl (Nat.le_of_ble_eq_true rfl) rfl ?_
  refine x_sub [1, 0] rfl ?_
  refine tX3_ageEntries_L2 C HQ  _ (fun M4 hf => ?_) 512 _ _ hf
  exact x_vret C HQ rfl dX3_ageEntries_36 hf
set_option maxRecDepth 20000 in
set_option maxHeartbeats 1000000 in
theorem tX3_ageMessage {l : Launch} {Y : xY} {ad : Nat → Nat} {fr : va_W} {M : xM} {p1 : Int32} {z0 : xM} (hf : fX3_ageMessage M p1 = some z0) : xcV l Y (wC Y ad fr) yX3_ageMessage cX3_ageMessage 2 none 0 0 [.ref (ad 0), .int p1] M z0 := by
  refine x_entryV [(0, .ref (ad 0)), (1, .int p1)] pnX3 rfl (Nat.le_of_ble_eq_true rfl) rfl (fun X C HQ => ?_)
  unfold fX3_ageMessage at hf
  refine x_alN 1 C dX3_ageMessage_0 0 rfl rfl rfl ?_
  refine xgX3_14 4 C mq_126 dX3_ageMessage_1 rfl ?_
  refine x_ilN 5 C dX3_ageMessage_4 1 rfl rfl rfl ?_
  refine xrC_10 6 C dX3_ageMessage_5 rfl hf (fun x1 hf => ?_)
  refine x_if_le 9 C 19 dX3_ageMessage_6 (by decide) rfl hf (fun hf => ?_) (fun hf => ?_)
  ·
    exact x_vret C HQ rfl dX3_ageMessage_19 hf
  ·
    refine x_alN 10 C dX3_ageMessage_9 0 rfl rfl rfl ?_
    refine xgX3_14 13 C mq_126 dX3_ageMessage_10 rfl ?_
    refine x_ilN 14 C dX3_ageMessage_13 1 rfl rfl rfl ?_
    refine x_dup2 15 C dX3_ageMessage_14 rfl rfl rfl ?_
    refine xrC_10 16 C dX3_ageMessage_15 rfl hf (fun x2 hf => ?_)
    refine x_iconst 17 C (nI 1) dX3_ageMessage_16 ki_1 rfl ?_
    refine x_isub 18 C dX3_ageMessage_17 rfl ?_
    refine xwC_10 19 C dX3_ageMessage_18 rfl hf (fun M3 hf => ?_)
    exact x_vret C HQ rfl dX3_ageMessage_19 hf
