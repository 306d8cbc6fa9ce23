set_option maxRecDepth 20000 in
set_option maxHeartbeats 1000000 in
theorem tX7_in {l : Launch} {Y : xY} {ad : Nat → Nat} {fr : va_W} {M : xM} {p1 : Int32} {p2 : Int32} {p3 : Int32} {z0 : Int32} (hf : fX7_in M p1 p2 p3 = some z0) : xcI l Y (wR Y ad fr) yX7_in cX7_in 3 (some .boolean) 0 0 [.int p1, .int p2, .int p3] M z0 M := by
  refine x_entryI [(0, .int p1), (1, .int p2), (2, .int p3)] pnX7 rfl (Nat.le_of_ble_eq_true rfl) rfl (fun X C HQ => ?_)
  unfold fX7_in at hf
  refine x_ilN 1 C dX7_in_0 0 rfl rfl rfl ?_
  refine x_ilN 2 C dX7_in_1 1 rfl rfl rfl ?_
  refine x_icmp_lt 5 C 14 dX7_in_2 (by decide) rfl hf (fun hf => ?_) (fun hf => ?_)
  ·
    refine x_iconst 15 C (nI 0) dX7_in_14 ki_0 rfl ?_
    exact x_iretP C HQ rfl rfl dX7_in_15 hf
  ·
    refine x_ilN 6 C dX7_in_5 0 rfl rfl rfl ?_
    refine x_ilN 7 C dX7_in_6 2 rfl rfl rfl ?_
    refine x_icmp_gt 10 C 14 dX7_in_7 (by decide) rfl hf (fun hf => ?_) (fun hf => ?_)
    ·
      refine x_iconst 15 C (nI 0) dX7_in_14 ki_0 rfl ?_
      exact x_iretP C HQ rfl rfl dX7_in_15 hf
    ·
      refine x_iconst 11 C (nI 1) dX7_in_10 ki_1 rfl ?_
      refine x_goto 15 C dX7_in_11 (by decide) ?_
      exact x_iretP C HQ rfl rfl dX7_in_15 hf
set_option maxRecDepth 20000 in
set_option maxHeartbeats 1000000 in
theorem tX7_isBridge {l : Launch} {Y : xY} {ad : Nat → Nat} {fr : va_W} {M : xM} {p1 : Int32} {z0 : Int32} (hf : fX7_isBridge M p1 = some z0) : xcI l Y (wR Y ad fr) yX7_isBridge cX7_isBridge 2 (some .boolean) 1 22 [.ref (ad 0), .int p1] M z0 M := by
  refine x_entryI [(0, .ref (ad 0)), (1, .int p1)] pnX7 rfl (Nat.le_of_ble_eq_true rfl) rfl (fun X C HQ => ?_)
  unfold fX7_isBridge at hf
  refine x_ilN 1 C dX7_isBridge_0 1 rfl rfl rfl ?_
  refine x_iconst 2 C (nI 0) dX7_isBridge_1 ki_0 rfl ?_
  refine x_alN 3 C dX7_isBridge_2 0 rfl rfl rfl ?_
  refine xgX7_0 6 C mq_668 dX7_isBridge_3 rfl ?_
  refine x_iconst 7 C (nI 0) dX7_isBridge_6 ki_0 rfl ?_
  refine xrR_1 8 C dX7_isBridge_7 rfl hf (fun x1 hf => ?_)
  refine x_iconst 9 C (nI 1) dX7_isBridge_8 ki_1 rfl ?_
  refine x_isub 10 C dX7_isBridge_9 rfl ?_
  refine x_csIP 13 C [.int p1, .int (nI 0), .int (x1 - (nI 1))] hwX7_in mq_722 dX7_isBridge_10 rfl ⟨Nat.le_of_ble_eq_true rfl, Nat.le_of_ble_eq_true rfl⟩ rfl rfl (Nat.le_of_ble_eq_true rfl) (fun z hz => tX7_in hz) hf (fun z2 hf => ?_)
  obtain ⟨hn, hf⟩ := x_nz hf
  exact x_iretP C HQ rfl hn dX7_isBridge_13 hf
set_option maxRecDepth 20000 in
set_option maxHeartbeats 1000000 in
theorem tX7_isSegment {l : Launch} {Y : xY} {ad : Nat → Nat} {fr : va_W} {M : xM} {p1 : Int32} {z0 : Int32} (hf : fX7_isSegment M p1 = some z0) : xcI l Y (wR Y ad fr) yX7_isSegment cX7_isSegment 2 (some .boolean) 1 22 [.ref (ad 0), .int p1] M z0 M := by
  refine x_entryI [(0, .ref (ad 0)), (1, .int p1)] pnX7 rfl (Nat.le_of_ble_eq_true rfl) rfl (fun X C HQ => ?_)
  unfold fX7_isSegment at hf
  refine x_ilN 1 C dX7_isSegment_0 1 rfl rfl rfl ?_
  refine x_iconst 2 C (nI 0) dX7_isSegment_1 ki_0 rfl ?_
  refine x_alN 3 C dX7_isSegment_2 0 rfl rfl rfl ?_
  refine xgX7_0 6 C mq_668 dX7_isSegment_3 rfl ?_
  refine x_iconst 7 C (nI 1) dX7_isSegment_6 ki_1 rfl ?_
  refine xrR_1 8 C dX7_isSegment_7 rfl hf (fun x1 hf => ?_)
  refine x_iconst 9 C (nI 1) dX7_isSegment_8 ki_1 rfl ?_
  refine x_isub 10 C dX7_isSegment_9 rfl ?_
  refine x_csIP 13 C [.int p1, .int (nI 0), .int (x1 - (nI 1))] hwX7_in mq_722 dX7_isSegment_10 rfl ⟨Nat.le_of_ble_eq_true rfl, Nat.le_of_ble_eq_true rfl⟩ rfl rfl (Nat.le_of_ble_eq_true rfl) (fun z hz => tX7_in hz) hf (fun z2 hf => ?_)
  obtain ⟨hn, hf⟩ := x_nz hf
  exact x_iretP C HQ rfl hn dX7_isSegment_13 hf
set_option maxRecDepth 20000 in
set_option maxHeartbeats 1000000 in
theorem tX7_isPort {l : Launch} {Y : xY} {ad : Nat → Nat} {fr : va_W} {M : xM} {p1 : Int32} {z0 : Int32} (hf : fX7_isPort M p1 = some z0) : xcI l Y (wR Y ad fr) yX7_isPort cX7_isPort 2 (some .boolean) 1 22 [.ref (ad 0), .int p1] M z0 M := by
  refine x_entryI [(0, .ref (ad 0)), (1, .int p1)] pnX7 rfl (Nat.le_of_ble_eq_true rfl) rfl (fun X C HQ => ?_)
  unfold fX7_isPort at hf
  refine x_ilN 1 C dX7_isPort_0 1 rfl rfl rfl ?_
  refine x_iconst 2 C (nI 0) dX7_isPort_1 ki_0 rfl ?_
  refine x_alN 3 C dX7_isPort_2 0 rfl rfl rfl ?_
  refine xgX7_0 6 C mq_668 dX7_isPort_3 rfl ?_
  refine x_iconst 7 C (nI 2) dX7_isPort_6 ki_2 rfl ?_
  refine xrR_1 8 C dX7_isPort_7 rfl hf (fun x1 hf => ?_)
  refine x_iconst 9 C (nI 1) dX7_isPort_8 ki_1 rfl ?_
  refine x_isub 10 C dX7_isPort_9 rfl ?_
  refine x_csIP 13 C [.int p1, .int (nI 0), .int (x1 - (nI 1))] hwX7_in mq_722 dX7_isPort_10 rfl ⟨Nat.le_of_ble_eq_true rfl, Nat.le_of_ble_eq_true rfl⟩ rfl rfl (Nat.le_of_ble_eq_true rfl) (fun z hz => tX7_in hz) hf (fun z2 hf => ?_)
  obtain ⟨hn, hf⟩ := x_nz hf
  exact x_iretP C HQ rfl hn dX7_isPort_13 hf
set_option maxRecDepth 20000 in
set_option maxHeartbeats 1000000 in
theorem tX7_isStation {l : Launch} {Y : xY} {ad : Nat → Nat} {fr : va_W} {M : xM} {p1 : Int32} {z0 : Int32} (hf : fX7_isStation M p1 = some z0) : xcI l Y (wR Y ad fr) yX7_isStation cX7_isStation 2 (some .boolean) 1 22 [.ref (ad 0), .int p1] M z0 M := by
  refine x_entryI [(0, .ref (ad 0)), (1, .int p1)] pnX7 rfl (Nat.le_of_ble_eq_true rfl) rfl (fun X C HQ => ?_)
  unfold fX7_isStation at hf
  refine x_ilN 1 C dX7_isStation_0 1 rfl rfl rfl ?_
  refine x_iconst 2 C (nI 0) dX7_isStation_1 ki_0 rfl ?_
  refine x_alN 3 C dX7_isStation_2 0 rfl rfl rfl ?_
  refine xgX7_0 6 C mq_668 dX7_isStation_3 rfl ?_
  refine x_iconst 7 C (nI 3) dX7_isStation_6 ki_3 rfl ?_
  refine xrR_1 8 C dX7_isStation_7 rfl hf (fun x1 hf => ?_)
  refine x_iconst 9 C (nI 1) dX7_isStation_8 ki_1 rfl ?_
  refine x_isub 10 C dX7_isStation_9 rfl ?_
  refine x_csIP 13 C [.int p1, .int (nI 0), .int (x1 - (nI 1))] hwX7_in mq_722 dX7_isStation_10 rfl ⟨Nat.le_of_ble_eq_true rfl, Nat.le_of_ble_eq_true rfl⟩ rfl rfl (Nat.le_of_ble_eq_true rfl) (fun z hz => tX7_in hz) hf (fun z2 hf => ?_)
  obtain ⟨hn, hf⟩ := x_nz hf
  exact x_iretP C HQ rfl hn dX7_isStation_13 hf
set_option maxRecDepth 20000 in
set_option maxHeartbeats 1000000 in
theorem tX7_ports {l : Launch} {Y : xY} {ad : Nat → Nat} {fr : va_W} {M : xM}  {z0 : Int32} (hf : fX7_ports M = some z0) : xcI l Y (wR Y ad fr) yX7_ports cX7_ports 1 (some .int) 0 0 [.ref (ad 0)] M z0 M := by
  refine x_entryI [(0, .ref (ad 0))] pnX7 rfl (Nat.le_of_ble_eq_true rfl) rfl (fun X C HQ => ?_)
  unfold fX7_ports at hf
  refine x_alN 1 C dX7_ports_0 0 rfl rfl rfl ?_
  refine xgX7_0 4 C mq_668 dX7_ports_1 rfl ?_
  refine x_iconst 5 C (nI 2) dX7_ports_4 ki_2 rfl ?_
  refine xrR_1 6 C dX7_ports_5 rfl hf (fun x1 hf => ?_)
  exact x_iretP C HQ rfl (vp_nar_int _) dX7_ports_6 hf
set_option maxRecDepth 20000 in
set_option maxHeartbeats 1000000 in
theorem tX7_bridgeOf {l : Launch} {Y : xY} {ad : Nat → Nat} {fr : va_W} {M : xM} {p1 : Int32} {z0 : Int32} (hf : fX7_bridgeOf M p1 = some z0) : xcI l Y (wR Y ad fr) yX7_bridgeOf cX7_bridgeOf 2 (some .int) 0 0 [.ref (ad 0), .int p1] M z0 M := by
  refine x_entryI [(0, .ref (ad 0)), (1, .int p1)] pnX7 rfl (Nat.le_of_ble_eq_true rfl) rfl (fun X C HQ => ?_)
  unfold fX7_bridgeOf at hf
  refine x_alN 1 C dX7_bridgeOf_0 0 rfl rfl rfl ?_
  refine xgX7_0 4 C mq_668 dX7_bridgeOf_1 rfl ?_
  refine x_bipush 6 C (nI 21) dX7_bridgeOf_4 kb_21 rfl ?_
  refine x_ilN 7 C dX7_bridgeOf_6 1 rfl rfl rfl ?_
  refine x_iadd 8 C dX7_bridgeOf_7 rfl ?_
  refine xrR_1 9 C dX7_bridgeOf_8 rfl hf (fun x1 hf => ?_)
  exact x_iretP C HQ rfl (vp_nar_int _) dX7_bridgeOf_9 hf
set_option maxRecDepth 20000 in
set_option maxHeartbeats 1000000 in
theorem tX7_isActive {l : Launch} {Y : xY} {ad : Nat → Nat} {fr : va_W} {M : xM} {p1 : Int32} {z0 : Int32} (hf : fX7_isActive M p1 = some z0) : xcI l Y (wR Y ad fr) yX7_isActive cX7_isActive 2 (some .boolean) 1 21 [.ref (ad 0), .int p1] M z0 M := by
  refine x_entryI [(0, .ref (ad 0)), (1, .int p1)] pnX7 rfl (Nat.le_of_ble_eq_true rfl) rfl (fun X C HQ => ?_)
  unfold fX7_isActive at hf
  refine x_alN 1 C dX7_isActive_0 0 rfl rfl rfl ?_
  refine xgX7_0 4 C mq_668 dX7_isActive_1 rfl ?_
  refine x_bipush 6 C (nI 93) dX7_isActive_4 kb_93 rfl ?_
  refine x_ilN 7 C dX7_isActive_6 1 rfl rfl rfl ?_
  refine x_iadd 8 C dX7_isActive_7 rfl ?_
  refine xrR_1 9 C dX7_isActive_8 rfl hf (fun x1 hf => ?_)
  refine x_iconst 10 C (nI 1) dX7_isActive_9 ki_1 rfl ?_
  refine x_icmp_ne 13 C 34 dX7_isActive_10 (by decide) rfl hf (fun hf => ?_) (fun hf => ?_)
  ·
    refine x_iconst 35 C (nI 0) dX7_isActive_34 ki_0 rfl ?_
    exact x_iretP C HQ rfl rfl dX7_isActive_35 hf
  ·
    refine x_alN 14 C dX7_isActive_13 0 rfl rfl rfl ?_
    refine xgX7_0 17 C mq_668 dX7_isActive_14 rfl ?_
    refine x_bipush 19 C (nI 13) dX7_isActive_17 kb_13 rfl ?_
    refine x_alN 20 C dX7_isActive_19 0 rfl rfl rfl ?_
    refine x_ilN 21 C dX7_isActive_20 1 rfl rfl rfl ?_
    refine x_cvIP 24 C [.int p1] hwX7_bridgeOf mq_749 dX7_isActive_21 rfl ⟨Nat.le_of_ble_eq_true rfl, Nat.le_of_ble_eq_true rfl⟩ 0 wR_at_0 rfl rfl rfl (Nat.le_of_ble_eq_true rfl) (fun z hz => tX7_bridgeOf hz) hf (fun z2 hf => ?_)
    refine x_iadd 25 C dX7_isActive_24 rfl ?_
    refine xrR_1 26 C dX7_isActive_25 rfl hf (fun x3 hf => ?_)
    refine x_iconst 27 C (nI 1) dX7_isActive_26 ki_1 rfl ?_
    refine x_icmp_ne 30 C 34 dX7_isActive_27 (by decide) rfl hf (fun hf => ?_) (fun hf => ?_)
    ·
      refine x_iconst 35 C (nI 0) dX7_isActive_34 ki_0 rfl ?_
      exact x_iretP C HQ rfl rfl dX7_isActive_35 hf
    ·
      refine x_iconst 31 C (nI 1) dX7_isActive_30 ki_1 rfl ?_
      refine x_goto 35 C dX7_isActive_31 (by decide) ?_
      exact x_iretP C HQ rfl rfl dX7_isActive_35 hf
set_option maxRecDepth 20000 in
set_option maxHeartbeats 1000000 in
theorem tX7_idOf {l : Launch} {Y : xY} {ad : Nat → Nat} {fr : va_W} {M : xM} {p1 : Int32} {z0 : Int32} (hf : fX7_idOf M p1 = some z0) : xcI l Y (wR Y ad fr) yX7_idOf cX7_idOf 2 (some .int) 0 0 [.ref (ad 0), .int p1] M z0 M := by
  refine x_entryI [(0, .ref (ad 0)), (1, .int p1)] pnX7 rfl (Nat.le_of_ble_eq_true rfl) rfl (fun X C HQ => ?_)
  unfold fX7_idOf at hf
  refine x_bipush 2 C (nI 16) dX7_idOf_0 kb_16 rfl ?_
  refine x_alN 3 C dX7_idOf_2 0 rfl rfl rfl ?_
  refine xgX7_0 6 C mq_668 dX7_idOf_3 rfl ?_
  refine x_iconst 7 C (nI 5) dX7_idOf_6 ki_5 rfl ?_
  refine x_ilN 8 C dX7_idOf_7 1 rfl rfl rfl ?_
  refine x_iadd 9 C dX7_idOf_8 rfl ?_
  refine xrR_1 10 C dX7_idOf_9 rfl hf (fun x1 hf => ?_)
  refine x_imul 11 C dX7_idOf_10 rfl ?_
  refine x_ilN 12 C dX7_idOf_11 1 rfl rfl rfl ?_
  refine x_iadd 13 C dX7_idOf_12 rfl ?_
  exact x_iretP C HQ rfl (vp_nar_int _) dX7_idOf_13 hf
set_option maxRecDepth 20000 in
set_option maxHeartbeats 1000000 in
theorem tX7_message {l : Launch} {Y : xY} {ad : Nat → Nat} {fr : va_W} {M : xM} {p1 : Int32} {p2 : Int32} {z0 : Int32} (hf : fX7_message M p1 p2 = some z0) : xcI l Y (wR Y ad fr) yX7_message cX7_message 3 (some .int) 0 0 [.ref (ad 0), .int p1, .int p2] M z0 M := by
  refine x_entryI [(0, .ref (ad 0)), (1, .int p1), (2, .int p2)] pnX7 rfl (Nat.le_of_ble_eq_true rfl) rfl (fun X C HQ => ?_)
  unfold fX7_message at hf
  refine x_alN 1 C dX7_message_0 0 rfl rfl rfl ?_
  refine xgX7_0 4 C mq_668 dX7_message_1 rfl ?_
  refine x_sipush 7 C (nI 165) dX7_message_4 ks_165 rfl ?_
  refine x_iconst 8 C (nI 5) dX7_message_7 ki_5 rfl ?_
  refine x_ilN 9 C dX7_message_8 1 rfl rfl rfl ?_
  refine x_imul 10 C dX7_message_9 rfl ?_
  refine x_iadd 11 C dX7_message_10 rfl ?_
  refine x_ilN 12 C dX7_message_11 2 rfl rfl rfl ?_
  refine x_iadd 13 C dX7_message_12 rfl ?_
  refine xrR_1 14 C dX7_message_13 rfl hf (fun x1 hf => ?_)
  exact x_iretP C HQ rfl (vp_nar_int _) dX7_message_14 hf
set_option maxRecDepth 20000 in
set_option maxHeartbeats 1000000 in
theorem tX7_stores {l : Launch} {Y : xY} {ad : Nat → Nat} {fr : va_W} {M : xM} {p1 : Int32} {z0 : Int32} (hf : fX7_stores M p1 = some z0) : xcI l Y (wR Y ad fr) yX7_stores cX7_stores 2 (some .boolean) 1 22 [.ref (ad 0), .int p1] M z0 M := by
  refine x_entryI [(0, .ref (ad 0)), (1, .int p1)] pnX7 rfl (Nat.le_of_ble_eq_true rfl) rfl (fun X C HQ => ?_)
  unfold fX7_stores at hf
  refine x_alN 1 C dX7_stores_0 0 rfl rfl rfl ?_
  refine x_ilN 2 C dX7_stores_1 1 rfl rfl rfl ?_
  refine x_iconst 3 C (nI 4) dX7_stores_2 ki_4 rfl ?_
  refine x_cvIP 6 C [.int p1, .int (nI 4)] hwX7_message mq_817 dX7_stores_3 rfl ⟨Nat.le_of_ble_eq_true rfl, Nat.le_of_ble_eq_true rfl⟩ 0 wR_at_0 rfl rfl rfl (Nat.le_of_ble_eq_true rfl) (fun z hz => tX7_message hz) hf (fun z1 hf => ?_)
  refine x_if_le 9 C 13 dX7_stores_6 (by decide) rfl hf (fun hf => ?_) (fun hf => ?_)
  ·
    refine x_iconst 14 C (nI 0) dX7_stores_13 ki_0 rfl ?_
    exact x_iretP C HQ rfl rfl dX7_stores_14 hf
  ·
    refine x_iconst 10 C (nI 1) dX7_stores_9 ki_1 rfl ?_
    refine x_goto 14 C dX7_stores_10 (by decide) ?_
    exact x_iretP C HQ rfl rfl dX7_stores_14 hf
set_option maxRecDepth 20000 in
set_option maxHeartbeats 1000000 in
theorem tX7_addBridge {l : Launch} {Y : xY} {ad : Nat → Nat} {fr : va_W} {M : xM} {p1 : Int32} {z0 : Int32 × xM} (hf : fX7_addBridge M p1 = some z0) : xcI l Y (wR Y ad fr) yX7_addBridge cX7_addBridge 3 (some .int) 1 22 [.ref (ad 0), .int p1] M z0.1 z0.2 := by
  refine x_entryI [(0, .ref (ad 0)), (1, .int p1)] pnX7 rfl (Nat.le_of_ble_eq_true rfl) rfl (fun X C HQ => ?_)
  unfold fX7_addBridge at hf
  refine x_ilN 1 C dX7_addBridge_0 1 rfl rfl rfl ?_
  refine x_iconst 2 C (nI 0) dX7_addBridge_1 ki_0 rfl ?_
  refine x_bipush 4 C (nI 15) dX7_addBridge_2 kb_15 rfl ?_
  refine x_csIP 7 C [.int p1, .int (nI 0), .int (nI 15)] hwX7_in mq_722 dX7_addBridge_4 rfl ⟨Nat.le_of_ble_eq_true rfl, Nat.le_of_ble_eq_true rfl⟩ rfl rfl (Nat.le_of_ble_eq_true rfl) (fun z hz => tX7_in hz) hf (fun z1 hf => ?_)
  refine x_if_ne 10 C 13 dX7_addBridge_7 (by decide) rfl hf (fun hf => ?_) (fun hf => ?_)
  ·
    refine x_alN 14 C dX7_addBridge_13 0 rfl rfl rfl ?_
    refine xgX7_0 17 C mq_668 dX7_addBridge_14 rfl ?_
    refine x_iconst 18 C (nI 0) dX7_addBridge_17 ki_0 rfl ?_
    refine xrR_1 19 C dX7_addBridge_18 rfl hf (fun x2 hf => ?_)
    refine x_bipush 21 C (nI 8) dX7_addBridge_19 kb_8 rfl ?_
    refine x_icmp_ne 24 C 27 dX7_addBridge_21 (by decide) rfl hf (fun hf => ?_) (fun hf => ?_)
    ·
      refine x_alN 28 C dX7_addBridge_27 0 rfl rfl rfl ?_
      refine xgX7_0 31 C mq_668 dX7_addBridge_28 rfl ?_
      refine x_iconst 32 C (nI 0) dX7_addBridge_31 ki_0 rfl ?_
      refine xrR_1 33 C dX7_addBridge_32 rfl hf (fun x3 hf => ?_)
      refine x_isN 34 C 2 (lv2 := [(2, .int x3), (0, .ref (ad 0)), (1, .int p1)]) dX7_addBridge_33 rfl rfl (Nat.le_of_ble_eq_true rfl) rfl ?_
      refine x_alN 35 C dX7_addBridge_34 1 rfl rfl rfl ?_
      refine xgX7_0 38 C mq_668 dX7_addBridge_35 rfl ?_
      refine x_iconst 39 C (nI 5) dX7_addBridge_38 ki_5 rfl ?_
      refine x_ilN 40 C dX7_addBridge_39 0 rfl rfl rfl ?_
      refine x_iadd 41 C dX7_addBridge_40 rfl ?_
      refine x_ilN 42 C dX7_addBridge_41 2 rfl rfl rfl ?_
      refine xwR_1 43 C dX7_addBridge_42 rfl hf (fun M4 hf => ?_)
      refine x_alN 44 C dX7_addBridge_43 1 rfl rfl rfl ?_
      refine xgX7_0 47 C mq_668 dX7_addBridge_44 rfl ?_
      refine x_bipush 49 C (nI 13) dX7_addBridge_47 kb_13 rfl ?_
      refine x_ilN 50 C dX7_addBridge_49 0 rfl rfl rfl ?_
      refine x_iadd 51 C dX7_addBridge_50 rfl ?_
      refine x_iconst 52 C (nI 1) dX7_addBridge_51 ki_1 rfl ?_
      refine xwR_1 53 C dX7_addBridge_52 rfl hf (fun M5 hf => ?_)
      refine x_alN 54 C dX7_addBridge_53 1 rfl rfl rfl ?_
      refine xgX7_0 57 C mq_668 dX7_addBridge_54 rfl ?_
      refine x_iconst 58 C (nI 0) dX7_addBridge_57 ki_0 rfl ?_
      refine x_dup2 59 C dX7_addBridge_58 rfl rfl rfl ?_
      refine xrR_1 60 C dX7_addBridge_59 rfl hf (fun x6 hf => ?_)
      refine x_iconst 61 C (nI 1) dX7_addBridge_60 ki_1 rfl ?_
      refine x_iadd 62 C dX7_addBridge_61 rfl ?_
      refine xwR_1 63 C dX7_addBridge_62 rfl hf (fun M7 hf => ?_)
      refine x_ilN 64 C dX7_addBridge_63 0 rfl rfl rfl ?_
      exact x_iretM C HQ rfl (vp_nar_int _) dX7_addBridge_64 hf
    ·
      refine x_bipush 26 C (-6) dX7_addBridge_24 kb_m6 rfl ?_
      exact x_iretM C HQ rfl (vp_nar_int _) dX7_addBridge_26 hf
  ·
    refine x_bipush 12 C (-5) dX7_addBridge_10 kb_m5 rfl ?_
    exact x_iretM C HQ rfl (vp_nar_int _) dX7_addBridge_12 hf
set_option maxRecDepth 20000 in
set_option maxHeartbeats 1000000 in
theorem tX7_addSegment {l : Launch} {Y : xY} {ad : Nat → Nat} {fr : va_W} {M : xM}  {z0 : Int32 × xM} (hf : fX7_addSegment M = some z0) : xcI l Y (wR Y ad fr) yX7_addSegment cX7_addSegment 1 (some .int) 0 0 [.ref (ad 0)] M z0.1 z0.2 := by
  refine x_entryI [(0, .ref (ad 0))] pnX7 rfl (Nat.le_of_ble_eq_true rfl) rfl (fun X C HQ => ?_)
  unfold fX7_addSegment at hf
  refine x_alN 1 C dX7_addSegment_0 0 rfl rfl rfl ?_
  refine xgX7_0 4 C mq_668 dX7_addSegment_1 rfl ?_
  refine x_iconst 5 C (nI 1) dX7_addSegment_4 ki_1 rfl ?_
  refine xrR_1 6 C dX7_addSegment_5 rfl hf (fun x1 hf => ?_)
  refine x_bipush 8 C (nI 10) dX7_addSegment_6 kb_10 rfl ?_
  refine x_icmp_ne 11 C 14 dX7_addSegment_8 (by decide) rfl hf (fun hf => ?_) (fun hf => ?_)
  ·
    refine x_alN 15 C dX7_addSegment_14 0 rfl rfl rfl ?_
    refine xgX7_0 18 C mq_668 dX7_addSegment_15 rfl ?_
    refine x_iconst 19 C (nI 1) dX7_addSegment_18 ki_1 rfl ?_
    refine x_dup2 20 C dX7_addSegment_19 rfl rfl rfl ?_
    refine xrR_1 21 C dX7_addSegment_20 rfl hf (fun x2 hf => ?_)
    refine x_iconst 22 C (nI 1) dX7_addSegment_21 ki_1 rfl ?_
    refine x_iadd 23 C dX7_addSegment_22 rfl ?_
    refine xwR_1 24 C dX7_addSegment_23 rfl hf (fun M3 hf => ?_)
    refine x_alN 25 C dX7_addSegment_24 0 rfl rfl rfl ?_
    refine xgX7_0 28 C mq_668 dX7_addSegment_25 rfl ?_
    refine x_iconst 29 C (nI 1) dX7_addSegment_28 ki_1 rfl ?_
    refine xrR_1 30 C dX7_addSegment_29 rfl hf (fun x4 hf => ?_)
    refine x_iconst 31 C (nI 1) dX7_addSegment_30 ki_1 rfl ?_
    refine x_isub 32 C dX7_addSegment_31 rfl ?_
    exact x_iretM C HQ rfl (vp_nar_int _) dX7_addSegment_32 hf
  ·
    refine x_bipush 13 C (-6) dX7_addSegment_11 kb_m6 rfl ?_
    exact x_iretM C HQ rfl (vp_nar_int _) dX7_addSegment_13 hf
set_option maxRecDepth 20000 in
set_option maxHeartbeats 1000000 in
theorem tX7_addPort_j119 {l : Launch} {Y : xY} {X : xE} {ad : Nat → Nat} {fr : va_W} {z0 : Int32 × xM} (C : xC Y X cX7_addPort RX7 (some .int) 5 2 43) (HQ : xRI Y X (wR Y ad fr) z0.1 z0.2) (M : xM) (v4 : Int32) (s0 : Int32) (s1 : Int32)  (hf : fX7_addPort_j119 M v4 s0 s1 = some z0) : xG Y l X (wR Y ad fr) M 119 [(0, .ref (ad 0)), (4, .int v4)] [.int s0, .int s1, .ref (ad 1)] := by
  unfold fX7_addPort_j119 at hf
  refine xwR_1 120 C dX7_addPort_119 rfl hf (fun M11 hf => ?_)
  refine x_alN 121 C dX7_addPort_120 0 rfl rfl rfl ?_
  refine xgX7_0 124 C mq_668 dX7_addPort_121 rfl ?_
  refine x_iconst 125 C (nI 2) dX7_addPort_124 ki_2 rfl ?_
  refine x_dup2 126 C dX7_addPort_125 rfl rfl rfl ?_
  refine xrR_1 127 C dX7_addPort_126 rfl hf (fun x12 hf => ?_)
  refine x_iconst 128 C (nI 1) dX7_addPort_127 ki_1 rfl ?_
  refine x_iadd 129 C dX7_addPort_128 rfl ?_
  refine xwR_1 130 C dX7_addPort_129 rfl hf (fun M13 hf => ?_)
  refine x_il 132 C dX7_addPort_130 1 rfl rfl ?_
  exact x_iretM C HQ rfl (vp_nar_int _) dX7_addPort_132 hf
set_option maxRecDepth 20000 in
set_option maxHeartbeats 1000000 in
theorem tX7_addPort {l : Launch} {Y : xY} {ad : Nat → Nat} {fr : va_W} {M : xM} {p1 : Int32} {p2 : Int32} {p3 : Int32} {z0 : Int32 × xM} (hf : fX7_addPort M p1 p2 p3 = some z0) : xcI l Y (wR Y ad fr) yX7_addPort cX7_addPort 5 (some .int) 2 43 [.ref (ad 0), .int p1, .int p2, .int p3] M z0.1 z0.2 := by
  refine x_entryI [(0, .ref (ad 0)), (1, .int p1), (2, .int p2), (3, .int p3)] pnX7 rfl (Nat.le_of_ble_eq_true rfl) rfl (fun X C HQ => ?_)
  unfold fX7_addPort at hf
  refine x_alN 1 C dX7_addPort_0 0 rfl rfl rfl ?_
  refine x_ilN 2 C dX7_addPort_1 1 rfl rfl rfl ?_
  refine x_cvIP 5 C [.int p1] hwX7_isBridge mq_733 dX7_addPort_2 rfl ⟨Nat.le_of_ble_eq_true rfl, Nat.le_of_ble_eq_true rfl⟩ 0 wR_at_0 rfl rfl rfl (Nat.le_of_ble_eq_true rfl) (fun z hz => tX7_isBridge hz) hf (fun z1 hf => ?_)
  refine x_if_ne 8 C 10 dX7_addPort_5 (by decide) rfl hf (fun hf => ?_) (fun hf => ?_)
  ·
    refine x_alN 11 C dX7_addPort_10 0 rfl rfl rfl ?_
    refine x_ilN 12 C dX7_addPort_11 2 rfl rfl rfl ?_
    refine x_cvIP 15 C [.int p2] hwX7_isSegment mq_737 dX7_addPort_12 rfl ⟨Nat.le_of_ble_eq_true rfl, Nat.le_of_ble_eq_true rfl⟩ 0 wR_at_0 rfl rfl rfl (Nat.le_of_ble_eq_true rfl) (fun z hz => tX7_isSegment hz) hf (fun z2 hf => ?_)
    refine x_if_ne 18 C 21 dX7_addPort_15 (by decide) rfl hf (fun hf => ?_) (fun hf => ?_)
    ·
      refine x_ilN 22 C dX7_addPort_21 3 rfl rfl rfl ?_
      refine x_iconst 23 C (nI 1) dX7_addPort_22 ki_1 rfl ?_
      refine x_bipush 25 C (nI 100) dX7_addPort_23 kb_100 rfl ?_
      refine x_csIP 28 C [.int p3, .int (nI 1), .int (nI 100)] hwX7_in mq_722 dX7_addPort_25 rfl ⟨Nat.le_of_ble_eq_true rfl, Nat.le_of_ble_eq_true rfl⟩ rfl rfl (Nat.le_of_ble_eq_true rfl) (fun z hz => tX7_in hz) hf (fun z3 hf => ?_)
      refine x_if_ne 31 C 34 dX7_addPort_28 (by decide) rfl hf (fun hf => ?_) (fun hf => ?_)
      ·
        refine x_alN 35 C dX7_addPort_34 0 rfl rfl rfl ?_
        refine x_cvIP 38 C [] hwX7_ports mq_741 dX7_addPort_35 rfl ⟨Nat.le_of_ble_eq_true rfl, Nat.le_of_ble_eq_true rfl⟩ 0 wR_at_0 rfl rfl rfl (Nat.le_of_ble_eq_true rfl) (fun z hz => tX7_ports hz) hf (fun z4 hf => ?_)
        refine x_bipush 40 C (nI 24) dX7_addPort_38 kb_24 rfl ?_
        refine x_icmp_ne 43 C 46 dX7_addPort_40 (by decide) rfl hf (fun hf => ?_) (fun hf => ?_)
        ·
          refine x_alN 47 C dX7_addPort_46 0 rfl rfl rfl ?_
          refine x_cvIP 50 C [] hwX7_ports mq_741 dX7_addPort_47 rfl ⟨Nat.le_of_ble_eq_true rfl, Nat.le_of_ble_eq_true rfl⟩ 0 wR_at_0 rfl rfl rfl (Nat.le_of_ble_eq_true rfl) (fun z hz => tX7_ports hz) hf (fun z5 hf => ?_)
          refine x_is 52 C 4 (lv2 := [(4, .int z5), (0, .ref (ad 0)), (1, .int p1), (2, .int p2), (3, .int p3)]) dX7_addPort_50 rfl (Nat.le_of_ble_eq_true rfl) rfl ?_
          refine x_alN 53 C dX7_addPort_52 1 rfl rfl rfl ?_
          refine xgX7_0 56 C mq_668 dX7_addPort_53 rfl ?_
          refine x_bipush 58 C (nI 21) dX7_addPort_56 kb_21 rfl ?_
          refine x_il 60 C dX7_addPort_58 0 rfl rfl ?_
          refine x_iadd 61 C dX7_addPort_60 rfl ?_
          refine x_ilN 62 C dX7_addPort_61 2 rfl rfl rfl ?_
          refine xwR_1 63 C dX7_addPort_62 rfl hf (fun M6 hf => ?_)
          refine x_alN 64 C dX7_addPort_63 1 rfl rfl rfl ?_
          refine xgX7_0 67 C mq_668 dX7_addPort_64 rfl ?_
          refine x_bipush 69 C (nI 45) dX7_addPort_67 kb_45 rfl ?_
          refine x_il 71 C dX7_addPort_69 0 rfl rfl ?_
          refine x_iadd 72 C dX7_addPort_71 rfl ?_
          refine x_ilN 73 C dX7_addPort_72 3 rfl rfl rfl ?_
          refine xwR_1 74 C dX7_addPort_73 rfl hf (fun M7 hf => ?_)
          refine x_alN 75 C dX7_addPort_74 1 rfl rfl rfl ?_
          refine xgX7_0 78 C mq_668 dX7_addPort_75 rfl ?_
          refine x_bipush 80 C (nI 69) dX7_addPort_78 kb_69 rfl ?_
          refine x_il 82 C dX7_addPort_80 0 rfl rfl ?_
          refine x_iadd 83 C dX7_addPort_82 rfl ?_
          refine x_ilN 84 C dX7_addPort_83 4 rfl rfl rfl ?_
          refine xwR_1 85 C dX7_addPort_84 rfl hf (fun M8 hf => ?_)
          refine x_alN 86 C dX7_addPort_85 1 rfl rfl rfl ?_
          refine xgX7_0 89 C mq_668 dX7_addPort_86 rfl ?_
          refine x_bipush 91 C (nI 93) dX7_addPort_89 kb_93 rfl ?_
          refine x_il 93 C dX7_addPort_91 0 rfl rfl ?_
          refine x_iadd 94 C dX7_addPort_93 rfl ?_
          refine x_iconst 95 C (nI 1) dX7_addPort_94 ki_1 rfl ?_
          refine xwR_1 96 C dX7_addPort_95 rfl hf (fun M9 hf => ?_)
          refine x_alN 97 C dX7_addPort_96 1 rfl rfl rfl ?_
          refine xgX7_0 100 C mq_668 dX7_addPort_97 rfl ?_
          refine x_bipush 102 C (nI 117) dX7_addPort_100 kb_117 rfl ?_
          refine x_il 104 C dX7_addPort_102 0 rfl rfl ?_
          refine x_iadd 105 C dX7_addPort_104 rfl ?_
          refine x_alN 106 C dX7_addPort_105 1 rfl rfl rfl ?_
          refine x_il 108 C dX7_addPort_106 0 rfl rfl ?_
          refine x_cvIP 111 C [.int z5] hwX7_isActive mq_745 dX7_addPort_108 rfl ⟨Nat.le_of_ble_eq_true rfl, Nat.le_of_ble_eq_true rfl⟩ 0 wR_at_0 rfl rfl rfl (Nat.le_of_ble_eq_true rfl) (fun z hz => tX7_isActive hz) hf (fun z10 hf => ?_)
          refine x_if_eq 114 C 118 dX7_addPort_111 (by decide) rfl hf (fun hf => ?_) (fun hf => ?_)
          ·
            refine x_iconst 119 C (nI 0) dX7_addPort_118 ki_0 rfl ?_
            refine x_sub [1, 0] rfl ?_
            exact tX7_addPort_j119 C HQ _ _ _ _  hf
          ·
            refine x_iconst 115 C (nI 1) dX7_addPort_114 ki_1 rfl ?_
            refine x_goto 119 C dX7_addPort_115 (by decide) ?_
            refine x_sub [1, 0] rfl ?_
            exact tX7_addPort_j119 C HQ _ _ _ _  hf
        ·
          refine x_bipush 45 C (-6) dX7_addPort_43 kb_m6 rfl ?_
          exact x_iretM C HQ rfl (vp_nar_int _) dX7_addPort_45 hf
      ·
        refine x_bipush 33 C (-5) dX7_addPort_31 kb_m5 rfl ?_
        exact x_iretM C HQ rfl (vp_nar_int _) dX7_addPort_33 hf
    ·
      refine x_bipush 20 C (-2) dX7_addPort_18 kb_m2 rfl ?_
      exact x_iretM C HQ rfl (vp_nar_int _) dX7_addPort_20 hf
  ·
    refine x_iconst 9 C (-1) dX7_addPort_8 ki_m1 rfl ?_
    exact x_iretM C HQ rfl (vp_nar_int _) dX7_addPort_9 hf
set_option maxRecDepth 20000 in
set_option maxHeartbeats 1000000 in
theorem tX7_addStation {l : Launch} {Y : xY} {ad : Nat → Nat} {fr : va_W} {M : xM} {p1 : Int32} {z0 : Int32 × xM} (hf : fX7_addStation M p1 = some z0) : xcI l Y (wR Y ad fr) yX7_addStation cX7_addStation 2 (some .int) 2 43 [.ref (ad 0), .int p1] M z0.1 z0.2 := by
  refine x_entryI [(0, .ref (ad 0)), (1, .int p1)] pnX7 rfl (Nat.le_of_ble_eq_true rfl) rfl (fun X C HQ => ?_)
  unfold fX7_addStation at hf
  refine x_alN 1 C dX7_addStation_0 0 rfl rfl rfl ?_
  refine x_ilN 2 C dX7_addStation_1 1 rfl rfl rfl ?_
  refine x_cvIP 5 C [.int p1] hwX7_isSegment mq_737 dX7_addStation_2 rfl ⟨Nat.le_of_ble_eq_true rfl, Nat.le_of_ble_eq_true rfl⟩ 0 wR_at_0 rfl rfl rfl (Nat.le_of_ble_eq_true rfl) (fun z hz => tX7_isSegment hz) hf (fun z1 hf => ?_)
  refine x_if_ne 8 C 11 dX7_addStation_5 (by decide) rfl hf (fun hf => ?_) (fun hf => ?_)
  ·
    refine x_alN 12 C dX7_addStation_11 0 rfl rfl rfl ?_
    refine xgX7_0 15 C mq_668 dX7_addStation_12 rfl ?_
    refine x_iconst 16 C (nI 3) dX7_addStation_15 ki_3 rfl ?_
    refine xrR_1 17 C dX7_addStation_16 rfl hf (fun x2 hf => ?_)
    refine x_bipush 19 C (nI 8) dX7_addStation_17 kb_8 rfl ?_
    refine x_icmp_ne 22 C 25 dX7_addStation_19 (by decide) rfl hf (fun hf => ?_) (fun hf => ?_)
    ·
      refine x_alN 26 C dX7_addStation_25 0 rfl rfl rfl ?_
      refine xgX7_0 29 C mq_668 dX7_addStation_26 rfl ?_
      refine x_sipush 32 C (nI 285) dX7_addStation_29 ks_285 rfl ?_
      refine x_alN 33 C dX7_addStation_32 0 rfl rfl rfl ?_
      refine xgX7_0 36 C mq_668 dX7_addStation_33 rfl ?_
      refine x_iconst 37 C (nI 3) dX7_addStation_36 ki_3 rfl ?_
      refine xrR_1 38 C dX7_addStation_37 rfl hf (fun x3 hf => ?_)
      refine x_iadd 39 C dX7_addStation_38 rfl ?_
      refine x_ilN 40 C dX7_addStation_39 1 rfl rfl rfl ?_
      refine xwR_1 41 C dX7_addStation_40 rfl hf (fun M4 hf => ?_)
      refine x_alN 42 C dX7_addStation_41 0 rfl rfl rfl ?_
      refine xgX7_0 45 C mq_668 dX7_addStation_42 rfl ?_
      refine x_iconst 46 C (nI 3) dX7_addStation_45 ki_3 rfl ?_
      refine x_dup2 47 C dX7_addStation_46 rfl rfl rfl ?_
      refine xrR_1 48 C dX7_addStation_47 rfl hf (fun x5 hf => ?_)
      refine x_iconst 49 C (nI 1) dX7_addStation_48 ki_1 rfl ?_
      refine x_iadd 50 C dX7_addStation_49 rfl ?_
      refine xwR_1 51 C dX7_addStation_50 rfl hf (fun M6 hf => ?_)
      refine x_alN 52 C dX7_addStation_51 0 rfl rfl rfl ?_
      refine xgX7_0 55 C mq_668 dX7_addStation_52 rfl ?_
      refine x_iconst 56 C (nI 3) dX7_addStation_55 ki_3 rfl ?_
      refine xrR_1 57 C dX7_addStation_56 rfl hf (fun x7 hf => ?_)
      refine x_iconst 58 C (nI 1) dX7_addStation_57 ki_1 rfl ?_
      refine x_isub 59 C dX7_addStation_58 rfl ?_
      exact x_iretM C HQ rfl (vp_nar_int _) dX7_addStation_59 hf
    ·
      refine x_bipush 24 C (-6) dX7_addStation_22 kb_m6 rfl ?_
      exact x_iretM C HQ rfl (vp_nar_int _) dX7_addStation_24 hf
  ·
    refine x_bipush 10 C (-2) dX7_addStation_8 kb_m2 rfl ?_
    exact x_iretM C HQ rfl (vp_nar_int _) dX7_addStation_10 hf
set_option maxRecDepth 20000 in
set_option maxHeartbeats 1000000 in
theorem tX7_set {l : Launch} {Y : xY} {ad : Nat → Nat} {fr : va_W} {M : xM} {p1 : Int32} {p2 : Int32} {z0 : Int32 × xM} (hf : fX7_set M p1 p2 = some z0) : xcI l Y (wR Y ad fr) yX7_set cX7_set 4 (some .int) 0 0 [.ref (ad 0), .int p1, .int p2] M z0.1 z0.2 := by
  refine x_entryI [(0, .ref (ad 0)), (1, .int p1), (2, .int p2)] pnX7 rfl (Nat.le_of_ble_eq_true rfl) rfl (fun X C HQ => ?_)
  unfold fX7_set at hf
  refine x_alN 1 C dX7_set_0 0 rfl rfl rfl ?_
  refine xgX7_0 4 C mq_668 dX7_set_1 rfl ?_
  refine x_ilN 5 C dX7_set_4 1 rfl rfl rfl ?_
  refine xrR_1 6 C dX7_set_5 rfl hf (fun x1 hf => ?_)
  refine x_isN 7 C 3 (lv2 := [(3, .int x1), (0, .ref (ad 0)), (1, .int p1), (2, .int p2)]) dX7_set_6 rfl rfl (Nat.le_of_ble_eq_true rfl) rfl ?_
  refine x_alN 8 C dX7_set_7 1 rfl rfl rfl ?_
  refine xgX7_0 11 C mq_668 dX7_set_8 rfl ?_
  refine x_ilN 12 C dX7_set_11 2 rfl rfl rfl ?_
  refine x_ilN 13 C dX7_set_12 3 rfl rfl rfl ?_
  refine xwR_1 14 C dX7_set_13 rfl hf (fun M2 hf => ?_)
  refine x_ilN 15 C dX7_set_14 0 rfl rfl rfl ?_
  exact x_iretM C HQ rfl (vp_nar_int _) dX7_set_15 hf
set_option maxRecDepth 20000 in
set_option maxHeartbeats 1000000 in
theorem tX7_setPriority {l : Launch} {Y : xY} {ad : Nat → Nat} {fr : va_W} {M : xM} {p1 : Int32} {p2 : Int32} {z0 : Int32 × xM} (hf : fX7_setPriority M p1 p2 = some z0) : xcI l Y (wR Y ad fr) yX7_setPriority cX7_setPriority 3 (some .int) 2 43 [.ref (ad 0), .int p1, .int p2] M z0.1 z0.2 := by
  refine x_entryI [(0, .ref (ad 0)), (1, .int p1), (2, .int p2)] pnX7 rfl (Nat.le_of_ble_eq_true rfl) rfl (fun X C HQ => ?_)
  unfold fX7_setPriority at hf
  refine x_alN 1 C dX7_setPriority_0 0 rfl rfl rfl ?_
  refine x_ilN 2 C dX7_setPriority_1 1 rfl rfl rfl ?_
  refine x_cvIP 5 C [.int p1] hwX7_isBridge mq_733 dX7_setPriority_2 rfl ⟨Nat.le_of_ble_eq_true rfl, Nat.le_of_ble_eq_true rfl⟩ 0 wR_at_0 rfl rfl rfl (Nat.le_of_ble_eq_true rfl) (fun z hz => tX7_isBridge hz) hf (fun z1 hf => ?_)
  refine x_if_ne 8 C 10 dX7_setPriority_5 (by decide) rfl hf (fun hf => ?_) (fun hf => ?_)
  ·
    refine x_ilN 11 C dX7_setPriority_10 2 rfl rfl rfl ?_
    refine x_iconst 12 C (nI 0) dX7_setPriority_11 ki_0 rfl ?_
    refine x_bipush 14 C (nI 15) dX7_setPriority_12 kb_15 rfl ?_
    refine x_csIP 17 C [.int p2, .int (nI 0), .int (nI 15)] hwX7_in mq_722 dX7_setPriority_14 rfl ⟨Nat.le_of_ble_eq_true rfl, Nat.le_of_ble_eq_true rfl⟩ rfl rfl (Nat.le_of_ble_eq_true rfl) (fun z hz => tX7_in hz) hf (fun z2 hf => ?_)
    refine x_if_eq 20 C 31 dX7_setPriority_17 (by decide) rfl hf (fun hf => ?_) (fun hf => ?_)
    ·
      refine x_bipush 33 C (-5) dX7_setPriority_31 kb_m5 rfl ?_
      exact x_iretM C HQ rfl (vp_nar_int _) dX7_setPriority_33 hf
    ·
      refine x_alN 21 C dX7_setPriority_20 0 rfl rfl rfl ?_
      refine x_iconst 22 C (nI 5) dX7_setPriority_21 ki_5 rfl ?_
      refine x_ilN 23 C dX7_setPriority_22 1 rfl rfl rfl ?_
      refine x_iadd 24 C dX7_setPriority_23 rfl ?_
      refine x_ilN 25 C dX7_setPriority_24 2 rfl rfl rfl ?_
      refine x_cvIM 28 C [.int ((nI 5) + p1), .int p2] hwX7_set mq_761 dX7_setPriority_25 rfl ⟨Nat.le_of_ble_eq_true rfl, Nat.le_of_ble_eq_true rfl⟩ 0 wR_at_0 rfl rfl rfl (Nat.le_of_ble_eq_true rfl) (fun z hz => tX7_set hz) hf (fun z3 hf => ?_)
      refine x_goto 33 C dX7_setPriority_28 (by decide) ?_
      exact x_iretM C HQ rfl (vp_nar_int _) dX7_setPriority_33 hf
  ·
    refine x_iconst 9 C (-1) dX7_setPriority_8 ki_m1 rfl ?_
    exact x_iretM C HQ rfl (vp_nar_int _) dX7_setPriority_9 hf
set_option maxRecDepth 20000 in
set_option maxHeartbeats 1000000 in
theorem tX7_setCost {l : Launch} {Y : xY} {ad : Nat → Nat} {fr : va_W} {M : xM} {p1 : Int32} {p2 : Int32} {z0 : Int32 × xM} (hf : fX7_setCost M p1 p2 = some z0) : xcI l Y (wR Y ad fr) yX7_setCost cX7_setCost 3 (some .int) 2 43 [.ref (ad 0), .int p1, .int p2] M z0.1 z0.2 := by
  refine x_entryI [(0, .ref (ad 0)), (1, .int p1), (2, .int p2)] pnX7 rfl (Nat.le_of_ble_eq_true rfl) rfl (fun X C HQ => ?_)
  unfold fX7_setCost at hf
  refine x_alN 1 C dX7_setCost_0 0 rfl rfl rfl ?_
  refine x_ilN 2 C dX7_setCost_1 1 rfl rfl rfl ?_
  refine x_cvIP 5 C [.int p1] hwX7_isPort mq_769 dX7_setCost_2 rfl ⟨Nat.le_of_ble_eq_true rfl, Nat.le_of_ble_eq_true rfl⟩ 0 wR_at_0 rfl rfl rfl (Nat.le_of_ble_eq_true rfl) (fun z hz => tX7_isPort hz) hf (fun z1 hf => ?_)
  refine x_if_ne 8 C 11 dX7_setCost_5 (by decide) rfl hf (fun hf => ?_) (fun hf => ?_)
  ·
    refine x_ilN 12 C dX7_setCost_11 2 rfl rfl rfl ?_
    refine x_iconst 13 C (nI 1) dX7_setCost_12 ki_1 rfl ?_
    refine x_bipush 15 C (nI 100) dX7_setCost_13 kb_100 rfl ?_
    refine x_csIP 18 C [.int p2, .int (nI 1), .int (nI 100)] hwX7_in mq_722 dX7_setCost_15 rfl ⟨Nat.le_of_ble_eq_true rfl, Nat.le_of_ble_eq_true rfl⟩ rfl rfl (Nat.le_of_ble_eq_true rfl) (fun z hz => tX7_in hz) hf (fun z2 hf => ?_)
    refine x_if_eq 21 C 33 dX7_setCost_18 (by decide) rfl hf (fun hf => ?_) (fun hf => ?_)
    ·
      refine x_bipush 35 C (-5) dX7_setCost_33 kb_m5 rfl ?_
      exact x_iretM C HQ rfl (vp_nar_int _) dX7_setCost_35 hf
    ·
      refine x_alN 22 C dX7_setCost_21 0 rfl rfl rfl ?_
      refine x_bipush 24 C (nI 69) dX7_setCost_22 kb_69 rfl ?_
      refine x_ilN 25 C dX7_setCost_24 1 rfl rfl rfl ?_
      refine x_iadd 26 C dX7_setCost_25 rfl ?_
      refine x_ilN 27 C dX7_setCost_26 2 rfl rfl rfl ?_
      refine x_cvIM 30 C [.int ((nI 69) + p1), .int p2] hwX7_set mq_761 dX7_setCost_27 rfl ⟨Nat.le_of_ble_eq_true rfl, Nat.le_of_ble_eq_true rfl⟩ 0 wR_at_0 rfl rfl rfl (Nat.le_of_ble_eq_true rfl) (fun z hz => tX7_set hz) hf (fun z3 hf => ?_)
      refine x_goto 35 C dX7_setCost_30 (by decide) ?_
      exact x_iretM C HQ rfl (vp_nar_int _) dX7_setCost_35 hf
  ·
    refine x_bipush 10 C (-3) dX7_setCost_8 kb_m3 rfl ?_
    exact x_iretM C HQ rfl (vp_nar_int _) dX7_setCost_10 hf
set_option maxRecDepth 20000 in
set_option maxHeartbeats 1000000 in
theorem tX7_turn_B48 {l : Launch} {Y : xY} {X : xE} {ad : Nat → Nat} {fr : va_W} {z0 : xM} (C : xC Y X cX7_turn RX7 none 5 2 42) (HQ : xRV Y X (wR Y ad fr) z0)  (v1 : Int32) (v3 : Int32) (k106 : xM → Option (xM)) (Hk106 : ∀ (M : xM), k106 M = some z0 → xG Y l X (wR Y ad fr) M 106 [] []) (M : xM) (v4 : Int32) (b48 : xM → Int32 → Option (xM)) (Hb48 : ∀ (M : xM) (v4 : Int32), b48 M v4 = some z0 → xG Y l X (wR Y ad fr) M 48 [(0, .ref (ad 0)), (1, .int v1), (3, .int v3), (4, .int v4)] []) (hf : fX7_turn_B48 v1 v3 k106 M v4 b48 = some z0) : xG Y l X (wR Y ad fr) M 48 [(0, .ref (ad 0)), (1, .int v1), (3, .int v3), (4, .int v4)] [] := by
  unfold fX7_turn_B48 at hf
  refine x_il 50 C dX7_turn_48 3 rfl rfl ?_
  refine x_bipush 52 C (nI 64) dX7_turn_50 kb_64 rfl ?_
  refine x_icmp_ge 55 C 106 dX7_turn_52 (by decide) rfl hf (fun hf => ?_) (fun hf => ?_)
  ·
    refine x_sub [] rfl ?_
    exact Hk106 _ hf
  ·
    refine x_ilN 56 C dX7_turn_55 2 rfl rfl rfl ?_
    refine x_if_ne 59 C 100 dX7_turn_56 (by decide) rfl hf (fun hf => ?_) (fun hf => ?_)
    ·
      refine x_iinc 103 C (v4 + (nI 1)) (lv2 := [(4, .int (v4 + (nI 1))), (0, .ref (ad 0)), (1, .int v1), (3, .int v3)]) dX7_turn_100 3 rfl rfl rfl (Nat.le_of_ble_eq_true rfl) rfl ?_
      refine x_goto 48 C dX7_turn_103 (by decide) ?_
      refine x_sub [1, 2, 3, 0] rfl ?_
      exact Hb48 _ _ hf
    ·
      refine x_alN 60 C dX7_turn_59 0 rfl rfl rfl ?_
      refine xgX7_0 63 C mq_668 dX7_turn_60 rfl ?_
      refine x_sipush 66 C (nI 357) dX7_turn_63 ks_357 rfl ?_
      refine x_il 68 C dX7_turn_66 3 rfl rfl ?_
      refine x_iadd 69 C dX7_turn_68 rfl ?_
      refine xrR_1 70 C dX7_turn_69 rfl hf (fun x4 hf => ?_)
      refine x_if_le 73 C 100 dX7_turn_70 (by decide) rfl hf (fun hf => ?_) (fun hf => ?_)
      ·
        refine x_iinc 103 C (v4 + (nI 1)) (lv2 := [(4, .int (v4 + (nI 1))), (0, .ref (ad 0)), (1, .int v1), (3, .int v3)]) dX7_turn_100 3 rfl rfl rfl (Nat.le_of_ble_eq_true rfl) rfl ?_
        refine x_goto 48 C dX7_turn_103 (by decide) ?_
        refine x_sub [1, 2, 3, 0] rfl ?_
        exact Hb48 _ _ hf
      ·
        refine x_alN 74 C dX7_turn_73 0 rfl rfl rfl ?_
        refine xgX7_0 77 C mq_668 dX7_turn_74 rfl ?_
        refine x_sipush 80 C (nI 293) dX7_turn_77 ks_293 rfl ?_
        refine x_il 82 C dX7_turn_80 3 rfl rfl ?_
        refine x_iadd 83 C dX7_turn_82 rfl ?_
        refine xrR_1 84 C dX7_turn_83 rfl hf (fun x5 hf => ?_)
        refine x_ilN 85 C dX7_turn_84 1 rfl rfl rfl ?_
        refine x_icmp_ne 88 C 100 dX7_turn_85 (by decide) rfl hf (fun hf => ?_) (fun hf => ?_)
        ·
          refine x_iinc 103 C (v4 + (nI 1)) (lv2 := [(4, .int (v4 + (nI 1))), (0, .ref (ad 0)), (1, .int v1), (3, .int v3)]) dX7_turn_100 3 rfl rfl rfl (Nat.le_of_ble_eq_true rfl) rfl ?_
          refine x_goto 48 C dX7_turn_103 (by decide) ?_
          refine x_sub [1, 2, 3, 0] rfl ?_
          exact Hb48 _ _ hf
        ·
          refine x_alN 89 C dX7_turn_88 0 rfl rfl rfl ?_
          refine xgX7_0 92 C mq_668 dX7_turn_89 rfl ?_
          refine x_sipush 95 C (nI 357) dX7_turn_92 ks_357 rfl ?_
          refine x_il 97 C dX7_turn_95 3 rfl rfl ?_
          refine x_iadd 98 C dX7_turn_97 rfl ?_
          refine x_iconst 99 C (nI 0) dX7_turn_98 ki_0 rfl ?_
          refine xwR_1 100 C dX7_turn_99 rfl hf (fun M6 hf => ?_)
          refine x_iinc 103 C (v4 + (nI 1)) (lv2 := [(4, .int (v4 + (nI 1))), (0, .ref (ad 0)), (1, .int v1), (3, .int v3)]) dX7_turn_100 3 rfl rfl rfl (Nat.le_of_ble_eq_true rfl) rfl ?_
          refine x_goto 48 C dX7_turn_103 (by decide) ?_
          refine x_sub [1, 2, 3, 0] rfl ?_
          exact Hb48 _ _ hf
set_option maxRecDepth 20000 in
set_option maxHeartbeats 1000000 in
theorem tX7_turn_L48 {l : Launch} {Y : xY} {X : xE} {ad : Nat → Nat} {fr : va_W} {z0 : xM} (C : xC Y X cX7_turn RX7 none 5 2 42) (HQ : xRV Y X (wR Y ad fr) z0)  (v1 : Int32) (v3 : Int32) (k106 : xM → Option (xM)) (Hk106 : ∀ (M : xM), k106 M = some z0 → xG Y l X (wR Y ad fr) M 106 [] []) : ∀ (n : Nat) (M : xM) (v4 : Int32), fX7_turn_L48 v1 v3 k106 n M v4 = some z0 → xG Y l X (wR Y ad fr) M 48 [(0, .ref (ad 0)), (1, .int v1), (3, .int v3), (4, .int v4)] [] := by
  intro n
  induction n with
  | zero =>
    intro M v4 hf
    cases hf
  | succ n ih =>
    intro M v4 hf
    exact tX7_turn_B48 C HQ  v1 v3 _ Hk106 M v4 _ (fun M v4 hf => ih M v4 hf) hf
set_option maxRecDepth 20000 in
set_option maxHeartbeats 1000000 in
theorem tX7_turn_j44 {l : Launch} {Y : xY} {X : xE} {ad : Nat → Nat} {fr : va_W} {z0 : xM} (C : xC Y X cX7_turn RX7 none 5 2 42) (HQ : xRV Y X (wR Y ad fr) z0) (M : xM) (v1 : Int32) (v3 : Int32) (s0 : Int32) (s1 : Int32)  (hf : fX7_turn_j44 M v1 v3 s0 s1 = some z0) : xG Y l X (wR Y ad fr) M 44 [(0, .ref (ad 0)), (1, .int v1), (3, .int v3)] [.int s0, .int s1, .ref (ad 1)] := by
  unfold fX7_turn_j44 at hf
  refine xwR_1 45 C dX7_turn_44 rfl hf (fun M3 hf => ?_)
  refine x_iconst 46 C (nI 0) dX7_turn_45 ki_0 rfl ?_
  refine x_is 48 C 4 (lv2 := [(4, .int (nI 0)), (0, .ref (ad 0)), (1, .int v1), (3, .int v3)]) dX7_turn_46 rfl (Nat.le_of_ble_eq_true rfl) rfl ?_
  refine x_sub [1, 2, 3, 0] rfl ?_
  refine tX7_turn_L48 C HQ _ _ _ (fun M7 hf => ?_) 512 _ _ hf
  exact x_vret C HQ rfl dX7_turn_106 hf
set_option maxRecDepth 20000 in
set_option maxHeartbeats 1000000 in
theorem tX7_turn {l : Launch} {Y : xY} {ad : Nat → Nat} {fr : va_W} {M : xM} {p1 : Int32} {p2 : Int32} {z0 : xM} (hf : fX7_turn M p1 p2 = some z0) : xcV l Y (wR Y ad fr) yX7_turn cX7_turn 5 none 2 42 [.ref (ad 0), .int p1, .int p2] M z0 := by
  refine x_entryV [(0, .ref (ad 0)), (1, .int p1), (2, .int p2)] pnX7 rfl (Nat.le_of_ble_eq_true rfl) rfl (fun X C HQ => ?_)
  unfold fX7_turn at hf
  refine x_alN 1 C dX7_turn_0 0 rfl rfl rfl ?_
  refine x_ilN 2 C dX7_turn_1 1 rfl rfl rfl ?_
  refine x_cvIP 5 C [.int p1] hwX7_isActive mq_745 dX7_turn_2 rfl ⟨Nat.le_of_ble_eq_true rfl, Nat.le_of_ble_eq_true rfl⟩ 0 wR_at_0 rfl rfl rfl (Nat.le_of_ble_eq_true rfl) (fun z hz => tX7_isActive hz) hf (fun z1 hf => ?_)
  refine x_isN 6 C 3 (lv2 := [(3, .int z1), (0, .ref (ad 0)), (1, .int p1), (2, .int p2)]) dX7_turn_5 rfl rfl (Nat.le_of_ble_eq_true rfl) rfl ?_
  refine x_ilN 7 C dX7_turn_6 0 rfl rfl rfl ?_
  refine x_ilN 8 C dX7_turn_7 3 rfl rfl rfl ?_
  refine x_icmp_ne 11 C 12 dX7_turn_8 (by decide) rfl hf (fun hf => ?_) (fun hf => ?_)
  ·
    refine x_alN 13 C dX7_turn_12 1 rfl rfl rfl ?_
    refine xgX7_0 16 C mq_668 dX7_turn_13 rfl ?_
    refine x_sipush 19 C (nI 165) dX7_turn_16 ks_165 rfl ?_
    refine x_iconst 20 C (nI 5) dX7_turn_19 ki_5 rfl ?_
    refine x_ilN 21 C dX7_turn_20 2 rfl rfl rfl ?_
    refine x_imul 22 C dX7_turn_21 rfl ?_
    refine x_iadd 23 C dX7_turn_22 rfl ?_
    refine x_iconst 24 C (nI 4) dX7_turn_23 ki_4 rfl ?_
    refine x_iadd 25 C dX7_turn_24 rfl ?_
    refine x_iconst 26 C (nI 0) dX7_turn_25 ki_0 rfl ?_
    refine xwR_1 27 C dX7_turn_26 rfl hf (fun M2 hf => ?_)
    refine x_alN 28 C dX7_turn_27 1 rfl rfl rfl ?_
    refine xgX7_0 31 C mq_668 dX7_turn_28 rfl ?_
    refine x_bipush 33 C (nI 117) dX7_turn_31 kb_117 rfl ?_
    refine x_ilN 34 C dX7_turn_33 2 rfl rfl rfl ?_
    refine x_iadd 35 C dX7_turn_34 rfl ?_
    refine x_ilN 36 C dX7_turn_35 0 rfl rfl rfl ?_
    refine x_if_eq 39 C 43 dX7_turn_36 (by decide) rfl hf (fun hf => ?_) (fun hf => ?_)
    ·
      refine x_iconst 44 C (nI 0) dX7_turn_43 ki_0 rfl ?_
      refine x_sub [1, 2, 0] rfl ?_
      exact tX7_turn_j44 C HQ _ _ _ _ _  hf
    ·
      refine x_iconst 40 C (nI 1) dX7_turn_39 ki_1 rfl ?_
      refine x_goto 44 C dX7_turn_40 (by decide) ?_
      refine x_sub [1, 2, 0] rfl ?_
      exact tX7_turn_j44 C HQ _ _ _ _ _  hf
  ·
    exact x_vret C HQ rfl dX7_turn_11 hf
set_option maxRecDepth 20000 in
set_option maxHeartbeats 1000000 in
theorem tX7_turnAll_B2 {l : Launch} {Y : xY} {X : xE} {ad : Nat → Nat} {fr : va_W} {z0 : Int32 × xM} (C : xC Y X cX7_turnAll RX7 (some .int) 5 3 66) (HQ : xRI Y X (wR Y ad fr) z0.1 z0.2)  (v1 : Int32) (v2 : Int32) (k27 : xM → Option (Int32 × xM)) (Hk27 : ∀ (M : xM), k27 M = some z0 → xG Y l X (wR Y ad fr) M 27 [(0, .ref (ad 0)), (1, .int v1), (2, .int v2)] []) (M : xM) (v3 : Int32) (b2 : xM → Int32 → Option (Int32 × xM)) (Hb2 : ∀ (M : xM) (v3 : Int32), b2 M v3 = some z0 → xG Y l X (wR Y ad fr) M 2 [(0, .ref (ad 0)), (1, .int v1), (2, .int v2), (3, .int v3)] []) (hf : fX7_turnAll_B2 v1 v2 k27 M v3 b2 = some z0) : xG Y l X (wR Y ad fr) M 2 [(0, .ref (ad 0)), (1, .int v1), (2, .int v2), (3, .int v3)] [] := by
  unfold fX7_turnAll_B2 at hf
  refine x_ilN 3 C dX7_turnAll_2 3 rfl rfl rfl ?_
  refine x_alN 4 C dX7_turnAll_3 0 rfl rfl rfl ?_
  refine x_cvIP 7 C [] hwX7_ports mq_741 dX7_turnAll_4 rfl ⟨Nat.le_of_ble_eq_true rfl, Nat.le_of_ble_eq_true rfl⟩ 0 wR_at_0 rfl rfl rfl (Nat.le_of_ble_eq_true rfl) (fun z hz => tX7_ports hz) hf (fun z1 hf => ?_)
  refine x_icmp_ge 10 C 27 dX7_turnAll_7 (by decide) rfl hf (fun hf => ?_) (fun hf => ?_)
  ·
    refine x_sub [0, 1, 2] rfl ?_
    exact Hk27 _ hf
  ·
    refine x_alN 11 C dX7_turnAll_10 0 rfl rfl rfl ?_
    refine xgX7_3 14 C mq_671 dX7_turnAll_11 rfl ?_
    refine x_ilN 15 C dX7_turnAll_14 3 rfl rfl rfl ?_
    refine x_alN 16 C dX7_turnAll_15 0 rfl rfl rfl ?_
    refine x_ilN 17 C dX7_turnAll_16 3 rfl rfl rfl ?_
    refine x_cvIP 20 C [.int v3] hwX7_isActive mq_745 dX7_turnAll_17 rfl ⟨Nat.le_of_ble_eq_true rfl, Nat.le_of_ble_eq_true rfl⟩ 0 wR_at_0 rfl rfl rfl (Nat.le_of_ble_eq_true rfl) (fun z hz => tX7_isActive hz) hf (fun z2 hf => ?_)
    refine xwR_4 21 C dX7_turnAll_20 rfl hf (fun M3 hf => ?_)
    refine x_iinc 24 C (v3 + (nI 1)) (lv2 := [(3, .int (v3 + (nI 1))), (0, .ref (ad 0)), (1, .int v1), (2, .int v2)]) dX7_turnAll_21 3 rfl rfl rfl (Nat.le_of_ble_eq_true rfl) rfl ?_
    refine x_goto 2 C dX7_turnAll_24 (by decide) ?_
    refine x_sub [1, 2, 3, 0] rfl ?_
    exact Hb2 _ _ hf
set_option maxRecDepth 20000 in
set_option maxHeartbeats 1000000 in
theorem tX7_turnAll_L2 {l : Launch} {Y : xY} {X : xE} {ad : Nat → Nat} {fr : va_W} {z0 : Int32 × xM} (C : xC Y X cX7_turnAll RX7 (some .int) 5 3 66) (HQ : xRI Y X (wR Y ad fr) z0.1 z0.2)  (v1 : Int32) (v2 : Int32) (k27 : xM → Option (Int32 × xM)) (Hk27 : ∀ (M : xM), k27 M = some z0 → xG Y l X (wR Y ad fr) M 27 [(0, .ref (ad 0)), (1, .int v1), (2, .int v2)] []) : ∀ (n : Nat) (M : xM) (v3 : Int32), fX7_turnAll_L2 v1 v2 k27 n M v3 = some z0 → xG Y l X (wR Y ad fr) M 2 [(0, .ref (ad 0)), (1, .int v1), (2, .int v2), (3, .int v3)] [] := by
  intro n
  induction n with
  | zero =>
    intro M v3 hf
    cases hf
  | succ n ih =>
    intro M v3 hf
    exact tX7_turnAll_B2 C HQ  v1 v2 _ Hk27 M v3 _ (fun M v3 hf => ih M v3 hf) hf
set_option maxRecDepth 20000 in
set_option maxHeartbeats 1000000 in
theorem tX7_turnAll_B45 {l : Launch} {Y : xY} {X : xE} {ad : Nat → Nat} {fr : va_W} {z0 : Int32 × xM} (C : xC Y X cX7_turnAll RX7 (some .int) 5 3 66) (HQ : xRI Y X (wR Y ad fr) z0.1 z0.2)  (v3 : Int32) (k73 : xM → Option (Int32 × xM)) (Hk73 : ∀ (M : xM), k73 M = some z0 → xG Y l X (wR Y ad fr) M 73 [(3, .int v3)] []) (M : xM) (v4 : Int32) (b45 : xM → Int32 → Option (Int32 × xM)) (Hb45 : ∀ (M : xM) (v4 : Int32), b45 M v4 = some z0 → xG Y l X (wR Y ad fr) M 45 [(0, .ref (ad 0)), (3, .int v3), (4, .int v4)] []) (hf : fX7_turnAll_B45 v3 k73 M v4 b45 = some z0) : xG Y l X (wR Y ad fr) M 45 [(0, .ref (ad 0)), (3, .int v3), (4, .int v4)] [] := by
  unfold fX7_turnAll_B45 at hf
  refine x_il 47 C dX7_turnAll_45 2 rfl rfl ?_
  refine x_alN 48 C dX7_turnAll_47 0 rfl rfl rfl ?_
  refine x_cvIP 51 C [] hwX7_ports mq_741 dX7_turnAll_48 rfl ⟨Nat.le_of_ble_eq_true rfl, Nat.le_of_ble_eq_true rfl⟩ 0 wR_at_0 rfl rfl rfl (Nat.le_of_ble_eq_true rfl) (fun z hz => tX7_ports hz) hf (fun z6 hf => ?_)
  refine x_icmp_ge 54 C 73 dX7_turnAll_51 (by decide) rfl hf (fun hf => ?_) (fun hf => ?_)
  ·
    refine x_sub [1] rfl ?_
    exact Hk73 _ hf
  ·
    refine x_alN 55 C dX7_turnAll_54 0 rfl rfl rfl ?_
    refine x_il 57 C dX7_turnAll_55 2 rfl rfl ?_
    refine x_alN 58 C dX7_turnAll_57 0 rfl rfl rfl ?_
    refine xgX7_3 61 C mq_671 dX7_turnAll_58 rfl ?_
    refine x_il 63 C dX7_turnAll_61 2 rfl rfl ?_
    refine xrR_4 64 C dX7_turnAll_63 rfl hf (fun x7 hf => ?_)
    refine x_cvVM 67 C [.int v4, .int x7] hwX7_turn mq_781 dX7_turnAll_64 rfl ⟨Nat.le_of_ble_eq_true rfl, Nat.le_of_ble_eq_true rfl⟩ 0 wR_at_0 rfl rfl rfl (Nat.le_of_ble_eq_true rfl) (fun z hz => tX7_turn hz) hf (fun z8 hf => ?_)
    refine x_iinc 70 C (v4 + (nI 1)) (lv2 := [(4, .int (v4 + (nI 1))), (0, .ref (ad 0)), (3, .int v3)]) dX7_turnAll_67 2 rfl rfl rfl (Nat.le_of_ble_eq_true rfl) rfl ?_
    refine x_goto 45 C dX7_turnAll_70 (by decide) ?_
    refine x_sub [1, 2, 0] rfl ?_
    exact Hb45 _ _ hf
set_option maxRecDepth 20000 in
set_option maxHeartbeats 1000000 in
theorem tX7_turnAll_L45 {l : Launch} {Y : xY} {X : xE} {ad : Nat → Nat} {fr : va_W} {z0 : Int32 × xM} (C : xC Y X cX7_turnAll RX7 (some .int) 5 3 66) (HQ : xRI Y X (wR Y ad fr) z0.1 z0.2)  (v3 : Int32) (k73 : xM → Option (Int32 × xM)) (Hk73 : ∀ (M : xM), k73 M = some z0 → xG Y l X (wR Y ad fr) M 73 [(3, .int v3)] []) : ∀ (n : Nat) (M : xM) (v4 : Int32), fX7_turnAll_L45 v3 k73 n M v4 = some z0 → xG Y l X (wR Y ad fr) M 45 [(0, .ref (ad 0)), (3, .int v3), (4, .int v4)] [] := by
  intro n
  induction n with
  | zero =>
    intro M v4 hf
    cases hf
  | succ n ih =>
    intro M v4 hf
    exact tX7_turnAll_B45 C HQ  v3 _ Hk73 M v4 _ (fun M v4 hf => ih M v4 hf) hf
set_option maxRecDepth 20000 in
set_option maxHeartbeats 1000000 in
theorem tX7_turnAll_j38 {l : Launch} {Y : xY} {X : xE} {ad : Nat → Nat} {fr : va_W} {z0 : Int32 × xM} (C : xC Y X cX7_turnAll RX7 (some .int) 5 3 66) (HQ : xRI Y X (wR Y ad fr) z0.1 z0.2) (M : xM) (s0 : Int32) (s1 : Int32)  (hf : fX7_turnAll_j38 M s0 s1 = some z0) : xG Y l X (wR Y ad fr) M 38 [(0, .ref (ad 0))] [.int s0, .int s1, .ref (ad 0)] := by
  unfold fX7_turnAll_j38 at hf
  refine x_cvIM 41 C [.int s1, .int s0] hwX7_set mq_761 dX7_turnAll_38 rfl ⟨Nat.le_of_ble_eq_true rfl, Nat.le_of_ble_eq_true rfl⟩ 0 wR_at_0 rfl rfl rfl (Nat.le_of_ble_eq_true rfl) (fun z hz => tX7_set hz) hf (fun z5 hf => ?_)
  refine x_isN 42 C 3 (lv2 := [(3, .int z5.1), (0, .ref (ad 0))]) dX7_turnAll_41 rfl rfl (Nat.le_of_ble_eq_true rfl) rfl ?_
  refine x_iconst 43 C (nI 0) dX7_turnAll_42 ki_0 rfl ?_
  refine x_is 45 C 4 (lv2 := [(4, .int (nI 0)), (3, .int z5.1), (0, .ref (ad 0))]) dX7_turnAll_43 rfl (Nat.le_of_ble_eq_true rfl) rfl ?_
  refine x_sub [2, 1, 0] rfl ?_
  refine tX7_turnAll_L45 C HQ _ _ (fun M9 hf => ?_) 512 _ _ hf
  refine x_ilN 74 C dX7_turnAll_73 0 rfl rfl rfl ?_
  exact x_iretM C HQ rfl (vp_nar_int _) dX7_turnAll_74 hf
set_option maxRecDepth 20000 in
set_option maxHeartbeats 1000000 in
theorem tX7_turnAll {l : Launch} {Y : xY} {ad : Nat → Nat} {fr : va_W} {M : xM} {p1 : Int32} {p2 : Int32} {z0 : Int32 × xM} (hf : fX7_turnAll M p1 p2 = some z0) : xcI l Y (wR Y ad fr) yX7_turnAll cX7_turnAll 5 (some .int) 3 66 [.ref (ad 0), .int p1, .int p2] M z0.1 z0.2 := by
  refine x_entryI [(0, .ref (ad 0)), (1, .int p1), (2, .int p2)] pnX7 rfl (Nat.le_of_ble_eq_true rfl) rfl (fun X C HQ => ?_)
  unfold fX7_turnAll at hf
  refine x_iconst 1 C (nI 0) dX7_turnAll_0 ki_0 rfl ?_
  refine x_isN 2 C 3 (lv2 := [(3, .int (nI 0)), (0, .ref (ad 0)), (1, .int p1), (2, .int p2)]) dX7_turnAll_1 rfl rfl (Nat.le_of_ble_eq_true rfl) rfl ?_
  refine x_sub [1, 2, 3, 0] rfl ?_
  refine tX7_turnAll_L2 C HQ _ _ _ (fun M4 hf => ?_) 512 _ _ hf
  refine x_alN 28 C dX7_turnAll_27 0 rfl rfl rfl ?_
  refine x_ilN 29 C dX7_turnAll_28 1 rfl rfl rfl ?_
  refine x_ilN 30 C dX7_turnAll_29 2 rfl rfl rfl ?_
  refine x_if_eq 33 C 37 dX7_turnAll_30 (by decide) rfl hf (fun hf => ?_) (fun hf => ?_)
  ·
    refine x_iconst 38 C (nI 0) dX7_turnAll_37 ki_0 rfl ?_
    refine x_sub [0] rfl ?_
    exact tX7_turnAll_j38 C HQ _ _ _  hf
  ·
    refine x_iconst 34 C (nI 1) dX7_turnAll_33 ki_1 rfl ?_
    refine x_goto 38 C dX7_turnAll_34 (by decide) ?_
    refine x_sub [0] rfl ?_
    exact tX7_turnAll_j38 C HQ _ _ _  hf
set_option maxRecDepth 20000 in
set_option maxHeartbeats 1000000 in
theorem tX7_setBridge {l : Launch} {Y : xY} {ad : Nat → Nat} {fr : va_W} {M : xM} {p1 : Int32} {p2 : Int32} {z0 : Int32 × xM} (hf : fX7_setBridge M p1 p2 = some z0) : xcI l Y (wR Y ad fr) yX7_setBridge cX7_setBridge 3 (some .int) 4 90 [.ref (ad 0), .int p1, .int p2] M z0.1 z0.2 := by
  refine x_entryI [(0, .ref (ad 0)), (1, .int p1), (2, .int p2)] pnX7 rfl (Nat.le_of_ble_eq_true rfl) rfl (fun X C HQ => ?_)
  unfold fX7_setBridge at hf
  refine x_alN 1 C dX7_setBridge_0 0 rfl rfl rfl ?_
  refine x_ilN 2 C dX7_setBridge_1 1 rfl rfl rfl ?_
  refine x_cvIP 5 C [.int p1] hwX7_isBridge mq_733 dX7_setBridge_2 rfl ⟨Nat.le_of_ble_eq_true rfl, Nat.le_of_ble_eq_true rfl⟩ 0 wR_at_0 rfl rfl rfl (Nat.le_of_ble_eq_true rfl) (fun z hz => tX7_isBridge hz) hf (fun z1 hf => ?_)
  refine x_if_eq 8 C 20 dX7_setBridge_5 (by decide) rfl hf (fun hf => ?_) (fun hf => ?_)
  ·
    refine x_iconst 21 C (-1) dX7_setBridge_20 ki_m1 rfl ?_
    exact x_iretM C HQ rfl (vp_nar_int _) dX7_setBridge_21 hf
  ·
    refine x_alN 9 C dX7_setBridge_8 0 rfl rfl rfl ?_
    refine x_bipush 11 C (nI 13) dX7_setBridge_9 kb_13 rfl ?_
    refine x_ilN 12 C dX7_setBridge_11 1 rfl rfl rfl ?_
    refine x_iadd 13 C dX7_setBridge_12 rfl ?_
    refine x_ilN 14 C dX7_setBridge_13 2 rfl rfl rfl ?_
    refine x_cvIM 17 C [.int ((nI 13) + p1), .int p2] hwX7_turnAll mq_777 dX7_setBridge_14 rfl ⟨Nat.le_of_ble_eq_true rfl, Nat.le_of_ble_eq_true rfl⟩ 0 wR_at_0 rfl rfl rfl (Nat.le_of_ble_eq_true rfl) (fun z hz => tX7_turnAll hz) hf (fun z2 hf => ?_)
    refine x_goto 21 C dX7_setBridge_17 (by decide) ?_
    exact x_iretM C HQ rfl (vp_nar_int _) dX7_setBridge_21 hf
set_option maxRecDepth 20000 in
set_option maxHeartbeats 1000000 in
theorem tX7_setPort {l : Launch} {Y : xY} {ad : Nat → Nat} {fr : va_W} {M : xM} {p1 : Int32} {p2 : Int32} {z0 : Int32 × xM} (hf : fX7_setPort M p1 p2 = some z0) : xcI l Y (wR Y ad fr) yX7_setPort cX7_setPort 3 (some .int) 4 90 [.ref (ad 0), .int p1, .int p2] M z0.1 z0.2 := by
  refine x_entryI [(0, .ref (ad 0)), (1, .int p1), (2, .int p2)] pnX7 rfl (Nat.le_of_ble_eq_true rfl) rfl (fun X C HQ => ?_)
  unfold fX7_setPort at hf
  refine x_alN 1 C dX7_setPort_0 0 rfl rfl rfl ?_
  refine x_ilN 2 C dX7_setPort_1 1 rfl rfl rfl ?_
  refine x_cvIP 5 C [.int p1] hwX7_isPort mq_769 dX7_setPort_2 rfl ⟨Nat.le_of_ble_eq_true rfl, Nat.le_of_ble_eq_true rfl⟩ 0 wR_at_0 rfl rfl rfl (Nat.le_of_ble_eq_true rfl) (fun z hz => tX7_isPort hz) hf (fun z1 hf => ?_)
  refine x_if_eq 8 C 20 dX7_setPort_5 (by decide) rfl hf (fun hf => ?_) (fun hf => ?_)
  ·
    refine x_bipush 22 C (-3) dX7_setPort_20 kb_m3 rfl ?_
    exact x_iretM C HQ rfl (vp_nar_int _) dX7_setPort_22 hf
  ·
    refine x_alN 9 C dX7_setPort_8 0 rfl rfl rfl ?_
    refine x_bipush 11 C (nI 93) dX7_setPort_9 kb_93 rfl ?_
    refine x_ilN 12 C dX7_setPort_11 1 rfl rfl rfl ?_
    refine x_iadd 13 C dX7_setPort_12 rfl ?_
    refine x_ilN 14 C dX7_setPort_13 2 rfl rfl rfl ?_
    refine x_cvIM 17 C [.int ((nI 93) + p1), .int p2] hwX7_turnAll mq_777 dX7_setPort_14 rfl ⟨Nat.le_of_ble_eq_true rfl, Nat.le_of_ble_eq_true rfl⟩ 0 wR_at_0 rfl rfl rfl (Nat.le_of_ble_eq_true rfl) (fun z hz => tX7_turnAll hz) hf (fun z2 hf => ?_)
    refine x_goto 22 C dX7_setPort_17 (by decide) ?_
    exact x_iretM C HQ rfl (vp_nar_int _) dX7_setPort_22 hf
set_option maxRecDepth 20000 in
set_option maxHeartbeats 1000000 in
theorem tX7_moveStation {l : Launch} {Y : xY} {ad : Nat → Nat} {fr : va_W} {M : xM} {p1 : Int32} {p2 : Int32} {z0 : Int32 × xM} (hf : fX7_moveStation M p1 p2 = some z0) : xcI l Y (wR Y ad fr) yX7_moveStation cX7_moveStation 3 (some .int) 2 43 [.ref (ad 0), .int p1, .int p2] M z0.1 z0.2 := by
  refine x_entryI [(0, .ref (ad 0)), (1, .int p1), (2, .int p2)] pnX7 rfl (Nat.le_of_ble_eq_true rfl) rfl (fun X C HQ => ?_)
  unfold fX7_moveStation at hf
  refine x_alN 1 C dX7_moveStation_0 0 rfl rfl rfl ?_
  refine x_ilN 2 C dX7_moveStation_1 1 rfl rfl rfl ?_
  refine x_cvIP 5 C [.int p1] hwX7_isStation mq_793 dX7_moveStation_2 rfl ⟨Nat.le_of_ble_eq_true rfl, Nat.le_of_ble_eq_true rfl⟩ 0 wR_at_0 rfl rfl rfl (Nat.le_of_ble_eq_true rfl) (fun z hz => tX7_isStation hz) hf (fun z1 hf => ?_)
  refine x_if_ne 8 C 11 dX7_moveStation_5 (by decide) rfl hf (fun hf => ?_) (fun hf => ?_)
  ·
    refine x_alN 12 C dX7_moveStation_11 0 rfl rfl rfl ?_
    refine x_ilN 13 C dX7_moveStation_12 2 rfl rfl rfl ?_
    refine x_cvIP 16 C [.int p2] hwX7_isSegment mq_737 dX7_moveStation_13 rfl ⟨Nat.le_of_ble_eq_true rfl, Nat.le_of_ble_eq_true rfl⟩ 0 wR_at_0 rfl rfl rfl (Nat.le_of_ble_eq_true rfl) (fun z hz => tX7_isSegment hz) hf (fun z2 hf => ?_)
    refine x_if_eq 19 C 32 dX7_moveStation_16 (by decide) rfl hf (fun hf => ?_) (fun hf => ?_)
    ·
      refine x_bipush 34 C (-2) dX7_moveStation_32 kb_m2 rfl ?_
      exact x_iretM C HQ rfl (vp_nar_int _) dX7_moveStation_34 hf
    ·
      refine x_alN 20 C dX7_moveStation_19 0 rfl rfl rfl ?_
      refine x_sipush 23 C (nI 285) dX7_moveStation_20 ks_285 rfl ?_
      refine x_ilN 24 C dX7_moveStation_23 1 rfl rfl rfl ?_
      refine x_iadd 25 C dX7_moveStation_24 rfl ?_
      refine x_ilN 26 C dX7_moveStation_25 2 rfl rfl rfl ?_
      refine x_cvIM 29 C [.int ((nI 285) + p1), .int p2] hwX7_set mq_761 dX7_moveStation_26 rfl ⟨Nat.le_of_ble_eq_true rfl, Nat.le_of_ble_eq_true rfl⟩ 0 wR_at_0 rfl rfl rfl (Nat.le_of_ble_eq_true rfl) (fun z hz => tX7_set hz) hf (fun z3 hf => ?_)
      refine x_goto 34 C dX7_moveStation_29 (by decide) ?_
      exact x_iretM C HQ rfl (vp_nar_int _) dX7_moveStation_34 hf
  ·
    refine x_bipush 10 C (-4) dX7_moveStation_8 kb_m4 rfl ?_
    exact x_iretM C HQ rfl (vp_nar_int _) dX7_moveStation_10 hf
set_option maxRecDepth 20000 in
set_option maxHeartbeats 1000000 in
theorem tX7_isBetterOffer {l : Launch} {Y : xY} {ad : Nat → Nat} {fr : va_W} {M : xM} {p1 : Int32} {p2 : Int32} {z0 : Int32} (hf : fX7_isBetterOffer M p1 p2 = some z0) : xcI l Y (wR Y ad fr) yX7_isBetterOffer cX7_isBetterOffer 5 (some .boolean) 1 22 [.ref (ad 0), .int p1, .int p2] M z0 M := by
  refine x_entryI [(0, .ref (ad 0)), (1, .int p1), (2, .int p2)] pnX7 rfl (Nat.le_of_ble_eq_true rfl) rfl (fun X C HQ => ?_)
  unfold fX7_isBetterOffer at hf
  refine x_alN 1 C dX7_isBetterOffer_0 0 rfl rfl rfl ?_
  refine x_ilN 2 C dX7_isBetterOffer_1 1 rfl rfl rfl ?_
  refine x_iconst 3 C (nI 1) dX7_isBetterOffer_2 ki_1 rfl ?_
  refine x_cvIP 6 C [.int p1, .int (nI 1)] hwX7_message mq_817 dX7_isBetterOffer_3 rfl ⟨Nat.le_of_ble_eq_true rfl, Nat.le_of_ble_eq_true rfl⟩ 0 wR_at_0 rfl rfl rfl (Nat.le_of_ble_eq_true rfl) (fun z hz => tX7_message hz) hf (fun z1 hf => ?_)
  refine x_alN 7 C dX7_isBetterOffer_6 0 rfl rfl rfl ?_
  refine xgX7_0 10 C mq_668 dX7_isBetterOffer_7 rfl ?_
  refine x_bipush 12 C (nI 69) dX7_isBetterOffer_10 kb_69 rfl ?_
  refine x_ilN 13 C dX7_isBetterOffer_12 1 rfl rfl rfl ?_
  refine x_iadd 14 C dX7_isBetterOffer_13 rfl ?_
  refine xrR_1 15 C dX7_isBetterOffer_14 rfl hf (fun x2 hf => ?_)
  refine x_iadd 16 C dX7_isBetterOffer_15 rfl ?_
  refine x_isN 17 C 3 (lv2 := [(3, .int (z1 + x2)), (0, .ref (ad 0)), (1, .int p1), (2, .int p2)]) dX7_isBetterOffer_16 rfl rfl (Nat.le_of_ble_eq_true rfl) rfl ?_
  refine x_alN 18 C dX7_isBetterOffer_17 1 rfl rfl rfl ?_
  refine x_ilN 19 C dX7_isBetterOffer_18 3 rfl rfl rfl ?_
  refine x_iconst 20 C (nI 1) dX7_isBetterOffer_19 ki_1 rfl ?_
  refine x_cvIP 23 C [.int p2, .int (nI 1)] hwX7_message mq_817 dX7_isBetterOffer_20 rfl ⟨Nat.le_of_ble_eq_true rfl, Nat.le_of_ble_eq_true rfl⟩ 0 wR_at_0 rfl rfl rfl (Nat.le_of_ble_eq_true rfl) (fun z hz => tX7_message hz) hf (fun z3 hf => ?_)
  refine x_alN 24 C dX7_isBetterOffer_23 1 rfl rfl rfl ?_
  refine xgX7_0 27 C mq_668 dX7_isBetterOffer_24 rfl ?_
  refine x_bipush 29 C (nI 69) dX7_isBetterOffer_27 kb_69 rfl ?_
  refine x_ilN 30 C dX7_isBetterOffer_29 3 rfl rfl rfl ?_
  refine x_iadd 31 C dX7_isBetterOffer_30 rfl ?_
  refine xrR_1 32 C dX7_isBetterOffer_31 rfl hf (fun x4 hf => ?_)
  refine x_iadd 33 C dX7_isBetterOffer_32 rfl ?_
  refine x_is 35 C 4 (lv2 := [(4, .int (z3 + x4)), (3, .int (z1 + x2)), (0, .ref (ad 0)), (1, .int p1), (2, .int p2)]) dX7_isBetterOffer_33 rfl (Nat.le_of_ble_eq_true rfl) rfl ?_
  refine x_alN 36 C dX7_isBetterOffer_35 2 rfl rfl rfl ?_
  refine x_ilN 37 C dX7_isBetterOffer_36 3 rfl rfl rfl ?_
  refine x_iconst 38 C (nI 0) dX7_isBetterOffer_37 ki_0 rfl ?_
  refine x_cvIP 41 C [.int p1, .int (nI 0)] hwX7_message mq_817 dX7_isBetterOffer_38 rfl ⟨Nat.le_of_ble_eq_true rfl, Nat.le_of_ble_eq_true rfl⟩ 0 wR_at_0 rfl rfl rfl (Nat.le_of_ble_eq_true rfl) (fun z hz => tX7_message hz) hf (fun z5 hf => ?_)
  refine x_alN 42 C dX7_isBetterOffer_41 2 rfl rfl rfl ?_
  refine x_ilN 43 C dX7_isBetterOffer_42 4 rfl rfl rfl ?_
  refine x_iconst 44 C (nI 0) dX7_isBetterOffer_43 ki_0 rfl ?_
  refine x_cvIP 47 C [.int p2, .int (nI 0)] hwX7_message mq_817 dX7_isBetterOffer_44 rfl ⟨Nat.le_of_ble_eq_true rfl, Nat.le_of_ble_eq_true rfl⟩ 0 wR_at_0 rfl rfl rfl (Nat.le_of_ble_eq_true rfl) (fun z hz => tX7_message hz) hf (fun z6 hf => ?_)
  refine x_icmp_eq 50 C 71 dX7_isBetterOffer_47 (by decide) rfl hf (fun hf => ?_) (fun hf => ?_)
  ·
    refine x_ilN 72 C dX7_isBetterOffer_71 1 rfl rfl rfl ?_
    refine x_il 74 C dX7_isBetterOffer_72 0 rfl rfl ?_
    refine x_icmp_eq 77 C 89 dX7_isBetterOffer_74 (by decide) rfl hf (fun hf => ?_) (fun hf => ?_)
    ·
      refine x_alN 90 C dX7_isBetterOffer_89 2 rfl rfl rfl ?_
      refine x_ilN 91 C dX7_isBetterOffer_90 3 rfl rfl rfl ?_
      refine x_iconst 92 C (nI 2) dX7_isBetterOffer_91 ki_2 rfl ?_
      refine x_cvIP 95 C [.int p1, .int (nI 2)] hwX7_message mq_817 dX7_isBetterOffer_92 rfl ⟨Nat.le_of_ble_eq_true rfl, Nat.le_of_ble_eq_true rfl⟩ 0 wR_at_0 rfl rfl rfl (Nat.le_of_ble_eq_true rfl) (fun z hz => tX7_message hz) hf (fun z7 hf => ?_)
      refine x_alN 96 C dX7_isBetterOffer_95 2 rfl rfl rfl ?_
      refine x_ilN 97 C dX7_isBetterOffer_96 4 rfl rfl rfl ?_
      refine x_iconst 98 C (nI 2) dX7_isBetterOffer_97 ki_2 rfl ?_
      refine x_cvIP 101 C [.int p2, .int (nI 2)] hwX7_message mq_817 dX7_isBetterOffer_98 rfl ⟨Nat.le_of_ble_eq_true rfl, Nat.le_of_ble_eq_true rfl⟩ 0 wR_at_0 rfl rfl rfl (Nat.le_of_ble_eq_true rfl) (fun z hz => tX7_message hz) hf (fun z8 hf => ?_)
      refine x_icmp_eq 104 C 125 dX7_isBetterOffer_101 (by decide) rfl hf (fun hf => ?_) (fun hf => ?_)
      ·
        refine x_alN 126 C dX7_isBetterOffer_125 2 rfl rfl rfl ?_
        refine x_ilN 127 C dX7_isBetterOffer_126 3 rfl rfl rfl ?_
        refine x_iconst 128 C (nI 3) dX7_isBetterOffer_127 ki_3 rfl ?_
        refine x_cvIP 131 C [.int p1, .int (nI 3)] hwX7_message mq_817 dX7_isBetterOffer_128 rfl ⟨Nat.le_of_ble_eq_true rfl, Nat.le_of_ble_eq_true rfl⟩ 0 wR_at_0 rfl rfl rfl (Nat.le_of_ble_eq_true rfl) (fun z hz => tX7_message hz) hf (fun z9 hf => ?_)
        refine x_alN 132 C dX7_isBetterOffer_131 2 rfl rfl rfl ?_
        refine x_ilN 133 C dX7_isBetterOffer_132 4 rfl rfl rfl ?_
        refine x_iconst 134 C (nI 3) dX7_isBetterOffer_133 ki_3 rfl ?_
        refine x_cvIP 137 C [.int p2, .int (nI 3)] hwX7_message mq_817 dX7_isBetterOffer_134 rfl ⟨Nat.le_of_ble_eq_true rfl, Nat.le_of_ble_eq_true rfl⟩ 0 wR_at_0 rfl rfl rfl (Nat.le_of_ble_eq_true rfl) (fun z hz => tX7_message hz) hf (fun z10 hf => ?_)
        refine x_icmp_eq 140 C 163 dX7_isBetterOffer_137 (by decide) rfl hf (fun hf => ?_) (fun hf => ?_)
        ·
          refine x_ilN 164 C dX7_isBetterOffer_163 3 rfl rfl rfl ?_
          refine x_ilN 165 C dX7_isBetterOffer_164 4 rfl rfl rfl ?_
          refine x_icmp_ge 168 C 172 dX7_isBetterOffer_165 (by decide) rfl hf (fun hf => ?_) (fun hf => ?_)
          ·
            refine x_iconst 173 C (nI 0) dX7_isBetterOffer_172 ki_0 rfl ?_
            exact x_iretP C HQ rfl rfl dX7_isBetterOffer_173 hf
          ·
            refine x_iconst 169 C (nI 1) dX7_isBetterOffer_168 ki_1 rfl ?_
            refine x_goto 173 C dX7_isBetterOffer_169 (by decide) ?_
            exact x_iretP C HQ rfl rfl dX7_isBetterOffer_173 hf
        ·
          refine x_alN 141 C dX7_isBetterOffer_140 2 rfl rfl rfl ?_
          refine x_ilN 142 C dX7_isBetterOffer_141 3 rfl rfl rfl ?_
          refine x_iconst 143 C (nI 3) dX7_isBetterOffer_142 ki_3 rfl ?_
          refine x_cvIP 146 C [.int p1, .int (nI 3)] hwX7_message mq_817 dX7_isBetterOffer_143 rfl ⟨Nat.le_of_ble_eq_true rfl, Nat.le_of_ble_eq_true rfl⟩ 0 wR_at_0 rfl rfl rfl (Nat.le_of_ble_eq_true rfl) (fun z hz => tX7_message hz) hf (fun z11 hf => ?_)
          refine x_alN 147 C dX7_isBetterOffer_146 2 rfl rfl rfl ?_
          refine x_ilN 148 C dX7_isBetterOffer_147 4 rfl rfl rfl ?_
          refine x_iconst 149 C (nI 3) dX7_isBetterOffer_148 ki_3 rfl ?_
          refine x_cvIP 152 C [.int p2, .int (nI 3)] hwX7_message mq_817 dX7_isBetterOffer_149 rfl ⟨Nat.le_of_ble_eq_true rfl, Nat.le_of_ble_eq_true rfl⟩ 0 wR_at_0 rfl rfl rfl (Nat.le_of_ble_eq_true rfl) (fun z hz => tX7_message hz) hf (fun z12 hf => ?_)
          refine x_icmp_ge 155 C 159 dX7_isBetterOffer_152 (by decide) rfl hf (fun hf => ?_) (fun hf => ?_)
          ·
            refine x_iconst 160 C (nI 0) dX7_isBetterOffer_159 ki_0 rfl ?_
            refine x_goto 173 C dX7_isBetterOffer_160 (by decide) ?_
            exact x_iretP C HQ rfl rfl dX7_isBetterOffer_173 hf
          ·
            refine x_iconst 156 C (nI 1) dX7_isBetterOffer_155 ki_1 rfl ?_
            refine x_goto 173 C dX7_isBetterOffer_156 (by decide) ?_
            exact x_iretP C HQ rfl rfl dX7_isBetterOffer_173 hf
      ·
        refine x_alN 105 C dX7_isBetterOffer_104 2 rfl rfl rfl ?_
        refine x_ilN 106 C dX7_isBetterOffer_105 3 rfl rfl rfl ?_
        refine x_iconst 107 C (nI 2) dX7_isBetterOffer_106 ki_2 rfl ?_
        refine x_cvIP 110 C [.int p1, .int (nI 2)] hwX7_message mq_817 dX7_isBetterOffer_107 rfl ⟨Nat.le_of_ble_eq_true rfl, Nat.le_of_ble_eq_true rfl⟩ 0 wR_at_0 rfl rfl rfl (Nat.le_of_ble_eq_true rfl) (fun z hz => tX7_message hz) hf (fun z13 hf => ?_)
        refine x_alN 111 C dX7_isBetterOffer_110 2 rfl rfl rfl ?_
        refine x_ilN 112 C dX7_isBetterOffer_111 4 rfl rfl rfl ?_
        refine x_iconst 113 C (nI 2) dX7_isBetterOffer_112 ki_2 rfl ?_
        refine x_cvIP 116 C [.int p2, .int (nI 2)] hwX7_message mq_817 dX7_isBetterOffer_113 rfl ⟨Nat.le_of_ble_eq_true rfl, Nat.le_of_ble_eq_true rfl⟩ 0 wR_at_0 rfl rfl rfl (Nat.le_of_ble_eq_true rfl) (fun z hz => tX7_message hz) hf (fun z14 hf => ?_)
        refine x_icmp_ge 119 C 123 dX7_isBetterOffer_116 (by decide) rfl hf (fun hf => ?_) (fun hf => ?_)
        ·
          refine x_iconst 124 C (nI 0) dX7_isBetterOffer_123 ki_0 rfl ?_
          exact x_iretP C HQ rfl rfl dX7_isBetterOffer_124 hf
        ·
          refine x_iconst 120 C (nI 1) dX7_isBetterOffer_119 ki_1 rfl ?_
          refine x_goto 124 C dX7_isBetterOffer_120 (by decide) ?_
          exact x_iretP C HQ rfl rfl dX7_isBetterOffer_124 hf
    ·
      refine x_ilN 78 C dX7_isBetterOffer_77 1 rfl rfl rfl ?_
      refine x_il 80 C dX7_isBetterOffer_78 0 rfl rfl ?_
      refine x_icmp_ge 83 C 87 dX7_isBetterOffer_80 (by decide) rfl hf (fun hf => ?_) (fun hf => ?_)
      ·
        refine x_iconst 88 C (nI 0) dX7_isBetterOffer_87 ki_0 rfl ?_
        exact x_iretP C HQ rfl rfl dX7_isBetterOffer_88 hf
      ·
        refine x_iconst 84 C (nI 1) dX7_isBetterOffer_83 ki_1 rfl ?_
        refine x_goto 88 C dX7_isBetterOffer_84 (by decide) ?_
        exact x_iretP C HQ rfl rfl dX7_isBetterOffer_88 hf
  ·
    refine x_alN 51 C dX7_isBetterOffer_50 2 rfl rfl rfl ?_
    refine x_ilN 52 C dX7_isBetterOffer_51 3 rfl rfl rfl ?_
    refine x_iconst 53 C (nI 0) dX7_isBetterOffer_52 ki_0 rfl ?_
    refine x_cvIP 56 C [.int p1, .int (nI 0)] hwX7_message mq_817 dX7_isBetterOffer_53 rfl ⟨Nat.le_of_ble_eq_true rfl, Nat.le_of_ble_eq_true rfl⟩ 0 wR_at_0 rfl rfl rfl (Nat.le_of_ble_eq_true rfl) (fun z hz => tX7_message hz) hf (fun z15 hf => ?_)
    refine x_alN 57 C dX7_isBetterOffer_56 2 rfl rfl rfl ?_
    refine x_ilN 58 C dX7_isBetterOffer_57 4 rfl rfl rfl ?_
    refine x_iconst 59 C (nI 0) dX7_isBetterOffer_58 ki_0 rfl ?_
    refine x_cvIP 62 C [.int p2, .int (nI 0)] hwX7_message mq_817 dX7_isBetterOffer_59 rfl ⟨Nat.le_of_ble_eq_true rfl, Nat.le_of_ble_eq_true rfl⟩ 0 wR_at_0 rfl rfl rfl (Nat.le_of_ble_eq_true rfl) (fun z hz => tX7_message hz) hf (fun z16 hf => ?_)
    refine x_icmp_ge 65 C 69 dX7_isBetterOffer_62 (by decide) rfl hf (fun hf => ?_) (fun hf => ?_)
    ·
      refine x_iconst 70 C (nI 0) dX7_isBetterOffer_69 ki_0 rfl ?_
      exact x_iretP C HQ rfl rfl dX7_isBetterOffer_70 hf
    ·
      refine x_iconst 66 C (nI 1) dX7_isBetterOffer_65 ki_1 rfl ?_
      refine x_goto 70 C dX7_isBetterOffer_66 (by decide) ?_
      exact x_iretP C HQ rfl rfl dX7_isBetterOffer_70 hf
set_option maxRecDepth 20000 in
set_option maxHeartbeats 1000000 in
theorem tX7_layRoot_j82 {l : Launch} {Y : xY} {X : xE} {ad : Nat → Nat} {fr : va_W} {z0 : xM} (C : xC Y X cX7_layRoot RX7 none 5 2 46) (HQ : xRV Y X (wR Y ad fr) z0) (M : xM) (v1 : Int32) (v3 : Int32) (s0 : Int32) (b5 : Int32 → Int32 → Option (xM)) (Hb5 : ∀ (v2 : Int32) (v3 : Int32), b5 v2 v3 = some z0 → xG Y l X (wR Y ad fr) M 5 [(0, .ref (ad 0)), (1, .int v1), (2, .int v2), (3, .int v3)] []) (hf : fX7_layRoot_j82 M v1 v3 s0 b5 = some z0) : xG Y l X (wR Y ad fr) M 82 [(0, .ref (ad 0)), (1, .int v1), (3, .int v3)] [.int s0] := by
  unfold fX7_layRoot_j82 at hf
  refine x_isN 83 C 2 (lv2 := [(2, .int s0), (0, .ref (ad 0)), (1, .int v1), (3, .int v3)]) dX7_layRoot_82 rfl rfl (Nat.le_of_ble_eq_true rfl) rfl ?_
  refine x_iinc 86 C (v3 + (nI 1)) (lv2 := [(3, .int (v3 + (nI 1))), (2, .int s0), (0, .ref (ad 0)), (1, .int v1)]) dX7_layRoot_83 3 rfl rfl rfl (Nat.le_of_ble_eq_true rfl) rfl ?_
  refine x_goto 5 C dX7_layRoot_86 (by decide) ?_
  refine x_sub [2, 3, 1, 0] rfl ?_
  exact Hb5 _ _ hf
set_option maxRecDepth 20000 in
set_option maxHeartbeats 1000000 in
theorem tX7_layRoot_j57 {l : Launch} {Y : xY} {X : xE} {ad : Nat → Nat} {fr : va_W} {z0 : xM} (C : xC Y X cX7_layRoot RX7 none 5 2 46) (HQ : xRV Y X (wR Y ad fr) z0) (M : xM) (v1 : Int32) (v2 : Int32) (v3 : Int32) (s0 : Int32) (b5 : Int32 → Int32 → Option (xM)) (Hb5 : ∀ (v2 : Int32) (v3 : Int32), b5 v2 v3 = some z0 → xG Y l X (wR Y ad fr) M 5 [(0, .ref (ad 0)), (1, .int v1), (2, .int v2), (3, .int v3)] []) (hf : fX7_layRoot_j57 M v1 v2 v3 s0 b5 = some z0) : xG Y l X (wR Y ad fr) M 57 [(0, .ref (ad 0)), (1, .int v1), (2, .int v2), (3, .int v3)] [.int s0] := by
  unfold fX7_layRoot_j57 at hf
  refine x_is 59 C 4 (lv2 := [(4, .int s0), (0, .ref (ad 0)), (1, .int v1), (2, .int v2), (3, .int v3)]) dX7_layRoot_57 rfl (Nat.le_of_ble_eq_true rfl) rfl ?_
  refine x_il 61 C dX7_layRoot_59 0 rfl rfl ?_
  refine x_if_eq 64 C 81 dX7_layRoot_61 (by decide) rfl hf (fun hf => ?_) (fun hf => ?_)
  ·
    refine x_ilN 82 C dX7_layRoot_81 3 rfl rfl rfl ?_
    refine x_sub [1, 2, 4] rfl ?_
    exact tX7_layRoot_j82 C HQ _ _ _ _ _ Hb5 hf
  ·
    refine x_ilN 65 C dX7_layRoot_64 3 rfl rfl rfl ?_
    refine x_if_lt 68 C 77 dX7_layRoot_65 (by decide) rfl hf (fun hf => ?_) (fun hf => ?_)
    ·
      refine x_ilN 78 C dX7_layRoot_77 4 rfl rfl rfl ?_
      refine x_goto 82 C dX7_layRoot_78 (by decide) ?_
      refine x_sub [1, 2, 4] rfl ?_
      exact tX7_layRoot_j82 C HQ _ _ _ _ _ Hb5 hf
    ·
      refine x_alN 69 C dX7_layRoot_68 1 rfl rfl rfl ?_
      refine x_ilN 70 C dX7_layRoot_69 4 rfl rfl rfl ?_
      refine x_ilN 71 C dX7_layRoot_70 3 rfl rfl rfl ?_
      refine x_cvIP 74 C [.int v3, .int v2] hwX7_isBetterOffer mq_825 dX7_layRoot_71 rfl ⟨Nat.le_of_ble_eq_true rfl, Nat.le_of_ble_eq_true rfl⟩ 0 wR_at_0 rfl rfl rfl (Nat.le_of_ble_eq_true rfl) (fun z hz => tX7_isBetterOffer hz) hf (fun z3 hf => ?_)
      refine x_if_eq 77 C 81 dX7_layRoot_74 (by decide) rfl hf (fun hf => ?_) (fun hf => ?_)
      ·
        refine x_ilN 82 C dX7_layRoot_81 3 rfl rfl rfl ?_
        refine x_sub [1, 2, 4] rfl ?_
        exact tX7_layRoot_j82 C HQ _ _ _ _ _ Hb5 hf
      ·
        refine x_ilN 78 C dX7_layRoot_77 4 rfl rfl rfl ?_
        refine x_goto 82 C dX7_layRoot_78 (by decide) ?_
        refine x_sub [1, 2, 4] rfl ?_
        exact tX7_layRoot_j82 C HQ _ _ _ _ _ Hb5 hf
set_option maxRecDepth 20000 in
set_option maxHeartbeats 1000000 in
theorem tX7_layRoot_B5 {l : Launch} {Y : xY} {X : xE} {ad : Nat → Nat} {fr : va_W} {z0 : xM} (C : xC Y X cX7_layRoot RX7 none 5 2 46) (HQ : xRV Y X (wR Y ad fr) z0) (M : xM)  (v1 : Int32) (k89 : Int32 → Option (xM)) (Hk89 : ∀ (v2 : Int32), k89 v2 = some z0 → xG Y l X (wR Y ad fr) M 89 [(0, .ref (ad 0)), (1, .int v1), (2, .int v2)] []) (v2 : Int32) (v3 : Int32) (b5 : Int32 → Int32 → Option (xM)) (Hb5 : ∀ (v2 : Int32) (v3 : Int32), b5 v2 v3 = some z0 → xG Y l X (wR Y ad fr) M 5 [(0, .ref (ad 0)), (1, .int v1), (2, .int v2), (3, .int v3)] []) (hf : fX7_layRoot_B5 M v1 k89 v2 v3 b5 = some z0) : xG Y l X (wR Y ad fr) M 5 [(0, .ref (ad 0)), (1, .int v1), (2, .int v2), (3, .int v3)] [] := by
  unfold fX7_layRoot_B5 at hf
  refine x_ilN 6 C dX7_layRoot_5 3 rfl rfl rfl ?_
  refine x_alN 7 C dX7_layRoot_6 0 rfl rfl rfl ?_
  refine x_cvIP 10 C [] hwX7_ports mq_741 dX7_layRoot_7 rfl ⟨Nat.le_of_ble_eq_true rfl, Nat.le_of_ble_eq_true rfl⟩ 0 wR_at_0 rfl rfl rfl (Nat.le_of_ble_eq_true rfl) (fun z hz => tX7_ports hz) hf (fun z1 hf => ?_)
  refine x_icmp_ge 13 C 89 dX7_layRoot_10 (by decide) rfl hf (fun hf => ?_) (fun hf => ?_)
  ·
    refine x_sub [0, 1, 2] rfl ?_
    exact Hk89 _ hf
  ·
    refine x_alN 14 C dX7_layRoot_13 0 rfl rfl rfl ?_
    refine x_ilN 15 C dX7_layRoot_14 3 rfl rfl rfl ?_
    refine x_cvIP 18 C [.int v3] hwX7_bridgeOf mq_749 dX7_layRoot_15 rfl ⟨Nat.le_of_ble_eq_true rfl, Nat.le_of_ble_eq_true rfl⟩ 0 wR_at_0 rfl rfl rfl (Nat.le_of_ble_eq_true rfl) (fun z hz => tX7_bridgeOf hz) hf (fun z2 hf => ?_)
    refine x_ilN 19 C dX7_layRoot_18 1 rfl rfl rfl ?_
    refine x_icmp_ne 22 C 56 dX7_layRoot_19 (by decide) rfl hf (fun hf => ?_) (fun hf => ?_)
    ·
      refine x_iconst 57 C (nI 0) dX7_layRoot_56 ki_0 rfl ?_
      exact tX7_layRoot_j57 C HQ _ _ _ _ _ _ Hb5 hf
    ·
      refine x_alN 23 C dX7_layRoot_22 0 rfl rfl rfl ?_
      refine x_ilN 24 C dX7_layRoot_23 3 rfl rfl rfl ?_
      refine x_cvIP 27 C [.int v3] hwX7_isActive mq_745 dX7_layRoot_24 rfl ⟨Nat.le_of_ble_eq_true rfl, Nat.le_of_ble_eq_true rfl⟩ 0 wR_at_0 rfl rfl rfl (Nat.le_of_ble_eq_true rfl) (fun z hz => tX7_isActive hz) hf (fun z4 hf => ?_)
      refine x_if_eq 30 C 56 dX7_layRoot_27 (by decide) rfl hf (fun hf => ?_) (fun hf => ?_)
      ·
        refine x_iconst 57 C (nI 0) dX7_layRoot_56 ki_0 rfl ?_
        exact tX7_layRoot_j57 C HQ _ _ _ _ _ _ Hb5 hf
      ·
        refine x_alN 31 C dX7_layRoot_30 0 rfl rfl rfl ?_
        refine x_ilN 32 C dX7_layRoot_31 3 rfl rfl rfl ?_
        refine x_cvIP 35 C [.int v3] hwX7_stores mq_813 dX7_layRoot_32 rfl ⟨Nat.le_of_ble_eq_true rfl, Nat.le_of_ble_eq_true rfl⟩ 0 wR_at_0 rfl rfl rfl (Nat.le_of_ble_eq_true rfl) (fun z hz => tX7_stores hz) hf (fun z5 hf => ?_)
        refine x_if_eq 38 C 56 dX7_layRoot_35 (by decide) rfl hf (fun hf => ?_) (fun hf => ?_)
        ·
          refine x_iconst 57 C (nI 0) dX7_layRoot_56 ki_0 rfl ?_
          exact tX7_layRoot_j57 C HQ _ _ _ _ _ _ Hb5 hf
        ·
          refine x_alN 39 C dX7_layRoot_38 0 rfl rfl rfl ?_
          refine x_ilN 40 C dX7_layRoot_39 3 rfl rfl rfl ?_
          refine x_iconst 41 C (nI 2) dX7_layRoot_40 ki_2 rfl ?_
          refine x_cvIP 44 C [.int v3, .int (nI 2)] hwX7_message mq_817 dX7_layRoot_41 rfl ⟨Nat.le_of_ble_eq_true rfl, Nat.le_of_ble_eq_true rfl⟩ 0 wR_at_0 rfl rfl rfl (Nat.le_of_ble_eq_true rfl) (fun z hz => tX7_message hz) hf (fun z6 hf => ?_)
          refine x_alN 45 C dX7_layRoot_44 0 rfl rfl rfl ?_
          refine x_ilN 46 C dX7_layRoot_45 1 rfl rfl rfl ?_
          refine x_cvIP 49 C [.int v1] hwX7_idOf mq_821 dX7_layRoot_46 rfl ⟨Nat.le_of_ble_eq_true rfl, Nat.le_of_ble_eq_true rfl⟩ 0 wR_at_0 rfl rfl rfl (Nat.le_of_ble_eq_true rfl) (fun z hz => tX7_idOf hz) hf (fun z7 hf => ?_)
          refine x_icmp_eq 52 C 56 dX7_layRoot_49 (by decide) rfl hf (fun hf => ?_) (fun hf => ?_)
          ·
            refine x_iconst 57 C (nI 0) dX7_layRoot_56 ki_0 rfl ?_
            exact tX7_layRoot_j57 C HQ _ _ _ _ _ _ Hb5 hf
          ·
            refine x_iconst 53 C (nI 1) dX7_layRoot_52 ki_1 rfl ?_
            refine x_goto 57 C dX7_layRoot_53 (by decide) ?_
            exact tX7_layRoot_j57 C HQ _ _ _ _ _ _ Hb5 hf
set_option maxRecDepth 20000 in
set_option maxHeartbeats 1000000 in
theorem tX7_layRoot_L5 {l : Launch} {Y : xY} {X : xE} {ad : Nat → Nat} {fr : va_W} {z0 : xM} (C : xC Y X cX7_layRoot RX7 none 5 2 46) (HQ : xRV Y X (wR Y ad fr) z0) (M : xM)  (v1 : Int32) (k89 : Int32 → Option (xM)) (Hk89 : ∀ (v2 : Int32), k89 v2 = some z0 → xG Y l X (wR Y ad fr) M 89 [(0, .ref (ad 0)), (1, .int v1), (2, .int v2)] []) : ∀ (n : Nat) (v2 : Int32) (v3 : Int32), fX7_layRoot_L5 M v1 k89 n v2 v3 = some z0 → xG Y l X (wR Y ad fr) M 5 [(0, .ref (ad 0)), (1, .int v1), (2, .int v2), (3, .int v3)] [] := by
  intro n
  induction n with
  | zero =>
    intro v2 v3 hf
    cases hf
  | succ n ih =>
    intro v2 v3 hf
    exact tX7_layRoot_B5 C HQ M v1 _ Hk89 v2 v3 _ (fun v2 v3 hf => ih v2 v3 hf) hf
set_option maxRecDepth 20000 in
set_option maxHeartbeats 1000000 in
theorem tX7_layRoot_j182 {l : Launch} {Y : xY} {X : xE} {ad : Nat → Nat} {fr : va_W} {z0 : xM} (C : xC Y X cX7_layRoot RX7 none 5 2 46) (HQ : xRV Y X (wR Y ad fr) z0) (M : xM) (s0 : Int32) (s1 : Int32)  (hf : fX7_layRoot_j182 M s0 s1 = some z0) : xG Y l X (wR Y ad fr) M 182 [] [.int s0, .int s1, .ref (ad 7)] := by
  unfold fX7_layRoot_j182 at hf
  refine xwR_7 183 C dX7_layRoot_182 rfl hf (fun M12 hf => ?_)
  exact x_vret C HQ rfl dX7_layRoot_183 hf
set_option maxRecDepth 20000 in
set_option maxHeartbeats 1000000 in
theorem tX7_layRoot_j152 {l : Launch} {Y : xY} {X : xE} {ad : Nat → Nat} {fr : va_W} {z0 : xM} (C : xC Y X cX7_layRoot RX7 none 5 2 46) (HQ : xRV Y X (wR Y ad fr) z0) (M : xM) (v1 : Int32) (v2 : Int32) (v3 : Int32) (s0 : Int32) (s1 : Int32)  (hf : fX7_layRoot_j152 M v1 v2 v3 s0 s1 = some z0) : xG Y l X (wR Y ad fr) M 152 [(0, .ref (ad 0)), (1, .int v1), (2, .int v2), (3, .int v3)] [.int s0, .int s1, .ref (ad 6)] := by
  unfold fX7_layRoot_j152 at hf
  refine xwR_6 153 C dX7_layRoot_152 rfl hf (fun M11 hf => ?_)
  refine x_alN 154 C dX7_layRoot_153 0 rfl rfl rfl ?_
  refine xgX7_6 157 C mq_674 dX7_layRoot_154 rfl ?_
  refine x_ilN 158 C dX7_layRoot_157 1 rfl rfl rfl ?_
  refine x_ilN 159 C dX7_layRoot_158 3 rfl rfl rfl ?_
  refine x_if_eq 162 C 181 dX7_layRoot_159 (by decide) rfl hf (fun hf => ?_) (fun hf => ?_)
  ·
    refine x_iconst 182 C (nI 0) dX7_layRoot_181 ki_0 rfl ?_
    refine x_sub [] rfl ?_
    exact tX7_layRoot_j182 C HQ _ _ _  hf
  ·
    refine x_alN 163 C dX7_layRoot_162 0 rfl rfl rfl ?_
    refine x_ilN 164 C dX7_layRoot_163 2 rfl rfl rfl ?_
    refine x_iconst 165 C (nI 1) dX7_layRoot_164 ki_1 rfl ?_
    refine x_cvIP 168 C [.int v2, .int (nI 1)] hwX7_message mq_817 dX7_layRoot_165 rfl ⟨Nat.le_of_ble_eq_true rfl, Nat.le_of_ble_eq_true rfl⟩ 0 wR_at_0 rfl rfl rfl (Nat.le_of_ble_eq_true rfl) (fun z hz => tX7_message hz) hf (fun z13 hf => ?_)
    refine x_alN 169 C dX7_layRoot_168 0 rfl rfl rfl ?_
    refine xgX7_0 172 C mq_668 dX7_layRoot_169 rfl ?_
    refine x_bipush 174 C (nI 69) dX7_layRoot_172 kb_69 rfl ?_
    refine x_ilN 175 C dX7_layRoot_174 2 rfl rfl rfl ?_
    refine x_iadd 176 C dX7_layRoot_175 rfl ?_
    refine xrR_1 177 C dX7_layRoot_176 rfl hf (fun x14 hf => ?_)
    refine x_iadd 178 C dX7_layRoot_177 rfl ?_
    refine x_goto 182 C dX7_layRoot_178 (by decide) ?_
    refine x_sub [] rfl ?_
    exact tX7_layRoot_j182 C HQ _ _ _  hf
set_option maxRecDepth 20000 in
set_option maxHeartbeats 1000000 in
theorem tX7_layRoot_j128 {l : Launch} {Y : xY} {X : xE} {ad : Nat → Nat} {fr : va_W} {z0 : xM} (C : xC Y X cX7_layRoot RX7 none 5 2 46) (HQ : xRV Y X (wR Y ad fr) z0) (M : xM) (v1 : Int32) (v2 : Int32) (v3 : Int32) (s0 : Int32) (s1 : Int32)  (hf : fX7_layRoot_j128 M v1 v2 v3 s0 s1 = some z0) : xG Y l X (wR Y ad fr) M 128 [(0, .ref (ad 0)), (1, .int v1), (2, .int v2), (3, .int v3)] [.int s0, .int s1, .ref (ad 5)] := by
  unfold fX7_layRoot_j128 at hf
  refine xwR_5 129 C dX7_layRoot_128 rfl hf (fun M9 hf => ?_)
  refine x_alN 130 C dX7_layRoot_129 0 rfl rfl rfl ?_
  refine xgX7_5 133 C mq_673 dX7_layRoot_130 rfl ?_
  refine x_ilN 134 C dX7_layRoot_133 1 rfl rfl rfl ?_
  refine x_ilN 135 C dX7_layRoot_134 3 rfl rfl rfl ?_
  refine x_if_eq 138 C 147 dX7_layRoot_135 (by decide) rfl hf (fun hf => ?_) (fun hf => ?_)
  ·
    refine x_alN 148 C dX7_layRoot_147 0 rfl rfl rfl ?_
    refine x_ilN 149 C dX7_layRoot_148 1 rfl rfl rfl ?_
    refine x_cvIP 152 C [.int v1] hwX7_idOf mq_821 dX7_layRoot_149 rfl ⟨Nat.le_of_ble_eq_true rfl, Nat.le_of_ble_eq_true rfl⟩ 0 wR_at_0 rfl rfl rfl (Nat.le_of_ble_eq_true rfl) (fun z hz => tX7_idOf hz) hf (fun z10 hf => ?_)
    exact tX7_layRoot_j152 C HQ _ _ _ _ _ _  hf
  ·
    refine x_alN 139 C dX7_layRoot_138 0 rfl rfl rfl ?_
    refine x_ilN 140 C dX7_layRoot_139 2 rfl rfl rfl ?_
    refine x_iconst 141 C (nI 0) dX7_layRoot_140 ki_0 rfl ?_
    refine x_cvIP 144 C [.int v2, .int (nI 0)] hwX7_message mq_817 dX7_layRoot_141 rfl ⟨Nat.le_of_ble_eq_true rfl, Nat.le_of_ble_eq_true rfl⟩ 0 wR_at_0 rfl rfl rfl (Nat.le_of_ble_eq_true rfl) (fun z hz => tX7_message hz) hf (fun z15 hf => ?_)
    refine x_goto 152 C dX7_layRoot_144 (by decide) ?_
    exact tX7_layRoot_j152 C HQ _ _ _ _ _ _  hf
set_option maxRecDepth 20000 in
set_option maxHeartbeats 1000000 in
theorem tX7_layRoot_j112 {l : Launch} {Y : xY} {X : xE} {ad : Nat → Nat} {fr : va_W} {z0 : xM} (C : xC Y X cX7_layRoot RX7 none 5 2 46) (HQ : xRV Y X (wR Y ad fr) z0) (M : xM) (v1 : Int32) (v2 : Int32) (s0 : Int32)  (hf : fX7_layRoot_j112 M v1 v2 s0 = some z0) : xG Y l X (wR Y ad fr) M 112 [(0, .ref (ad 0)), (1, .int v1), (2, .int v2)] [.int s0] := by
  unfold fX7_layRoot_j112 at hf
  refine x_isN 113 C 3 (lv2 := [(3, .int s0), (0, .ref (ad 0)), (1, .int v1), (2, .int v2)]) dX7_layRoot_112 rfl rfl (Nat.le_of_ble_eq_true rfl) rfl ?_
  refine x_alN 114 C dX7_layRoot_113 1 rfl rfl rfl ?_
  refine xgX7_4 117 C mq_672 dX7_layRoot_114 rfl ?_
  refine x_ilN 118 C dX7_layRoot_117 2 rfl rfl rfl ?_
  refine x_ilN 119 C dX7_layRoot_118 0 rfl rfl rfl ?_
  refine x_if_eq 122 C 126 dX7_layRoot_119 (by decide) rfl hf (fun hf => ?_) (fun hf => ?_)
  ·
    refine x_bipush 128 C (-9) dX7_layRoot_126 kb_m9 rfl ?_
    refine x_sub [1, 2, 3, 0] rfl ?_
    exact tX7_layRoot_j128 C HQ _ _ _ _ _ _  hf
  ·
    refine x_ilN 123 C dX7_layRoot_122 3 rfl rfl rfl ?_
    refine x_goto 128 C dX7_layRoot_123 (by decide) ?_
    refine x_sub [1, 2, 3, 0] rfl ?_
    exact tX7_layRoot_j128 C HQ _ _ _ _ _ _  hf
set_option maxRecDepth 20000 in
set_option maxHeartbeats 1000000 in
theorem tX7_layRoot {l : Launch} {Y : xY} {ad : Nat → Nat} {fr : va_W} {M : xM} {p1 : Int32} {z0 : xM} (hf : fX7_layRoot M p1 = some z0) : xcV l Y (wR Y ad fr) yX7_layRoot cX7_layRoot 5 none 2 46 [.ref (ad 0), .int p1] M z0 := by
  refine x_entryV [(0, .ref (ad 0)), (1, .int p1)] pnX7 rfl (Nat.le_of_ble_eq_true rfl) rfl (fun X C HQ => ?_)
  unfold fX7_layRoot at hf
  refine x_bipush 2 C (-9) dX7_layRoot_0 kb_m9 rfl ?_
  refine x_isN 3 C 2 (lv2 := [(2, .int (-9)), (0, .ref (ad 0)), (1, .int p1)]) dX7_layRoot_2 rfl rfl (Nat.le_of_ble_eq_true rfl) rfl ?_
  refine x_iconst 4 C (nI 0) dX7_layRoot_3 ki_0 rfl ?_
  refine x_isN 5 C 3 (lv2 := [(3, .int (nI 0)), (2, .int (-9)), (0, .ref (ad 0)), (1, .int p1)]) dX7_layRoot_4 rfl rfl (Nat.le_of_ble_eq_true rfl) rfl ?_
  refine x_sub [2, 3, 1, 0] rfl ?_
  refine tX7_layRoot_L5 C HQ _ _ _ (fun v8 hf => ?_) 512 _ _ hf
  refine x_ilN 90 C dX7_layRoot_89 2 rfl rfl rfl ?_
  refine x_if_lt 93 C 111 dX7_layRoot_90 (by decide) rfl hf (fun hf => ?_) (fun hf => ?_)
  ·
    refine x_iconst 112 C (nI 0) dX7_layRoot_111 ki_0 rfl ?_
    exact tX7_layRoot_j112 C HQ _ _ _ _  hf
  ·
    refine x_alN 94 C dX7_layRoot_93 0 rfl rfl rfl ?_
    refine x_ilN 95 C dX7_layRoot_94 2 rfl rfl rfl ?_
    refine x_iconst 96 C (nI 0) dX7_layRoot_95 ki_0 rfl ?_
    refine x_cvIP 99 C [.int v8, .int (nI 0)] hwX7_message mq_817 dX7_layRoot_96 rfl ⟨Nat.le_of_ble_eq_true rfl, Nat.le_of_ble_eq_true rfl⟩ 0 wR_at_0 rfl rfl rfl (Nat.le_of_ble_eq_true rfl) (fun z hz => tX7_message hz) hf (fun z16 hf => ?_)
    refine x_alN 100 C dX7_layRoot_99 0 rfl rfl rfl ?_
    refine x_ilN 101 C dX7_layRoot_100 1 rfl rfl rfl ?_
    refine x_cvIP 104 C [.int p1] hwX7_idOf mq_821 dX7_layRoot_101 rfl ⟨Nat.le_of_ble_eq_true rfl, Nat.le_of_ble_eq_true rfl⟩ 0 wR_at_0 rfl rfl rfl (Nat.le_of_ble_eq_true rfl) (fun z hz => tX7_idOf hz) hf (fun z17 hf => ?_)
    refine x_icmp_ge 107 C 111 dX7_layRoot_104 (by decide) rfl hf (fun hf => ?_) (fun hf => ?_)
    ·
      refine x_iconst 112 C (nI 0) dX7_layRoot_111 ki_0 rfl ?_
      exact tX7_layRoot_j112 C HQ _ _ _ _  hf
    ·
      refine x_iconst 108 C (nI 1) dX7_layRoot_107 ki_1 rfl ?_
      refine x_goto 112 C dX7_layRoot_108 (by decide) ?_
      exact tX7_layRoot_j112 C HQ _ _ _ _  hf
set_option maxRecDepth 20000 in
set_option maxHeartbeats 1000000 in
theorem tX7_isBetter {l : Launch} {Y : xY} {ad : Nat → Nat} {fr : va_W} {M : xM} {p1 : Int32} {p2 : Int32} {p3 : Int32} {p4 : Int32} {p5 : Int32} {p6 : Int32} {p7 : Int32} {p8 : Int32} {z0 : Int32} (hf : fX7_isBetter M p1 p2 p3 p4 p5 p6 p7 p8 = some z0) : xcI l Y (wR Y ad fr) yX7_isBetter cX7_isBetter 8 (some .boolean) 0 0 [.int p1, .int p2, .int p3, .int p4, .int p5, .int p6, .int p7, .int p8] M z0 M := by
  refine x_entryI [(0, .int p1), (1, .int p2), (2, .int p3), (3, .int p4), (4, .int p5), (5, .int p6), (6, .int p7), (7, .int p8)] pnX7 rfl (Nat.le_of_ble_eq_true rfl) rfl (fun X C HQ => ?_)
  unfold fX7_isBetter at hf
  refine x_ilN 1 C dX7_isBetter_0 0 rfl rfl rfl ?_
  refine x_il 3 C dX7_isBetter_1 4 rfl rfl ?_
  refine x_icmp_eq 6 C 18 dX7_isBetter_3 (by decide) rfl hf (fun hf => ?_) (fun hf => ?_)
  ·
    refine x_ilN 19 C dX7_isBetter_18 1 rfl rfl rfl ?_
    refine x_il 21 C dX7_isBetter_19 5 rfl rfl ?_
    refine x_icmp_eq 24 C 36 dX7_isBetter_21 (by decide) rfl hf (fun hf => ?_) (fun hf => ?_)
    ·
      refine x_ilN 37 C dX7_isBetter_36 2 rfl rfl rfl ?_
      refine x_il 39 C dX7_isBetter_37 6 rfl rfl ?_
      refine x_icmp_eq 42 C 56 dX7_isBetter_39 (by decide) rfl hf (fun hf => ?_) (fun hf => ?_)
      ·
        refine x_ilN 57 C dX7_isBetter_56 3 rfl rfl rfl ?_
        refine x_il 59 C dX7_isBetter_57 7 rfl rfl ?_
        refine x_icmp_ge 62 C 66 dX7_isBetter_59 (by decide) rfl hf (fun hf => ?_) (fun hf => ?_)
        ·
          refine x_iconst 67 C (nI 0) dX7_isBetter_66 ki_0 rfl ?_
          exact x_iretP C HQ rfl rfl dX7_isBetter_67 hf
        ·
          refine x_iconst 63 C (nI 1) dX7_isBetter_62 ki_1 rfl ?_
          refine x_goto 67 C dX7_isBetter_63 (by decide) ?_
          exact x_iretP C HQ rfl rfl dX7_isBetter_67 hf
      ·
        refine x_ilN 43 C dX7_isBetter_42 2 rfl rfl rfl ?_
        refine x_il 45 C dX7_isBetter_43 6 rfl rfl ?_
        refine x_icmp_ge 48 C 52 dX7_isBetter_45 (by decide) rfl hf (fun hf => ?_) (fun hf => ?_)
        ·
          refine x_iconst 53 C (nI 0) dX7_isBetter_52 ki_0 rfl ?_
          refine x_goto 67 C dX7_isBetter_53 (by decide) ?_
          exact x_iretP C HQ rfl rfl dX7_isBetter_67 hf
        ·
          refine x_iconst 49 C (nI 1) dX7_isBetter_48 ki_1 rfl ?_
          refine x_goto 67 C dX7_isBetter_49 (by decide) ?_
          exact x_iretP C HQ rfl rfl dX7_isBetter_67 hf
    ·
      refine x_ilN 25 C dX7_isBetter_24 1 rfl rfl rfl ?_
      refine x_il 27 C dX7_isBetter_25 5 rfl rfl ?_
      refine x_icmp_ge 30 C 34 dX7_isBetter_27 (by decide) rfl hf (fun hf => ?_) (fun hf => ?_)
      ·
        refine x_iconst 35 C (nI 0) dX7_isBetter_34 ki_0 rfl ?_
        exact x_iretP C HQ rfl rfl dX7_isBetter_35 hf
      ·
        refine x_iconst 31 C (nI 1) dX7_isBetter_30 ki_1 rfl ?_
        refine x_goto 35 C dX7_isBetter_31 (by decide) ?_
        exact x_iretP C HQ rfl rfl dX7_isBetter_35 hf
  ·
    refine x_ilN 7 C dX7_isBetter_6 0 rfl rfl rfl ?_
    refine x_il 9 C dX7_isBetter_7 4 rfl rfl ?_
    refine x_icmp_ge 12 C 16 dX7_isBetter_9 (by decide) rfl hf (fun hf => ?_) (fun hf => ?_)
    ·
      refine x_iconst 17 C (nI 0) dX7_isBetter_16 ki_0 rfl ?_
      exact x_iretP C HQ rfl rfl dX7_isBetter_17 hf
    ·
      refine x_iconst 13 C (nI 1) dX7_isBetter_12 ki_1 rfl ?_
      refine x_goto 17 C dX7_isBetter_13 (by decide) ?_
      exact x_iretP C HQ rfl rfl dX7_isBetter_17 hf
set_option maxRecDepth 20000 in
set_option maxHeartbeats 1000000 in
theorem tX7_isOwnBetter {l : Launch} {Y : xY} {ad : Nat → Nat} {fr : va_W} {M : xM} {p1 : Int32} {z0 : Int32} (hf : fX7_isOwnBetter M p1 = some z0) : xcI l Y (wR Y ad fr) yX7_isOwnBetter cX7_isOwnBetter 3 (some .boolean) 1 27 [.ref (ad 0), .int p1] M z0 M := by
  refine x_entryI [(0, .ref (ad 0)), (1, .int p1)] pnX7 rfl (Nat.le_of_ble_eq_true rfl) rfl (fun X C HQ => ?_)
  unfold fX7_isOwnBetter at hf
  refine x_alN 1 C dX7_isOwnBetter_0 0 rfl rfl rfl ?_
  refine x_ilN 2 C dX7_isOwnBetter_1 1 rfl rfl rfl ?_
  refine x_cvIP 5 C [.int p1] hwX7_bridgeOf mq_749 dX7_isOwnBetter_2 rfl ⟨Nat.le_of_ble_eq_true rfl, Nat.le_of_ble_eq_true rfl⟩ 0 wR_at_0 rfl rfl rfl (Nat.le_of_ble_eq_true rfl) (fun z hz => tX7_bridgeOf hz) hf (fun z1 hf => ?_)
  refine x_isN 6 C 2 (lv2 := [(2, .int z1), (0, .ref (ad 0)), (1, .int p1)]) dX7_isOwnBetter_5 rfl rfl (Nat.le_of_ble_eq_true rfl) rfl ?_
  refine x_alN 7 C dX7_isOwnBetter_6 1 rfl rfl rfl ?_
  refine xgX7_5 10 C mq_673 dX7_isOwnBetter_7 rfl ?_
  refine x_ilN 11 C dX7_isOwnBetter_10 0 rfl rfl rfl ?_
  refine xrR_6 12 C dX7_isOwnBetter_11 rfl hf (fun x2 hf => ?_)
  refine x_alN 13 C dX7_isOwnBetter_12 1 rfl rfl rfl ?_
  refine xgX7_6 16 C mq_674 dX7_isOwnBetter_13 rfl ?_
  refine x_ilN 17 C dX7_isOwnBetter_16 0 rfl rfl rfl ?_
  refine xrR_7 18 C dX7_isOwnBetter_17 rfl hf (fun x3 hf => ?_)
  refine x_alN 19 C dX7_isOwnBetter_18 1 rfl rfl rfl ?_
  refine x_ilN 20 C dX7_isOwnBetter_19 0 rfl rfl rfl ?_
  refine x_cvIP 23 C [.int z1] hwX7_idOf mq_821 dX7_isOwnBetter_20 rfl ⟨Nat.le_of_ble_eq_true rfl, Nat.le_of_ble_eq_true rfl⟩ 0 wR_at_0 rfl rfl rfl (Nat.le_of_ble_eq_true rfl) (fun z hz => tX7_idOf hz) hf (fun z4 hf => ?_)
  refine x_ilN 24 C dX7_isOwnBetter_23 2 rfl rfl rfl ?_
  refine x_alN 25 C dX7_isOwnBetter_24 1 rfl rfl rfl ?_
  refine x_ilN 26 C dX7_isOwnBetter_25 2 rfl rfl rfl ?_
  refine x_iconst 27 C (nI 0) dX7_isOwnBetter_26 ki_0 rfl ?_
  refine x_cvIP 30 C [.int p1, .int (nI 0)] hwX7_message mq_817 dX7_isOwnBetter_27 rfl ⟨Nat.le_of_ble_eq_true rfl, Nat.le_of_ble_eq_true rfl⟩ 0 wR_at_0 rfl rfl rfl (Nat.le_of_ble_eq_true rfl) (fun z hz => tX7_message hz) hf (fun z5 hf => ?_)
  refine x_alN 31 C dX7_isOwnBetter_30 1 rfl rfl rfl ?_
  refine x_ilN 32 C dX7_isOwnBetter_31 2 rfl rfl rfl ?_
  refine x_iconst 33 C (nI 1) dX7_isOwnBetter_32 ki_1 rfl ?_
  refine x_cvIP 36 C [.int p1, .int (nI 1)] hwX7_message mq_817 dX7_isOwnBetter_33 rfl ⟨Nat.le_of_ble_eq_true rfl, Nat.le_of_ble_eq_true rfl⟩ 0 wR_at_0 rfl rfl rfl (Nat.le_of_ble_eq_true rfl) (fun z hz => tX7_message hz) hf (fun z6 hf => ?_)
  refine x_alN 37 C dX7_isOwnBetter_36 1 rfl rfl rfl ?_
  refine x_ilN 38 C dX7_isOwnBetter_37 2 rfl rfl rfl ?_
  refine x_iconst 39 C (nI 2) dX7_isOwnBetter_38 ki_2 rfl ?_
  refine x_cvIP 42 C [.int p1, .int (nI 2)] hwX7_message mq_817 dX7_isOwnBetter_39 rfl ⟨Nat.le_of_ble_eq_true rfl, Nat.le_of_ble_eq_true rfl⟩ 0 wR_at_0 rfl rfl rfl (Nat.le_of_ble_eq_true rfl) (fun z hz => tX7_message hz) hf (fun z7 hf => ?_)
  refine x_alN 43 C dX7_isOwnBetter_42 1 rfl rfl rfl ?_
  refine x_ilN 44 C dX7_isOwnBetter_43 2 rfl rfl rfl ?_
  refine x_iconst 45 C (nI 3) dX7_isOwnBetter_44 ki_3 rfl ?_
  refine x_cvIP 48 C [.int p1, .int (nI 3)] hwX7_message mq_817 dX7_isOwnBetter_45 rfl ⟨Nat.le_of_ble_eq_true rfl, Nat.le_of_ble_eq_true rfl⟩ 0 wR_at_0 rfl rfl rfl (Nat.le_of_ble_eq_true rfl) (fun z hz => tX7_message hz) hf (fun z8 hf => ?_)
  refine x_csIP 51 C [.int x2, .int x3, .int z4, .int p1, .int z5, .int z6, .int z7, .int z8] hwX7_isBetter mq_837 dX7_isOwnBetter_48 rfl ⟨Nat.le_of_ble_eq_true rfl, Nat.le_of_ble_eq_true rfl⟩ rfl rfl (Nat.le_of_ble_eq_true rfl) (fun z hz => tX7_isBetter hz) hf (fun z9 hf => ?_)
  obtain ⟨hn, hf⟩ := x_nz hf
  exact x_iretP C HQ rfl hn dX7_isOwnBetter_51 hf
set_option maxRecDepth 20000 in
set_option maxHeartbeats 1000000 in
theorem tX7_roleOf {l : Launch} {Y : xY} {ad : Nat → Nat} {fr : va_W} {M : xM} {p1 : Int32} {z0 : Int32} (hf : fX7_roleOf M p1 = some z0) : xcI l Y (wR Y ad fr) yX7_roleOf cX7_roleOf 3 (some .int) 2 49 [.ref (ad 0), .int p1] M z0 M := by
  refine x_entryI [(0, .ref (ad 0)), (1, .int p1)] pnX7 rfl (Nat.le_of_ble_eq_true rfl) rfl (fun X C HQ => ?_)
  unfold fX7_roleOf at hf
  refine x_alN 1 C dX7_roleOf_0 0 rfl rfl rfl ?_
  refine x_ilN 2 C dX7_roleOf_1 1 rfl rfl rfl ?_
  refine x_cvIP 5 C [.int p1] hwX7_isActive mq_745 dX7_roleOf_2 rfl ⟨Nat.le_of_ble_eq_true rfl, Nat.le_of_ble_eq_true rfl⟩ 0 wR_at_0 rfl rfl rfl (Nat.le_of_ble_eq_true rfl) (fun z hz => tX7_isActive hz) hf (fun z1 hf => ?_)
  refine x_if_ne 8 C 10 dX7_roleOf_5 (by decide) rfl hf (fun hf => ?_) (fun hf => ?_)
  ·
    refine x_alN 11 C dX7_roleOf_10 0 rfl rfl rfl ?_
    refine x_ilN 12 C dX7_roleOf_11 1 rfl rfl rfl ?_
    refine x_cvIP 15 C [.int p1] hwX7_bridgeOf mq_749 dX7_roleOf_12 rfl ⟨Nat.le_of_ble_eq_true rfl, Nat.le_of_ble_eq_true rfl⟩ 0 wR_at_0 rfl rfl rfl (Nat.le_of_ble_eq_true rfl) (fun z hz => tX7_bridgeOf hz) hf (fun z2 hf => ?_)
    refine x_isN 16 C 2 (lv2 := [(2, .int z2), (0, .ref (ad 0)), (1, .int p1)]) dX7_roleOf_15 rfl rfl (Nat.le_of_ble_eq_true rfl) rfl ?_
    refine x_alN 17 C dX7_roleOf_16 1 rfl rfl rfl ?_
    refine xgX7_4 20 C mq_672 dX7_roleOf_17 rfl ?_
    refine x_ilN 21 C dX7_roleOf_20 0 rfl rfl rfl ?_
    refine xrR_5 22 C dX7_roleOf_21 rfl hf (fun x3 hf => ?_)
    refine x_ilN 23 C dX7_roleOf_22 2 rfl rfl rfl ?_
    refine x_icmp_ne 26 C 28 dX7_roleOf_23 (by decide) rfl hf (fun hf => ?_) (fun hf => ?_)
    ·
      refine x_alN 29 C dX7_roleOf_28 1 rfl rfl rfl ?_
      refine x_ilN 30 C dX7_roleOf_29 2 rfl rfl rfl ?_
      refine x_cvIP 33 C [.int p1] hwX7_stores mq_813 dX7_roleOf_30 rfl ⟨Nat.le_of_ble_eq_true rfl, Nat.le_of_ble_eq_true rfl⟩ 0 wR_at_0 rfl rfl rfl (Nat.le_of_ble_eq_true rfl) (fun z hz => tX7_stores hz) hf (fun z4 hf => ?_)
      refine x_if_eq 36 C 44 dX7_roleOf_33 (by decide) rfl hf (fun hf => ?_) (fun hf => ?_)
      ·
        refine x_iconst 45 C (nI 2) dX7_roleOf_44 ki_2 rfl ?_
        exact x_iretP C HQ rfl (vp_nar_int _) dX7_roleOf_45 hf
      ·
        refine x_alN 37 C dX7_roleOf_36 1 rfl rfl rfl ?_
        refine x_ilN 38 C dX7_roleOf_37 2 rfl rfl rfl ?_
        refine x_cvIP 41 C [.int p1] hwX7_isOwnBetter mq_833 dX7_roleOf_38 rfl ⟨Nat.le_of_ble_eq_true rfl, Nat.le_of_ble_eq_true rfl⟩ 0 wR_at_0 rfl rfl rfl (Nat.le_of_ble_eq_true rfl) (fun z hz => tX7_isOwnBetter hz) hf (fun z5 hf => ?_)
        refine x_if_eq 44 C 46 dX7_roleOf_41 (by decide) rfl hf (fun hf => ?_) (fun hf => ?_)
        ·
          refine x_alN 47 C dX7_roleOf_46 1 rfl rfl rfl ?_
          refine x_ilN 48 C dX7_roleOf_47 2 rfl rfl rfl ?_
          refine x_iconst 49 C (nI 2) dX7_roleOf_48 ki_2 rfl ?_
          refine x_cvIP 52 C [.int p1, .int (nI 2)] hwX7_message mq_817 dX7_roleOf_49 rfl ⟨Nat.le_of_ble_eq_true rfl, Nat.le_of_ble_eq_true rfl⟩ 0 wR_at_0 rfl rfl rfl (Nat.le_of_ble_eq_true rfl) (fun z hz => tX7_message hz) hf (fun z6 hf => ?_)
          refine x_alN 53 C dX7_roleOf_52 1 rfl rfl rfl ?_
          refine x_ilN 54 C dX7_roleOf_53 0 rfl rfl rfl ?_
          refine x_cvIP 57 C [.int z2] hwX7_idOf mq_821 dX7_roleOf_54 rfl ⟨Nat.le_of_ble_eq_true rfl, Nat.le_of_ble_eq_true rfl⟩ 0 wR_at_0 rfl rfl rfl (Nat.le_of_ble_eq_true rfl) (fun z hz => tX7_idOf hz) hf (fun z7 hf => ?_)
          refine x_icmp_ne 60 C 64 dX7_roleOf_57 (by decide) rfl hf (fun hf => ?_) (fun hf => ?_)
          ·
            refine x_iconst 65 C (nI 3) dX7_roleOf_64 ki_3 rfl ?_
            exact x_iretP C HQ rfl (vp_nar_int _) dX7_roleOf_65 hf
          ·
            refine x_iconst 61 C (nI 4) dX7_roleOf_60 ki_4 rfl ?_
            refine x_goto 65 C dX7_roleOf_61 (by decide) ?_
            exact x_iretP C HQ rfl (vp_nar_int _) dX7_roleOf_65 hf
        ·
          refine x_iconst 45 C (nI 2) dX7_roleOf_44 ki_2 rfl ?_
          exact x_iretP C HQ rfl (vp_nar_int _) dX7_roleOf_45 hf
    ·
      refine x_iconst 27 C (nI 1) dX7_roleOf_26 ki_1 rfl ?_
      exact x_iretP C HQ rfl (vp_nar_int _) dX7_roleOf_27 hf
  ·
    refine x_iconst 9 C (nI 0) dX7_roleOf_8 ki_0 rfl ?_
    exact x_iretP C HQ rfl (vp_nar_int _) dX7_roleOf_9 hf
set_option maxRecDepth 20000 in
set_option maxHeartbeats 1000000 in
theorem tX7_layRoles_B2 {l : Launch} {Y : xY} {X : xE} {ad : Nat → Nat} {fr : va_W} {z0 : xM} (C : xC Y X cX7_layRoles RX7 none 2 3 71) (HQ : xRV Y X (wR Y ad fr) z0)   (k23 : xM → Option (xM)) (Hk23 : ∀ (M : xM), k23 M = some z0 → xG Y l X (wR Y ad fr) M 23 [(0, .ref (ad 0))] []) (M : xM) (v1 : Int32) (b2 : xM → Int32 → Option (xM)) (Hb2 : ∀ (M : xM) (v1 : Int32), b2 M v1 = some z0 → xG Y l X (wR Y ad fr) M 2 [(0, .ref (ad 0)), (1, .int v1)] []) (hf : fX7_layRoles_B2 k23 M v1 b2 = some z0) : xG Y l X (wR Y ad fr) M 2 [(0, .ref (ad 0)), (1, .int v1)] [] := by
  unfold fX7_layRoles_B2 at hf
  refine x_ilN 3 C dX7_layRoles_2 1 rfl rfl rfl ?_
  refine x_alN 4 C dX7_layRoles_3 0 rfl rfl rfl ?_
  refine xgX7_0 7 C mq_668 dX7_layRoles_4 rfl ?_
  refine x_iconst 8 C (nI 0) dX7_layRoles_7 ki_0 rfl ?_
  refine xrR_1 9 C dX7_layRoles_8 rfl hf (fun x1 hf => ?_)
  refine x_icmp_ge 12 C 23 dX7_layRoles_9 (by decide) rfl hf (fun hf => ?_) (fun hf => ?_)
  ·
    refine x_sub [0] rfl ?_
    exact Hk23 _ hf
  ·
    refine x_alN 13 C dX7_layRoles_12 0 rfl rfl rfl ?_
    refine x_ilN 14 C dX7_layRoles_13 1 rfl rfl rfl ?_
    refine x_cvVM 17 C [.int v1] hwX7_layRoot mq_809 dX7_layRoles_14 rfl ⟨Nat.le_of_ble_eq_true rfl, Nat.le_of_ble_eq_true rfl⟩ 0 wR_at_0 rfl rfl rfl (Nat.le_of_ble_eq_true rfl) (fun z hz => tX7_layRoot hz) hf (fun z2 hf => ?_)
    refine x_iinc 20 C (v1 + (nI 1)) (lv2 := [(1, .int (v1 + (nI 1))), (0, .ref (ad 0))]) dX7_layRoles_17 1 rfl rfl rfl (Nat.le_of_ble_eq_true rfl) rfl ?_
    refine x_goto 2 C dX7_layRoles_20 (by decide) ?_
    refine x_sub [1, 0] rfl ?_
    exact Hb2 _ _ hf
set_option maxRecDepth 20000 in
set_option maxHeartbeats 1000000 in
theorem tX7_layRoles_L2 {l : Launch} {Y : xY} {X : xE} {ad : Nat → Nat} {fr : va_W} {z0 : xM} (C : xC Y X cX7_layRoles RX7 none 2 3 71) (HQ : xRV Y X (wR Y ad fr) z0)   (k23 : xM → Option (xM)) (Hk23 : ∀ (M : xM), k23 M = some z0 → xG Y l X (wR Y ad fr) M 23 [(0, .ref (ad 0))] []) : ∀ (n : Nat) (M : xM) (v1 : Int32), fX7_layRoles_L2 k23 n M v1 = some z0 → xG Y l X (wR Y ad fr) M 2 [(0, .ref (ad 0)), (1, .int v1)] [] := by
  intro n
  induction n with
  | zero =>
    intro M v1 hf
    cases hf
  | succ n ih =>
    intro M v1 hf
    exact tX7_layRoles_B2 C HQ   _ Hk23 M v1 _ (fun M v1 hf => ih M v1 hf) hf
set_option maxRecDepth 20000 in
set_option maxHeartbeats 1000000 in
theorem tX7_layRoles_B25 {l : Launch} {Y : xY} {X : xE} {ad : Nat → Nat} {fr : va_W} {z0 : xM} (C : xC Y X cX7_layRoles RX7 none 2 3 71) (HQ : xRV Y X (wR Y ad fr) z0)   (k50 : xM → Option (xM)) (Hk50 : ∀ (M : xM), k50 M = some z0 → xG Y l X (wR Y ad fr) M 50 [] []) (M : xM) (v1 : Int32) (b25 : xM → Int32 → Option (xM)) (Hb25 : ∀ (M : xM) (v1 : Int32), b25 M v1 = some z0 → xG Y l X (wR Y ad fr) M 25 [(0, .ref (ad 0)), (1, .int v1)] []) (hf : fX7_layRoles_B25 k50 M v1 b25 = some z0) : xG Y l X (wR Y ad fr) M 25 [(0, .ref (ad 0)), (1, .int v1)] [] := by
  unfold fX7_layRoles_B25 at hf
  refine x_ilN 26 C dX7_layRoles_25 1 rfl rfl rfl ?_
  refine x_alN 27 C dX7_layRoles_26 0 rfl rfl rfl ?_
  refine x_cvIP 30 C [] hwX7_ports mq_741 dX7_layRoles_27 rfl ⟨Nat.le_of_ble_eq_true rfl, Nat.le_of_ble_eq_true rfl⟩ 0 wR_at_0 rfl rfl rfl (Nat.le_of_ble_eq_true rfl) (fun z hz => tX7_ports hz) hf (fun z4 hf => ?_)
  refine x_icmp_ge 33 C 50 dX7_layRoles_30 (by decide) rfl hf (fun hf => ?_) (fun hf => ?_)
  ·
    refine x_sub [] rfl ?_
    exact Hk50 _ hf
  ·
    refine x_alN 34 C dX7_layRoles_33 0 rfl rfl rfl ?_
    refine xgX7_7 37 C mq_675 dX7_layRoles_34 rfl ?_
    refine x_ilN 38 C dX7_layRoles_37 1 rfl rfl rfl ?_
    refine x_alN 39 C dX7_layRoles_38 0 rfl rfl rfl ?_
    refine x_ilN 40 C dX7_layRoles_39 1 rfl rfl rfl ?_
    refine x_cvIP 43 C [.int v1] hwX7_roleOf mq_829 dX7_layRoles_40 rfl ⟨Nat.le_of_ble_eq_true rfl, Nat.le_of_ble_eq_true rfl⟩ 0 wR_at_0 rfl rfl rfl (Nat.le_of_ble_eq_true rfl) (fun z hz => tX7_roleOf hz) hf (fun z5 hf => ?_)
    refine xwR_8 44 C dX7_layRoles_43 rfl hf (fun M6 hf => ?_)
    refine x_iinc 47 C (v1 + (nI 1)) (lv2 := [(1, .int (v1 + (nI 1))), (0, .ref (ad 0))]) dX7_layRoles_44 1 rfl rfl rfl (Nat.le_of_ble_eq_true rfl) rfl ?_
    refine x_goto 25 C dX7_layRoles_47 (by decide) ?_
    refine x_sub [1, 0] rfl ?_
    exact Hb25 _ _ hf
set_option maxRecDepth 20000 in
set_option maxHeartbeats 1000000 in
theorem tX7_layRoles_L25 {l : Launch} {Y : xY} {X : xE} {ad : Nat → Nat} {fr : va_W} {z0 : xM} (C : xC Y X cX7_layRoles RX7 none 2 3 71) (HQ : xRV Y X (wR Y ad fr) z0)   (k50 : xM → Option (xM)) (Hk50 : ∀ (M : xM), k50 M = some z0 → xG Y l X (wR Y ad fr) M 50 [] []) : ∀ (n : Nat) (M : xM) (v1 : Int32), fX7_layRoles_L25 k50 n M v1 = some z0 → xG Y l X (wR Y ad fr) M 25 [(0, .ref (ad 0)), (1, .int v1)] [] := by
  intro n
  induction n with
  | zero =>
    intro M v1 hf
    cases hf
  | succ n ih =>
    intro M v1 hf
    exact tX7_layRoles_B25 C HQ   _ Hk50 M v1 _ (fun M v1 hf => ih M v1 hf) hf
set_option maxRecDepth 20000 in
set_option maxHeartbeats 1000000 in
theorem tX7_layRoles {l : Launch} {Y : xY} {ad : Nat → Nat} {fr : va_W} {M : xM}  {z0 : xM} (hf : fX7_layRoles M = some z0) : xcV l Y (wR Y ad fr) yX7_layRoles cX7_layRoles 2 none 3 71 [.ref (ad 0)] M z0 := by
  refine x_entryV [(0, .ref (ad 0))] pnX7 rfl (Nat.le_of_ble_eq_true rfl) rfl (fun X C HQ => ?_)
  unfold fX7_layRoles at hf
  refine x_iconst 1 C (nI 0) dX7_layRoles_0 ki_0 rfl ?_
  refine x_isN 2 C 1 (lv2 := [(1, .int (nI 0)), (0, .ref (ad 0))]) dX7_layRoles_1 rfl rfl (Nat.le_of_ble_eq_true rfl) rfl ?_
  refine x_sub [1, 0] rfl ?_
  refine tX7_layRoles_L2 C HQ  _ (fun M3 hf => ?_) 512 _ _ hf
  refine x_iconst 24 C (nI 0) dX7_layRoles_23 ki_0 rfl ?_
  refine x_isN 25 C 1 (lv2 := [(1, .int (nI 0)), (0, .ref (ad 0))]) dX7_layRoles_24 rfl rfl (Nat.le_of_ble_eq_true rfl) rfl ?_
  refine x_sub [1, 0] rfl ?_
  refine tX7_layRoles_L25 C HQ  _ (fun M7 hf => ?_) 512 _ _ hf
  exact x_vret C HQ rfl dX7_layRoles_50 hf
set_option maxRecDepth 20000 in
set_option maxHeartbeats 1000000 in
theorem tX7_sendAll_j69 {l : Launch} {Y : xY} {X : xE} {ad : Nat → Nat} {fr : va_W} {z0 : xM} (C : xC Y X cX7_sendAll RX7 none 4 1 22) (HQ : xRV Y X (wR Y ad fr) z0) (M : xM) (v1 : Int32) (v2 : Int32) (s0 : Int32) (s1 : Int32) (b2 : xM → Int32 → Option (xM)) (Hb2 : ∀ (M : xM) (v1 : Int32), b2 M v1 = some z0 → xG Y l X (wR Y ad fr) M 2 [(0, .ref (ad 0)), (1, .int v1)] []) (hf : fX7_sendAll_j69 M v1 v2 s0 s1 b2 = some z0) : xG Y l X (wR Y ad fr) M 69 [(0, .ref (ad 0)), (1, .int v1), (2, .int v2)] [.int s0, .int s1, .ref (ad 9)] := by
  unfold fX7_sendAll_j69 at hf
  refine xwR_9 70 C dX7_sendAll_69 rfl hf (fun M7 hf => ?_)
  refine x_alN 71 C dX7_sendAll_70 0 rfl rfl rfl ?_
  refine xgX7_9 74 C mq_677 dX7_sendAll_71 rfl ?_
  refine x_ilN 75 C dX7_sendAll_74 1 rfl rfl rfl ?_
  refine x_alN 76 C dX7_sendAll_75 0 rfl rfl rfl ?_
  refine xgX7_5 79 C mq_673 dX7_sendAll_76 rfl ?_
  refine x_ilN 80 C dX7_sendAll_79 2 rfl rfl rfl ?_
  refine xrR_6 81 C dX7_sendAll_80 rfl hf (fun x8 hf => ?_)
  refine xwR_10 82 C dX7_sendAll_81 rfl hf (fun M9 hf => ?_)
  refine x_alN 83 C dX7_sendAll_82 0 rfl rfl rfl ?_
  refine xgX7_10 86 C mq_678 dX7_sendAll_83 rfl ?_
  refine x_ilN 87 C dX7_sendAll_86 1 rfl rfl rfl ?_
  refine x_alN 88 C dX7_sendAll_87 0 rfl rfl rfl ?_
  refine xgX7_6 91 C mq_674 dX7_sendAll_88 rfl ?_
  refine x_ilN 92 C dX7_sendAll_91 2 rfl rfl rfl ?_
  refine xrR_7 93 C dX7_sendAll_92 rfl hf (fun x10 hf => ?_)
  refine xwR_11 94 C dX7_sendAll_93 rfl hf (fun M11 hf => ?_)
  refine x_iinc 97 C (v1 + (nI 1)) (lv2 := [(1, .int (v1 + (nI 1))), (0, .ref (ad 0)), (2, .int v2)]) dX7_sendAll_94 1 rfl rfl rfl (Nat.le_of_ble_eq_true rfl) rfl ?_
  refine x_goto 2 C dX7_sendAll_97 (by decide) ?_
  refine x_sub [1, 0] rfl ?_
  exact Hb2 _ _ hf
set_option maxRecDepth 20000 in
set_option maxHeartbeats 1000000 in
theorem tX7_sendAll_j43 {l : Launch} {Y : xY} {X : xE} {ad : Nat → Nat} {fr : va_W} {z0 : xM} (C : xC Y X cX7_sendAll RX7 none 4 1 22) (HQ : xRV Y X (wR Y ad fr) z0) (M : xM) (v1 : Int32) (v2 : Int32) (s0 : Int32) (b2 : xM → Int32 → Option (xM)) (Hb2 : ∀ (M : xM) (v1 : Int32), b2 M v1 = some z0 → xG Y l X (wR Y ad fr) M 2 [(0, .ref (ad 0)), (1, .int v1)] []) (hf : fX7_sendAll_j43 M v1 v2 s0 b2 = some z0) : xG Y l X (wR Y ad fr) M 43 [(0, .ref (ad 0)), (1, .int v1), (2, .int v2)] [.int s0] := by
  unfold fX7_sendAll_j43 at hf
  refine x_isN 44 C 3 (lv2 := [(3, .int s0), (0, .ref (ad 0)), (1, .int v1), (2, .int v2)]) dX7_sendAll_43 rfl rfl (Nat.le_of_ble_eq_true rfl) rfl ?_
  refine x_alN 45 C dX7_sendAll_44 1 rfl rfl rfl ?_
  refine xgX7_8 48 C mq_676 dX7_sendAll_45 rfl ?_
  refine x_ilN 49 C dX7_sendAll_48 2 rfl rfl rfl ?_
  refine x_alN 50 C dX7_sendAll_49 1 rfl rfl rfl ?_
  refine xgX7_7 53 C mq_675 dX7_sendAll_50 rfl ?_
  refine x_ilN 54 C dX7_sendAll_53 2 rfl rfl rfl ?_
  refine xrR_8 55 C dX7_sendAll_54 rfl hf (fun x6 hf => ?_)
  refine x_iconst 56 C (nI 2) dX7_sendAll_55 ki_2 rfl ?_
  refine x_icmp_ne 59 C 68 dX7_sendAll_56 (by decide) rfl hf (fun hf => ?_) (fun hf => ?_)
  ·
    refine x_iconst 69 C (-1) dX7_sendAll_68 ki_m1 rfl ?_
    refine x_sub [1, 2, 3] rfl ?_
    exact tX7_sendAll_j69 C HQ _ _ _ _ _ _ Hb2 hf
  ·
    refine x_ilN 60 C dX7_sendAll_59 0 rfl rfl rfl ?_
    refine x_iconst 61 C (nI 5) dX7_sendAll_60 ki_5 rfl ?_
    refine x_icmp_gt 64 C 68 dX7_sendAll_61 (by decide) rfl hf (fun hf => ?_) (fun hf => ?_)
    ·
      refine x_iconst 69 C (-1) dX7_sendAll_68 ki_m1 rfl ?_
      refine x_sub [1, 2, 3] rfl ?_
      exact tX7_sendAll_j69 C HQ _ _ _ _ _ _ Hb2 hf
    ·
      refine x_ilN 65 C dX7_sendAll_64 0 rfl rfl rfl ?_
      refine x_goto 69 C dX7_sendAll_65 (by decide) ?_
      refine x_sub [1, 2, 3] rfl ?_
      exact tX7_sendAll_j69 C HQ _ _ _ _ _ _ Hb2 hf
set_option maxRecDepth 20000 in
set_option maxHeartbeats 1000000 in
theorem tX7_sendAll_B2 {l : Launch} {Y : xY} {X : xE} {ad : Nat → Nat} {fr : va_W} {z0 : xM} (C : xC Y X cX7_sendAll RX7 none 4 1 22) (HQ : xRV Y X (wR Y ad fr) z0)   (k100 : xM → Option (xM)) (Hk100 : ∀ (M : xM), k100 M = some z0 → xG Y l X (wR Y ad fr) M 100 [] []) (M : xM) (v1 : Int32) (b2 : xM → Int32 → Option (xM)) (Hb2 : ∀ (M : xM) (v1 : Int32), b2 M v1 = some z0 → xG Y l X (wR Y ad fr) M 2 [(0, .ref (ad 0)), (1, .int v1)] []) (hf : fX7_sendAll_B2 k100 M v1 b2 = some z0) : xG Y l X (wR Y ad fr) M 2 [(0, .ref (ad 0)), (1, .int v1)] [] := by
  unfold fX7_sendAll_B2 at hf
  refine x_ilN 3 C dX7_sendAll_2 1 rfl rfl rfl ?_
  refine x_alN 4 C dX7_sendAll_3 0 rfl rfl rfl ?_
  refine x_cvIP 7 C [] hwX7_ports mq_741 dX7_sendAll_4 rfl ⟨Nat.le_of_ble_eq_true rfl, Nat.le_of_ble_eq_true rfl⟩ 0 wR_at_0 rfl rfl rfl (Nat.le_of_ble_eq_true rfl) (fun z hz => tX7_ports hz) hf (fun z1 hf => ?_)
  refine x_icmp_ge 10 C 100 dX7_sendAll_7 (by decide) rfl hf (fun hf => ?_) (fun hf => ?_)
  ·
    refine x_sub [] rfl ?_
    exact Hk100 _ hf
  ·
    refine x_alN 11 C dX7_sendAll_10 0 rfl rfl rfl ?_
    refine x_ilN 12 C dX7_sendAll_11 1 rfl rfl rfl ?_
    refine x_cvIP 15 C [.int v1] hwX7_bridgeOf mq_749 dX7_sendAll_12 rfl ⟨Nat.le_of_ble_eq_true rfl, Nat.le_of_ble_eq_true rfl⟩ 0 wR_at_0 rfl rfl rfl (Nat.le_of_ble_eq_true rfl) (fun z hz => tX7_bridgeOf hz) hf (fun z2 hf => ?_)
    refine x_isN 16 C 2 (lv2 := [(2, .int z2), (0, .ref (ad 0)), (1, .int v1)]) dX7_sendAll_15 rfl rfl (Nat.le_of_ble_eq_true rfl) rfl ?_
    refine x_alN 17 C dX7_sendAll_16 1 rfl rfl rfl ?_
    refine xgX7_4 20 C mq_672 dX7_sendAll_17 rfl ?_
    refine x_ilN 21 C dX7_sendAll_20 0 rfl rfl rfl ?_
    refine xrR_5 22 C dX7_sendAll_21 rfl hf (fun x3 hf => ?_)
    refine x_if_ge 25 C 29 dX7_sendAll_22 (by decide) rfl hf (fun hf => ?_) (fun hf => ?_)
    ·
      refine x_bipush 31 C (nI 7) dX7_sendAll_29 kb_7 rfl ?_
      refine x_alN 32 C dX7_sendAll_31 1 rfl rfl rfl ?_
      refine x_alN 33 C dX7_sendAll_32 1 rfl rfl rfl ?_
      refine xgX7_4 36 C mq_672 dX7_sendAll_33 rfl ?_
      refine x_ilN 37 C dX7_sendAll_36 0 rfl rfl rfl ?_
      refine xrR_5 38 C dX7_sendAll_37 rfl hf (fun x4 hf => ?_)
      refine x_iconst 39 C (nI 4) dX7_sendAll_38 ki_4 rfl ?_
      refine x_cvIP 42 C [.int x4, .int (nI 4)] hwX7_message mq_817 dX7_sendAll_39 rfl ⟨Nat.le_of_ble_eq_true rfl, Nat.le_of_ble_eq_true rfl⟩ 0 wR_at_0 rfl rfl rfl (Nat.le_of_ble_eq_true rfl) (fun z hz => tX7_message hz) hf (fun z5 hf => ?_)
      refine x_isub 43 C dX7_sendAll_42 rfl ?_
      refine x_sub [1, 2, 0] rfl ?_
      exact tX7_sendAll_j43 C HQ _ _ _ _ _ Hb2 hf
    ·
      refine x_iconst 26 C (nI 0) dX7_sendAll_25 ki_0 rfl ?_
      refine x_goto 43 C dX7_sendAll_26 (by decide) ?_
      refine x_sub [1, 2, 0] rfl ?_
      exact tX7_sendAll_j43 C HQ _ _ _ _ _ Hb2 hf
set_option maxRecDepth 20000 in
set_option maxHeartbeats 1000000 in
theorem tX7_sendAll_L2 {l : Launch} {Y : xY} {X : xE} {ad : Nat → Nat} {fr : va_W} {z0 : xM} (C : xC Y X cX7_sendAll RX7 none 4 1 22) (HQ : xRV Y X (wR Y ad fr) z0)   (k100 : xM → Option (xM)) (Hk100 : ∀ (M : xM), k100 M = some z0 → xG Y l X (wR Y ad fr) M 100 [] []) : ∀ (n : Nat) (M : xM) (v1 : Int32), fX7_sendAll_L2 k100 n M v1 = some z0 → xG Y l X (wR Y ad fr) M 2 [(0, .ref (ad 0)), (1, .int v1)] [] := by
  intro n
  induction n with
  | zero =>
    intro M v1 hf
    cases hf
  | succ n ih =>
    intro M v1 hf
    exact tX7_sendAll_B2 C HQ   _ Hk100 M v1 _ (fun M v1 hf => ih M v1 hf) hf
set_option maxRecDepth 20000 in
set_option maxHeartbeats 1000000 in
theorem tX7_sendAll {l : Launch} {Y : xY} {ad : Nat → Nat} {fr : va_W} {M : xM}  {z0 : xM} (hf : fX7_sendAll M = some z0) : xcV l Y (wR Y ad fr) yX7_sendAll cX7_sendAll 4 none 1 22 [.ref (ad 0)] M z0 := by
  refine x_entryV [(0, .ref (ad 0))] pnX7 rfl (Nat.le_of_ble_eq_true rfl) rfl (fun X C HQ => ?_)
  unfold fX7_sendAll at hf
  refine x_iconst 1 C (nI 0) dX7_sendAll_0 ki_0 rfl ?_
  refine x_isN 2 C 1 (lv2 := [(1, .int (nI 0)), (0, .ref (ad 0))]) dX7_sendAll_1 rfl rfl (Nat.le_of_ble_eq_true rfl) rfl ?_
  refine x_sub [1, 0] rfl ?_
  refine tX7_sendAll_L2 C HQ  _ (fun M12 hf => ?_) 512 _ _ hf
  exact x_vret C HQ rfl dX7_sendAll_100 hf
set_option maxRecDepth 20000 in
set_option maxHeartbeats 1000000 in
theorem tX7_isBetterSent {l : Launch} {Y : xY} {ad : Nat → Nat} {fr : va_W} {M : xM} {p1 : Int32} {p2 : Int32} {z0 : Int32} (hf : fX7_isBetterSent M p1 p2 = some z0) : xcI l Y (wR Y ad fr) yX7_isBetterSent cX7_isBetterSent 3 (some .boolean) 1 27 [.ref (ad 0), .int p1, .int p2] M z0 M := by
  refine x_entryI [(0, .ref (ad 0)), (1, .int p1), (2, .int p2)] pnX7 rfl (Nat.le_of_ble_eq_true rfl) rfl (fun X C HQ => ?_)
  unfold fX7_isBetterSent at hf
  refine x_alN 1 C dX7_isBetterSent_0 0 rfl rfl rfl ?_
  refine xgX7_9 4 C mq_677 dX7_isBetterSent_1 rfl ?_
  refine x_ilN 5 C dX7_isBetterSent_4 1 rfl rfl rfl ?_
  refine xrR_10 6 C dX7_isBetterSent_5 rfl hf (fun x1 hf => ?_)
  refine x_alN 7 C dX7_isBetterSent_6 0 rfl rfl rfl ?_
  refine xgX7_10 10 C mq_678 dX7_isBetterSent_7 rfl ?_
  refine x_ilN 11 C dX7_isBetterSent_10 1 rfl rfl rfl ?_
  refine xrR_11 12 C dX7_isBetterSent_11 rfl hf (fun x2 hf => ?_)
  refine x_alN 13 C dX7_isBetterSent_12 0 rfl rfl rfl ?_
  refine x_alN 14 C dX7_isBetterSent_13 0 rfl rfl rfl ?_
  refine x_ilN 15 C dX7_isBetterSent_14 1 rfl rfl rfl ?_
  refine x_cvIP 18 C [.int p1] hwX7_bridgeOf mq_749 dX7_isBetterSent_15 rfl ⟨Nat.le_of_ble_eq_true rfl, Nat.le_of_ble_eq_true rfl⟩ 0 wR_at_0 rfl rfl rfl (Nat.le_of_ble_eq_true rfl) (fun z hz => tX7_bridgeOf hz) hf (fun z3 hf => ?_)
  refine x_cvIP 21 C [.int z3] hwX7_idOf mq_821 dX7_isBetterSent_18 rfl ⟨Nat.le_of_ble_eq_true rfl, Nat.le_of_ble_eq_true rfl⟩ 0 wR_at_0 rfl rfl rfl (Nat.le_of_ble_eq_true rfl) (fun z hz => tX7_idOf hz) hf (fun z4 hf => ?_)
  refine x_ilN 22 C dX7_isBetterSent_21 1 rfl rfl rfl ?_
  refine x_alN 23 C dX7_isBetterSent_22 0 rfl rfl rfl ?_
  refine xgX7_9 26 C mq_677 dX7_isBetterSent_23 rfl ?_
  refine x_ilN 27 C dX7_isBetterSent_26 2 rfl rfl rfl ?_
  refine xrR_10 28 C dX7_isBetterSent_27 rfl hf (fun x5 hf => ?_)
  refine x_alN 29 C dX7_isBetterSent_28 0 rfl rfl rfl ?_
  refine xgX7_10 32 C mq_678 dX7_isBetterSent_29 rfl ?_
  refine x_ilN 33 C dX7_isBetterSent_32 2 rfl rfl rfl ?_
  refine xrR_11 34 C dX7_isBetterSent_33 rfl hf (fun x6 hf => ?_)
  refine x_alN 35 C dX7_isBetterSent_34 0 rfl rfl rfl ?_
  refine x_alN 36 C dX7_isBetterSent_35 0 rfl rfl rfl ?_
  refine x_ilN 37 C dX7_isBetterSent_36 2 rfl rfl rfl ?_
  refine x_cvIP 40 C [.int p2] hwX7_bridgeOf mq_749 dX7_isBetterSent_37 rfl ⟨Nat.le_of_ble_eq_true rfl, Nat.le_of_ble_eq_true rfl⟩ 0 wR_at_0 rfl rfl rfl (Nat.le_of_ble_eq_true rfl) (fun z hz => tX7_bridgeOf hz) hf (fun z7 hf => ?_)
  refine x_cvIP 43 C [.int z7] hwX7_idOf mq_821 dX7_isBetterSent_40 rfl ⟨Nat.le_of_ble_eq_true rfl, Nat.le_of_ble_eq_true rfl⟩ 0 wR_at_0 rfl rfl rfl (Nat.le_of_ble_eq_true rfl) (fun z hz => tX7_idOf hz) hf (fun z8 hf => ?_)
  refine x_ilN 44 C dX7_isBetterSent_43 2 rfl rfl rfl ?_
  refine x_csIP 47 C [.int x1, .int x2, .int z4, .int p1, .int x5, .int x6, .int z8, .int p2] hwX7_isBetter mq_837 dX7_isBetterSent_44 rfl ⟨Nat.le_of_ble_eq_true rfl, Nat.le_of_ble_eq_true rfl⟩ rfl rfl (Nat.le_of_ble_eq_true rfl) (fun z hz => tX7_isBetter hz) hf (fun z9 hf => ?_)
  obtain ⟨hn, hf⟩ := x_nz hf
  exact x_iretP C HQ rfl hn dX7_isBetterSent_47 hf
set_option maxRecDepth 20000 in
set_option maxHeartbeats 1000000 in
theorem tX7_heardBy_j78 {l : Launch} {Y : xY} {X : xE} {ad : Nat → Nat} {fr : va_W} {M0 : xM} {z0 : Int32} (C : xC Y X cX7_heardBy RX7 (some .int) 5 2 49) (HQ : xRI Y X (wR Y ad fr) z0 M0) (v1 : Int32) (v3 : Int32) (s0 : Int32) (b5 : Int32 → Int32 → Option (Int32)) (Hb5 : ∀ (v2 : Int32) (v3 : Int32), b5 v2 v3 = some z0 → xG Y l X (wR Y ad fr) M0 5 [(0, .ref (ad 0)), (1, .int v1), (2, .int v2), (3, .int v3)] []) (hf : fX7_heardBy_j78 M0 v1 v3 s0 b5 = some z0) : xG Y l X (wR Y ad fr) M0 78 [(0, .ref (ad 0)), (1, .int v1), (3, .int v3)] [.int s0] := by
  unfold fX7_heardBy_j78 at hf
  refine x_isN 79 C 2 (lv2 := [(2, .int s0), (0, .ref (ad 0)), (1, .int v1), (3, .int v3)]) dX7_heardBy_78 rfl rfl (Nat.le_of_ble_eq_true rfl) rfl ?_
  refine x_iinc 82 C (v3 + (nI 1)) (lv2 := [(3, .int (v3 + (nI 1))), (2, .int s0), (0, .ref (ad 0)), (1, .int v1)]) dX7_heardBy_79 3 rfl rfl rfl (Nat.le_of_ble_eq_true rfl) rfl ?_
  refine x_goto 5 C dX7_heardBy_82 (by decide) ?_
  refine x_sub [2, 3, 1, 0] rfl ?_
  exact Hb5 _ _ hf
set_option maxRecDepth 20000 in
set_option maxHeartbeats 1000000 in
theorem tX7_heardBy_j53 {l : Launch} {Y : xY} {X : xE} {ad : Nat → Nat} {fr : va_W} {M0 : xM} {z0 : Int32} (C : xC Y X cX7_heardBy RX7 (some .int) 5 2 49) (HQ : xRI Y X (wR Y ad fr) z0 M0) (v1 : Int32) (v2 : Int32) (v3 : Int32) (s0 : Int32) (b5 : Int32 → Int32 → Option (Int32)) (Hb5 : ∀ (v2 : Int32) (v3 : Int32), b5 v2 v3 = some z0 → xG Y l X (wR Y ad fr) M0 5 [(0, .ref (ad 0)), (1, .int v1), (2, .int v2), (3, .int v3)] []) (hf : fX7_heardBy_j53 M0 v1 v2 v3 s0 b5 = some z0) : xG Y l X (wR Y ad fr) M0 53 [(0, .ref (ad 0)), (1, .int v1), (2, .int v2), (3, .int v3)] [.int s0] := by
  unfold fX7_heardBy_j53 at hf
  refine x_is 55 C 4 (lv2 := [(4, .int s0), (0, .ref (ad 0)), (1, .int v1), (2, .int v2), (3, .int v3)]) dX7_heardBy_53 rfl (Nat.le_of_ble_eq_true rfl) rfl ?_
  refine x_il 57 C dX7_heardBy_55 0 rfl rfl ?_
  refine x_if_eq 60 C 77 dX7_heardBy_57 (by decide) rfl hf (fun hf => ?_) (fun hf => ?_)
  ·
    refine x_ilN 78 C dX7_heardBy_77 3 rfl rfl rfl ?_
    refine x_sub [1, 2, 4] rfl ?_
    exact tX7_heardBy_j78 C HQ  _ _ _ _ Hb5 hf
  ·
    refine x_ilN 61 C dX7_heardBy_60 3 rfl rfl rfl ?_
    refine x_if_lt 64 C 73 dX7_heardBy_61 (by decide) rfl hf (fun hf => ?_) (fun hf => ?_)
    ·
      refine x_ilN 74 C dX7_heardBy_73 4 rfl rfl rfl ?_
      refine x_goto 78 C dX7_heardBy_74 (by decide) ?_
      refine x_sub [1, 2, 4] rfl ?_
      exact tX7_heardBy_j78 C HQ  _ _ _ _ Hb5 hf
    ·
      refine x_alN 65 C dX7_heardBy_64 1 rfl rfl rfl ?_
      refine x_ilN 66 C dX7_heardBy_65 4 rfl rfl rfl ?_
      refine x_ilN 67 C dX7_heardBy_66 3 rfl rfl rfl ?_
      refine x_cvIP 70 C [.int v3, .int v2] hwX7_isBetterSent mq_852 dX7_heardBy_67 rfl ⟨Nat.le_of_ble_eq_true rfl, Nat.le_of_ble_eq_true rfl⟩ 0 wR_at_0 rfl rfl rfl (Nat.le_of_ble_eq_true rfl) (fun z hz => tX7_isBetterSent hz) hf (fun z2 hf => ?_)
      refine x_if_eq 73 C 77 dX7_heardBy_70 (by decide) rfl hf (fun hf => ?_) (fun hf => ?_)
      ·
        refine x_ilN 78 C dX7_heardBy_77 3 rfl rfl rfl ?_
        refine x_sub [1, 2, 4] rfl ?_
        exact tX7_heardBy_j78 C HQ  _ _ _ _ Hb5 hf
      ·
        refine x_ilN 74 C dX7_heardBy_73 4 rfl rfl rfl ?_
        refine x_goto 78 C dX7_heardBy_74 (by decide) ?_
        refine x_sub [1, 2, 4] rfl ?_
        exact tX7_heardBy_j78 C HQ  _ _ _ _ Hb5 hf
set_option maxRecDepth 20000 in
set_option maxHeartbeats 1000000 in
theorem tX7_heardBy_B5 {l : Launch} {Y : xY} {X : xE} {ad : Nat → Nat} {fr : va_W} {M0 : xM} {z0 : Int32} (C : xC Y X cX7_heardBy RX7 (some .int) 5 2 49) (HQ : xRI Y X (wR Y ad fr) z0 M0)  (v1 : Int32) (k85 : Int32 → Option (Int32)) (Hk85 : ∀ (v2 : Int32), k85 v2 = some z0 → xG Y l X (wR Y ad fr) M0 85 [(2, .int v2)] []) (v2 : Int32) (v3 : Int32) (b5 : Int32 → Int32 → Option (Int32)) (Hb5 : ∀ (v2 : Int32) (v3 : Int32), b5 v2 v3 = some z0 → xG Y l X (wR Y ad fr) M0 5 [(0, .ref (ad 0)), (1, .int v1), (2, .int v2), (3, .int v3)] []) (hf : fX7_heardBy_B5 M0 v1 k85 v2 v3 b5 = some z0) : xG Y l X (wR Y ad fr) M0 5 [(0, .ref (ad 0)), (1, .int v1), (2, .int v2), (3, .int v3)] [] := by
  unfold fX7_heardBy_B5 at hf
  refine x_ilN 6 C dX7_heardBy_5 3 rfl rfl rfl ?_
  refine x_alN 7 C dX7_heardBy_6 0 rfl rfl rfl ?_
  refine x_cvIP 10 C [] hwX7_ports mq_741 dX7_heardBy_7 rfl ⟨Nat.le_of_ble_eq_true rfl, Nat.le_of_ble_eq_true rfl⟩ 0 wR_at_0 rfl rfl rfl (Nat.le_of_ble_eq_true rfl) (fun z hz => tX7_ports hz) hf (fun z1 hf => ?_)
  refine x_icmp_ge 13 C 85 dX7_heardBy_10 (by decide) rfl hf (fun hf => ?_) (fun hf => ?_)
  ·
    refine x_sub [2] rfl ?_
    exact Hk85 _ hf
  ·
    refine x_ilN 14 C dX7_heardBy_13 3 rfl rfl rfl ?_
    refine x_ilN 15 C dX7_heardBy_14 1 rfl rfl rfl ?_
    refine x_icmp_eq 18 C 52 dX7_heardBy_15 (by decide) rfl hf (fun hf => ?_) (fun hf => ?_)
    ·
      refine x_iconst 53 C (nI 0) dX7_heardBy_52 ki_0 rfl ?_
      exact tX7_heardBy_j53 C HQ  _ _ _ _ _ Hb5 hf
    ·
      refine x_alN 19 C dX7_heardBy_18 0 rfl rfl rfl ?_
      refine xgX7_8 22 C mq_676 dX7_heardBy_19 rfl ?_
      refine x_ilN 23 C dX7_heardBy_22 3 rfl rfl rfl ?_
      refine xrR_9 24 C dX7_heardBy_23 rfl hf (fun x3 hf => ?_)
      refine x_if_lt 27 C 52 dX7_heardBy_24 (by decide) rfl hf (fun hf => ?_) (fun hf => ?_)
      ·
        refine x_iconst 53 C (nI 0) dX7_heardBy_52 ki_0 rfl ?_
        exact tX7_heardBy_j53 C HQ  _ _ _ _ _ Hb5 hf
      ·
        refine x_alN 28 C dX7_heardBy_27 0 rfl rfl rfl ?_
        refine xgX7_0 31 C mq_668 dX7_heardBy_28 rfl ?_
        refine x_bipush 33 C (nI 45) dX7_heardBy_31 kb_45 rfl ?_
        refine x_ilN 34 C dX7_heardBy_33 3 rfl rfl rfl ?_
        refine x_iadd 35 C dX7_heardBy_34 rfl ?_
        refine xrR_1 36 C dX7_heardBy_35 rfl hf (fun x4 hf => ?_)
        refine x_alN 37 C dX7_heardBy_36 0 rfl rfl rfl ?_
        refine xgX7_0 40 C mq_668 dX7_heardBy_37 rfl ?_
        refine x_bipush 42 C (nI 45) dX7_heardBy_40 kb_45 rfl ?_
        refine x_ilN 43 C dX7_heardBy_42 1 rfl rfl rfl ?_
        refine x_iadd 44 C dX7_heardBy_43 rfl ?_
        refine xrR_1 45 C dX7_heardBy_44 rfl hf (fun x5 hf => ?_)
        refine x_icmp_ne 48 C 52 dX7_heardBy_45 (by decide) rfl hf (fun hf => ?_) (fun hf => ?_)
        ·
          refine x_iconst 53 C (nI 0) dX7_heardBy_52 ki_0 rfl ?_
          exact tX7_heardBy_j53 C HQ  _ _ _ _ _ Hb5 hf
        ·
          refine x_iconst 49 C (nI 1) dX7_heardBy_48 ki_1 rfl ?_
          refine x_goto 53 C dX7_heardBy_49 (by decide) ?_
          exact tX7_heardBy_j53 C HQ  _ _ _ _ _ Hb5 hf
set_option maxRecDepth 20000 in
set_option maxHeartbeats 1000000 in
theorem tX7_heardBy_L5 {l : Launch} {Y : xY} {X : xE} {ad : Nat → Nat} {fr : va_W} {M0 : xM} {z0 : Int32} (C : xC Y X cX7_heardBy RX7 (some .int) 5 2 49) (HQ : xRI Y X (wR Y ad fr) z0 M0)  (v1 : Int32) (k85 : Int32 → Option (Int32)) (Hk85 : ∀ (v2 : Int32), k85 v2 = some z0 → xG Y l X (wR Y ad fr) M0 85 [(2, .int v2)] []) : ∀ (n : Nat) (v2 : Int32) (v3 : Int32), fX7_heardBy_L5 M0 v1 k85 n v2 v3 = some z0 → xG Y l X (wR Y ad fr) M0 5 [(0, .ref (ad 0)), (1, .int v1), (2, .int v2), (3, .int v3)] [] := by
  intro n
  induction n with
  | zero =>
    intro v2 v3 hf
    cases hf
  | succ n ih =>
    intro v2 v3 hf
    exact tX7_heardBy_B5 C HQ  v1 _ Hk85 v2 v3 _ (fun v2 v3 hf => ih v2 v3 hf) hf
set_option maxRecDepth 20000 in
set_option maxHeartbeats 1000000 in
theorem tX7_heardBy {l : Launch} {Y : xY} {ad : Nat → Nat} {fr : va_W} {M : xM} {p1 : Int32} {z0 : Int32} (hf : fX7_heardBy M p1 = some z0) : xcI l Y (wR Y ad fr) yX7_heardBy cX7_heardBy 5 (some .int) 2 49 [.ref (ad 0), .int p1] M z0 M := by
  refine x_entryI [(0, .ref (ad 0)), (1, .int p1)] pnX7 rfl (Nat.le_of_ble_eq_true rfl) rfl (fun X C HQ => ?_)
  unfold fX7_heardBy at hf
  refine x_bipush 2 C (-9) dX7_heardBy_0 kb_m9 rfl ?_
  refine x_isN 3 C 2 (lv2 := [(2, .int (-9)), (0, .ref (ad 0)), (1, .int p1)]) dX7_heardBy_2 rfl rfl (Nat.le_of_ble_eq_true rfl) rfl ?_
  refine x_iconst 4 C (nI 0) dX7_heardBy_3 ki_0 rfl ?_
  refine x_isN 5 C 3 (lv2 := [(3, .int (nI 0)), (2, .int (-9)), (0, .ref (ad 0)), (1, .int p1)]) dX7_heardBy_4 rfl rfl (Nat.le_of_ble_eq_true rfl) rfl ?_
  refine x_sub [2, 3, 1, 0] rfl ?_
  refine tX7_heardBy_L5 C HQ _ _ (fun v6 hf => ?_) 512 _ _ hf
  refine x_ilN 86 C dX7_heardBy_85 0 rfl rfl rfl ?_
  exact x_iretP C HQ rfl (vp_nar_int _) dX7_heardBy_86 hf
set_option maxRecDepth 20000 in
set_option maxHeartbeats 1000000 in
theorem tX7_hear_j148 {l : Launch} {Y : xY} {X : xE} {ad : Nat → Nat} {fr : va_W} {z0 : xM} (C : xC Y X cX7_hear RX7 none 7 3 73) (HQ : xRV Y X (wR Y ad fr) z0) (M : xM) (v1 : Int32) (v2 : Int32) (v3 : Int32) (v4 : Int32)  (hf : fX7_hear_j148 M v1 v2 v3 v4 = some z0) : xG Y l X (wR Y ad fr) M 148 [(0, .ref (ad 0)), (1, .int v1), (2, .int v2), (3, .int v3), (4, .int v4)] [] := by
  unfold fX7_hear_j148 at hf
  refine x_sipush 151 C (nI 165) dX7_hear_148 ks_165 rfl ?_
  refine x_iconst 152 C (nI 5) dX7_hear_151 ki_5 rfl ?_
  refine x_ilN 153 C dX7_hear_152 1 rfl rfl rfl ?_
  refine x_imul 154 C dX7_hear_153 rfl ?_
  refine x_iadd 155 C dX7_hear_154 rfl ?_
  refine x_is 157 C 5 (lv2 := [(5, .int ((nI 165) + ((nI 5) * v1))), (0, .ref (ad 0)), (1, .int v1), (2, .int v2), (3, .int v3), (4, .int v4)]) dX7_hear_155 rfl (Nat.le_of_ble_eq_true rfl) rfl ?_
  refine x_il 159 C dX7_hear_157 5 rfl rfl ?_
  refine x_if_eq 162 C 233 dX7_hear_159 (by decide) rfl hf (fun hf => ?_) (fun hf => ?_)
  ·
    refine x_alN 234 C dX7_hear_233 1 rfl rfl rfl ?_
    refine x_ilN 235 C dX7_hear_234 2 rfl rfl rfl ?_
    refine x_cvIP 238 C [.int v1] hwX7_stores mq_813 dX7_hear_235 rfl ⟨Nat.le_of_ble_eq_true rfl, Nat.le_of_ble_eq_true rfl⟩ 0 wR_at_0 rfl rfl rfl (Nat.le_of_ble_eq_true rfl) (fun z hz => tX7_stores hz) hf (fun z4 hf => ?_)
    refine x_if_eq 241 C 254 dX7_hear_238 (by decide) rfl hf (fun hf => ?_) (fun hf => ?_)
    ·
      exact x_vret C HQ rfl dX7_hear_254 hf
    ·
      refine x_alN 242 C dX7_hear_241 1 rfl rfl rfl ?_
      refine xgX7_0 245 C mq_668 dX7_hear_242 rfl ?_
      refine x_il 247 C dX7_hear_245 0 rfl rfl ?_
      refine x_iconst 248 C (nI 4) dX7_hear_247 ki_4 rfl ?_
      refine x_iadd 249 C dX7_hear_248 rfl ?_
      refine x_dup2 250 C dX7_hear_249 rfl rfl rfl ?_
      refine xrR_1 251 C dX7_hear_250 rfl hf (fun x5 hf => ?_)
      refine x_iconst 252 C (nI 1) dX7_hear_251 ki_1 rfl ?_
      refine x_isub 253 C dX7_hear_252 rfl ?_
      refine xwR_1 254 C dX7_hear_253 rfl hf (fun M6 hf => ?_)
      exact x_vret C HQ rfl dX7_hear_254 hf
  ·
    refine x_alN 163 C dX7_hear_162 1 rfl rfl rfl ?_
    refine xgX7_0 166 C mq_668 dX7_hear_163 rfl ?_
    refine x_il 168 C dX7_hear_166 0 rfl rfl ?_
    refine x_iconst 169 C (nI 0) dX7_hear_168 ki_0 rfl ?_
    refine x_iadd 170 C dX7_hear_169 rfl ?_
    refine x_alN 171 C dX7_hear_170 1 rfl rfl rfl ?_
    refine xgX7_9 174 C mq_677 dX7_hear_171 rfl ?_
    refine x_ilN 175 C dX7_hear_174 3 rfl rfl rfl ?_
    refine xrR_10 176 C dX7_hear_175 rfl hf (fun x7 hf => ?_)
    refine xwR_1 177 C dX7_hear_176 rfl hf (fun M8 hf => ?_)
    refine x_alN 178 C dX7_hear_177 1 rfl rfl rfl ?_
    refine xgX7_0 181 C mq_668 dX7_hear_178 rfl ?_
    refine x_il 183 C dX7_hear_181 0 rfl rfl ?_
    refine x_iconst 184 C (nI 1) dX7_hear_183 ki_1 rfl ?_
    refine x_iadd 185 C dX7_hear_184 rfl ?_
    refine x_alN 186 C dX7_hear_185 1 rfl rfl rfl ?_
    refine xgX7_10 189 C mq_678 dX7_hear_186 rfl ?_
    refine x_ilN 190 C dX7_hear_189 3 rfl rfl rfl ?_
    refine xrR_11 191 C dX7_hear_190 rfl hf (fun x9 hf => ?_)
    refine xwR_1 192 C dX7_hear_191 rfl hf (fun M10 hf => ?_)
    refine x_alN 193 C dX7_hear_192 1 rfl rfl rfl ?_
    refine xgX7_0 196 C mq_668 dX7_hear_193 rfl ?_
    refine x_il 198 C dX7_hear_196 0 rfl rfl ?_
    refine x_iconst 199 C (nI 2) dX7_hear_198 ki_2 rfl ?_
    refine x_iadd 200 C dX7_hear_199 rfl ?_
    refine x_ilN 201 C dX7_hear_200 4 rfl rfl rfl ?_
    refine xwR_1 202 C dX7_hear_201 rfl hf (fun M11 hf => ?_)
    refine x_alN 203 C dX7_hear_202 1 rfl rfl rfl ?_
    refine xgX7_0 206 C mq_668 dX7_hear_203 rfl ?_
    refine x_il 208 C dX7_hear_206 0 rfl rfl ?_
    refine x_iconst 209 C (nI 3) dX7_hear_208 ki_3 rfl ?_
    refine x_iadd 210 C dX7_hear_209 rfl ?_
    refine x_ilN 211 C dX7_hear_210 3 rfl rfl rfl ?_
    refine xwR_1 212 C dX7_hear_211 rfl hf (fun M12 hf => ?_)
    refine x_alN 213 C dX7_hear_212 1 rfl rfl rfl ?_
    refine xgX7_0 216 C mq_668 dX7_hear_213 rfl ?_
    refine x_il 218 C dX7_hear_216 0 rfl rfl ?_
    refine x_iconst 219 C (nI 4) dX7_hear_218 ki_4 rfl ?_
    refine x_iadd 220 C dX7_hear_219 rfl ?_
    refine x_bipush 222 C (nI 6) dX7_hear_220 kb_6 rfl ?_
    refine x_alN 223 C dX7_hear_222 1 rfl rfl rfl ?_
    refine xgX7_8 226 C mq_676 dX7_hear_223 rfl ?_
    refine x_ilN 227 C dX7_hear_226 3 rfl rfl rfl ?_
    refine xrR_9 228 C dX7_hear_227 rfl hf (fun x13 hf => ?_)
    refine x_isub 229 C dX7_hear_228 rfl ?_
    refine xwR_1 230 C dX7_hear_229 rfl hf (fun M14 hf => ?_)
    refine x_goto 254 C dX7_hear_230 (by decide) ?_
    exact x_vret C HQ rfl dX7_hear_254 hf
set_option maxRecDepth 20000 in
set_option maxHeartbeats 1000000 in
theorem tX7_hear_j146 {l : Launch} {Y : xY} {X : xE} {ad : Nat → Nat} {fr : va_W} {z0 : xM} (C : xC Y X cX7_hear RX7 none 7 3 73) (HQ : xRV Y X (wR Y ad fr) z0) (M : xM) (v1 : Int32) (v2 : Int32) (v3 : Int32) (s0 : Int32)  (hf : fX7_hear_j146 M v1 v2 v3 s0 = some z0) : xG Y l X (wR Y ad fr) M 146 [(0, .ref (ad 0)), (1, .int v1), (2, .int v2), (3, .int v3)] [.int s0] := by
  unfold fX7_hear_j146 at hf
  refine x_is 148 C 4 (lv2 := [(4, .int s0), (0, .ref (ad 0)), (1, .int v1), (2, .int v2), (3, .int v3)]) dX7_hear_146 rfl (Nat.le_of_ble_eq_true rfl) rfl ?_
  refine x_sub [1, 2, 3, 4, 0] rfl ?_
  exact tX7_hear_j148 C HQ _ _ _ _ _  hf
set_option maxRecDepth 20000 in
set_option maxHeartbeats 1000000 in
theorem tX7_hear_j129 {l : Launch} {Y : xY} {X : xE} {ad : Nat → Nat} {fr : va_W} {z0 : xM} (C : xC Y X cX7_hear RX7 none 7 3 73) (HQ : xRV Y X (wR Y ad fr) z0) (M : xM) (v1 : Int32) (v2 : Int32) (v3 : Int32) (v5 : Int32) (s0 : Int32)  (hf : fX7_hear_j129 M v1 v2 v3 v5 s0 = some z0) : xG Y l X (wR Y ad fr) M 129 [(0, .ref (ad 0)), (1, .int v1), (2, .int v2), (3, .int v3), (5, .int v5)] [.int s0] := by
  unfold fX7_hear_j129 at hf
  refine x_is 131 C 6 (lv2 := [(6, .int s0), (0, .ref (ad 0)), (1, .int v1), (2, .int v2), (3, .int v3), (5, .int v5)]) dX7_hear_129 rfl (Nat.le_of_ble_eq_true rfl) rfl ?_
  refine x_il 133 C dX7_hear_131 5 rfl rfl ?_
  refine x_if_eq 136 C 141 dX7_hear_133 (by decide) rfl hf (fun hf => ?_) (fun hf => ?_)
  ·
    refine x_iconst 142 C (nI 1) dX7_hear_141 ki_1 rfl ?_
    refine x_goto 146 C dX7_hear_142 (by decide) ?_
    refine x_sub [1, 2, 3, 4] rfl ?_
    exact tX7_hear_j146 C HQ _ _ _ _ _  hf
  ·
    refine x_il 138 C dX7_hear_136 0 rfl rfl ?_
    refine x_if_eq 141 C 145 dX7_hear_138 (by decide) rfl hf (fun hf => ?_) (fun hf => ?_)
    ·
      refine x_iconst 146 C (nI 0) dX7_hear_145 ki_0 rfl ?_
      refine x_sub [1, 2, 3, 4] rfl ?_
      exact tX7_hear_j146 C HQ _ _ _ _ _  hf
    ·
      refine x_iconst 142 C (nI 1) dX7_hear_141 ki_1 rfl ?_
      refine x_goto 146 C dX7_hear_142 (by decide) ?_
      refine x_sub [1, 2, 3, 4] rfl ?_
      exact tX7_hear_j146 C HQ _ _ _ _ _  hf
set_option maxRecDepth 20000 in
set_option maxHeartbeats 1000000 in
theorem tX7_hear_j46 {l : Launch} {Y : xY} {X : xE} {ad : Nat → Nat} {fr : va_W} {z0 : xM} (C : xC Y X cX7_hear RX7 none 7 3 73) (HQ : xRV Y X (wR Y ad fr) z0) (M : xM) (v1 : Int32) (v2 : Int32) (v3 : Int32) (s0 : Int32)  (hf : fX7_hear_j46 M v1 v2 v3 s0 = some z0) : xG Y l X (wR Y ad fr) M 46 [(0, .ref (ad 0)), (1, .int v1), (2, .int v2), (3, .int v3)] [.int s0] := by
  unfold fX7_hear_j46 at hf
  refine x_is 48 C 4 (lv2 := [(4, .int s0), (0, .ref (ad 0)), (1, .int v1), (2, .int v2), (3, .int v3)]) dX7_hear_46 rfl (Nat.le_of_ble_eq_true rfl) rfl ?_
  refine x_il 50 C dX7_hear_48 0 rfl rfl ?_
  refine x_if_eq 53 C 148 dX7_hear_50 (by decide) rfl hf (fun hf => ?_) (fun hf => ?_)
  ·
    refine x_sub [1, 2, 3, 4, 0] rfl ?_
    exact tX7_hear_j148 C HQ _ _ _ _ _  hf
  ·
    refine x_alN 54 C dX7_hear_53 1 rfl rfl rfl ?_
    refine x_ilN 55 C dX7_hear_54 2 rfl rfl rfl ?_
    refine x_cvIP 58 C [.int v1] hwX7_stores mq_813 dX7_hear_55 rfl ⟨Nat.le_of_ble_eq_true rfl, Nat.le_of_ble_eq_true rfl⟩ 0 wR_at_0 rfl rfl rfl (Nat.le_of_ble_eq_true rfl) (fun z hz => tX7_stores hz) hf (fun z15 hf => ?_)
    refine x_if_eq 61 C 148 dX7_hear_58 (by decide) rfl hf (fun hf => ?_) (fun hf => ?_)
    ·
      refine x_sub [1, 2, 3, 4, 0] rfl ?_
      exact tX7_hear_j148 C HQ _ _ _ _ _  hf
    ·
      refine x_alN 62 C dX7_hear_61 1 rfl rfl rfl ?_
      refine x_ilN 63 C dX7_hear_62 2 rfl rfl rfl ?_
      refine x_iconst 64 C (nI 0) dX7_hear_63 ki_0 rfl ?_
      refine x_cvIP 67 C [.int v1, .int (nI 0)] hwX7_message mq_817 dX7_hear_64 rfl ⟨Nat.le_of_ble_eq_true rfl, Nat.le_of_ble_eq_true rfl⟩ 0 wR_at_0 rfl rfl rfl (Nat.le_of_ble_eq_true rfl) (fun z hz => tX7_message hz) hf (fun z16 hf => ?_)
      refine x_alN 68 C dX7_hear_67 1 rfl rfl rfl ?_
      refine x_ilN 69 C dX7_hear_68 2 rfl rfl rfl ?_
      refine x_iconst 70 C (nI 1) dX7_hear_69 ki_1 rfl ?_
      refine x_cvIP 73 C [.int v1, .int (nI 1)] hwX7_message mq_817 dX7_hear_70 rfl ⟨Nat.le_of_ble_eq_true rfl, Nat.le_of_ble_eq_true rfl⟩ 0 wR_at_0 rfl rfl rfl (Nat.le_of_ble_eq_true rfl) (fun z hz => tX7_message hz) hf (fun z17 hf => ?_)
      refine x_alN 74 C dX7_hear_73 1 rfl rfl rfl ?_
      refine x_ilN 75 C dX7_hear_74 2 rfl rfl rfl ?_
      refine x_iconst 76 C (nI 2) dX7_hear_75 ki_2 rfl ?_
      refine x_cvIP 79 C [.int v1, .int (nI 2)] hwX7_message mq_817 dX7_hear_76 rfl ⟨Nat.le_of_ble_eq_true rfl, Nat.le_of_ble_eq_true rfl⟩ 0 wR_at_0 rfl rfl rfl (Nat.le_of_ble_eq_true rfl) (fun z hz => tX7_message hz) hf (fun z18 hf => ?_)
      refine x_alN 80 C dX7_hear_79 1 rfl rfl rfl ?_
      refine x_ilN 81 C dX7_hear_80 2 rfl rfl rfl ?_
      refine x_iconst 82 C (nI 3) dX7_hear_81 ki_3 rfl ?_
      refine x_cvIP 85 C [.int v1, .int (nI 3)] hwX7_message mq_817 dX7_hear_82 rfl ⟨Nat.le_of_ble_eq_true rfl, Nat.le_of_ble_eq_true rfl⟩ 0 wR_at_0 rfl rfl rfl (Nat.le_of_ble_eq_true rfl) (fun z hz => tX7_message hz) hf (fun z19 hf => ?_)
      refine x_alN 86 C dX7_hear_85 1 rfl rfl rfl ?_
      refine xgX7_9 89 C mq_677 dX7_hear_86 rfl ?_
      refine x_ilN 90 C dX7_hear_89 3 rfl rfl rfl ?_
      refine xrR_10 91 C dX7_hear_90 rfl hf (fun x20 hf => ?_)
      refine x_alN 92 C dX7_hear_91 1 rfl rfl rfl ?_
      refine xgX7_10 95 C mq_678 dX7_hear_92 rfl ?_
      refine x_ilN 96 C dX7_hear_95 3 rfl rfl rfl ?_
      refine xrR_11 97 C dX7_hear_96 rfl hf (fun x21 hf => ?_)
      refine x_ilN 98 C dX7_hear_97 4 rfl rfl rfl ?_
      refine x_ilN 99 C dX7_hear_98 3 rfl rfl rfl ?_
      refine x_csIP 102 C [.int z16, .int z17, .int z18, .int z19, .int x20, .int x21, .int v3, .int v2] hwX7_isBetter mq_837 dX7_hear_99 rfl ⟨Nat.le_of_ble_eq_true rfl, Nat.le_of_ble_eq_true rfl⟩ rfl rfl (Nat.le_of_ble_eq_true rfl) (fun z hz => tX7_isBetter hz) hf (fun z22 hf => ?_)
      refine x_is 104 C 5 (lv2 := [(5, .int z22), (4, .int s0), (0, .ref (ad 0)), (1, .int v1), (2, .int v2), (3, .int v3)]) dX7_hear_102 rfl (Nat.le_of_ble_eq_true rfl) rfl ?_
      refine x_alN 105 C dX7_hear_104 2 rfl rfl rfl ?_
      refine x_ilN 106 C dX7_hear_105 3 rfl rfl rfl ?_
      refine x_iconst 107 C (nI 2) dX7_hear_106 ki_2 rfl ?_
      refine x_cvIP 110 C [.int v1, .int (nI 2)] hwX7_message mq_817 dX7_hear_107 rfl ⟨Nat.le_of_ble_eq_true rfl, Nat.le_of_ble_eq_true rfl⟩ 0 wR_at_0 rfl rfl rfl (Nat.le_of_ble_eq_true rfl) (fun z hz => tX7_message hz) hf (fun z23 hf => ?_)
      refine x_ilN 111 C dX7_hear_110 5 rfl rfl rfl ?_
      refine x_icmp_ne 114 C 128 dX7_hear_111 (by decide) rfl hf (fun hf => ?_) (fun hf => ?_)
      ·
        refine x_iconst 129 C (nI 0) dX7_hear_128 ki_0 rfl ?_
        refine x_sub [2, 3, 4, 5, 0] rfl ?_
        exact tX7_hear_j129 C HQ _ _ _ _ _ _  hf
      ·
        refine x_alN 115 C dX7_hear_114 2 rfl rfl rfl ?_
        refine x_ilN 116 C dX7_hear_115 3 rfl rfl rfl ?_
        refine x_iconst 117 C (nI 3) dX7_hear_116 ki_3 rfl ?_
        refine x_cvIP 120 C [.int v1, .int (nI 3)] hwX7_message mq_817 dX7_hear_117 rfl ⟨Nat.le_of_ble_eq_true rfl, Nat.le_of_ble_eq_true rfl⟩ 0 wR_at_0 rfl rfl rfl (Nat.le_of_ble_eq_true rfl) (fun z hz => tX7_message hz) hf (fun z24 hf => ?_)
        refine x_ilN 121 C dX7_hear_120 4 rfl rfl rfl ?_
        refine x_icmp_ne 124 C 128 dX7_hear_121 (by decide) rfl hf (fun hf => ?_) (fun hf => ?_)
        ·
          refine x_iconst 129 C (nI 0) dX7_hear_128 ki_0 rfl ?_
          refine x_sub [2, 3, 4, 5, 0] rfl ?_
          exact tX7_hear_j129 C HQ _ _ _ _ _ _  hf
        ·
          refine x_iconst 125 C (nI 1) dX7_hear_124 ki_1 rfl ?_
          refine x_goto 129 C dX7_hear_125 (by decide) ?_
          refine x_sub [2, 3, 4, 5, 0] rfl ?_
          exact tX7_hear_j129 C HQ _ _ _ _ _ _  hf
set_option maxRecDepth 20000 in
set_option maxHeartbeats 1000000 in
theorem tX7_hear_j36 {l : Launch} {Y : xY} {X : xE} {ad : Nat → Nat} {fr : va_W} {z0 : xM} (C : xC Y X cX7_hear RX7 none 7 3 73) (HQ : xRV Y X (wR Y ad fr) z0) (M : xM) (v1 : Int32) (v2 : Int32) (s0 : Int32)  (hf : fX7_hear_j36 M v1 v2 s0 = some z0) : xG Y l X (wR Y ad fr) M 36 [(0, .ref (ad 0)), (1, .int v1), (2, .int v2)] [.int s0] := by
  unfold fX7_hear_j36 at hf
  refine x_isN 37 C 3 (lv2 := [(3, .int s0), (0, .ref (ad 0)), (1, .int v1), (2, .int v2)]) dX7_hear_36 rfl rfl (Nat.le_of_ble_eq_true rfl) rfl ?_
  refine x_ilN 38 C dX7_hear_37 3 rfl rfl rfl ?_
  refine x_if_lt 41 C 45 dX7_hear_38 (by decide) rfl hf (fun hf => ?_) (fun hf => ?_)
  ·
    refine x_iconst 46 C (nI 0) dX7_hear_45 ki_0 rfl ?_
    refine x_sub [1, 2, 3, 0] rfl ?_
    exact tX7_hear_j46 C HQ _ _ _ _ _  hf
  ·
    refine x_iconst 42 C (nI 1) dX7_hear_41 ki_1 rfl ?_
    refine x_goto 46 C dX7_hear_42 (by decide) ?_
    refine x_sub [1, 2, 3, 0] rfl ?_
    exact tX7_hear_j46 C HQ _ _ _ _ _  hf
set_option maxRecDepth 20000 in
set_option maxHeartbeats 1000000 in
theorem tX7_hear_j18 {l : Launch} {Y : xY} {X : xE} {ad : Nat → Nat} {fr : va_W} {z0 : xM} (C : xC Y X cX7_hear RX7 none 7 3 73) (HQ : xRV Y X (wR Y ad fr) z0) (M : xM) (v1 : Int32) (s0 : Int32)  (hf : fX7_hear_j18 M v1 s0 = some z0) : xG Y l X (wR Y ad fr) M 18 [(0, .ref (ad 0)), (1, .int v1)] [.int s0] := by
  unfold fX7_hear_j18 at hf
  refine x_isN 19 C 2 (lv2 := [(2, .int s0), (0, .ref (ad 0)), (1, .int v1)]) dX7_hear_18 rfl rfl (Nat.le_of_ble_eq_true rfl) rfl ?_
  refine x_ilN 20 C dX7_hear_19 0 rfl rfl rfl ?_
  refine x_if_ge 23 C 27 dX7_hear_20 (by decide) rfl hf (fun hf => ?_) (fun hf => ?_)
  ·
    refine x_alN 28 C dX7_hear_27 1 rfl rfl rfl ?_
    refine x_alN 29 C dX7_hear_28 1 rfl rfl rfl ?_
    refine x_ilN 30 C dX7_hear_29 0 rfl rfl rfl ?_
    refine x_cvIP 33 C [.int s0] hwX7_bridgeOf mq_749 dX7_hear_30 rfl ⟨Nat.le_of_ble_eq_true rfl, Nat.le_of_ble_eq_true rfl⟩ 0 wR_at_0 rfl rfl rfl (Nat.le_of_ble_eq_true rfl) (fun z hz => tX7_bridgeOf hz) hf (fun z2 hf => ?_)
    refine x_cvIP 36 C [.int z2] hwX7_idOf mq_821 dX7_hear_33 rfl ⟨Nat.le_of_ble_eq_true rfl, Nat.le_of_ble_eq_true rfl⟩ 0 wR_at_0 rfl rfl rfl (Nat.le_of_ble_eq_true rfl) (fun z hz => tX7_idOf hz) hf (fun z3 hf => ?_)
    refine x_sub [1, 2, 0] rfl ?_
    exact tX7_hear_j36 C HQ _ _ _ _  hf
  ·
    refine x_iconst 24 C (nI 0) dX7_hear_23 ki_0 rfl ?_
    refine x_goto 36 C dX7_hear_24 (by decide) ?_
    refine x_sub [1, 2, 0] rfl ?_
    exact tX7_hear_j36 C HQ _ _ _ _  hf
set_option maxRecDepth 20000 in
set_option maxHeartbeats 1000000 in
theorem tX7_hear {l : Launch} {Y : xY} {ad : Nat → Nat} {fr : va_W} {M : xM} {p1 : Int32} {z0 : xM} (hf : fX7_hear M p1 = some z0) : xcV l Y (wR Y ad fr) yX7_hear cX7_hear 7 none 3 73 [.ref (ad 0), .int p1] M z0 := by
  refine x_entryV [(0, .ref (ad 0)), (1, .int p1)] pnX7 rfl (Nat.le_of_ble_eq_true rfl) rfl (fun X C HQ => ?_)
  unfold fX7_hear at hf
  refine x_alN 1 C dX7_hear_0 0 rfl rfl rfl ?_
  refine x_ilN 2 C dX7_hear_1 1 rfl rfl rfl ?_
  refine x_cvIP 5 C [.int p1] hwX7_isActive mq_745 dX7_hear_2 rfl ⟨Nat.le_of_ble_eq_true rfl, Nat.le_of_ble_eq_true rfl⟩ 0 wR_at_0 rfl rfl rfl (Nat.le_of_ble_eq_true rfl) (fun z hz => tX7_isActive hz) hf (fun z1 hf => ?_)
  refine x_if_eq 8 C 16 dX7_hear_5 (by decide) rfl hf (fun hf => ?_) (fun hf => ?_)
  ·
    refine x_bipush 18 C (-9) dX7_hear_16 kb_m9 rfl ?_
    exact tX7_hear_j18 C HQ _ _ _  hf
  ·
    refine x_alN 9 C dX7_hear_8 0 rfl rfl rfl ?_
    refine x_ilN 10 C dX7_hear_9 1 rfl rfl rfl ?_
    refine x_cvIP 13 C [.int p1] hwX7_heardBy mq_848 dX7_hear_10 rfl ⟨Nat.le_of_ble_eq_true rfl, Nat.le_of_ble_eq_true rfl⟩ 0 wR_at_0 rfl rfl rfl (Nat.le_of_ble_eq_true rfl) (fun z hz => tX7_heardBy hz) hf (fun z25 hf => ?_)
    refine x_goto 18 C dX7_hear_13 (by decide) ?_
    exact tX7_hear_j18 C HQ _ _ _  hf
set_option maxRecDepth 20000 in
set_option maxHeartbeats 1000000 in
theorem tX7_goOn_j30 {l : Launch} {Y : xY} {X : xE} {ad : Nat → Nat} {fr : va_W} {z0 : xM} (C : xC Y X cX7_goOn RX7 none 3 0 0) (HQ : xRV Y X (wR Y ad fr) z0) (M : xM) (v1 : Int32)  (hf : fX7_goOn_j30 M v1 = some z0) : xG Y l X (wR Y ad fr) M 30 [(0, .ref (ad 0)), (1, .int v1)] [] := by
  unfold fX7_goOn_j30 at hf
  refine x_alN 31 C dX7_goOn_30 0 rfl rfl rfl ?_
  refine xgX7_0 34 C mq_668 dX7_goOn_31 rfl ?_
  refine x_bipush 36 C (nI 117) dX7_goOn_34 kb_117 rfl ?_
  refine x_ilN 37 C dX7_goOn_36 1 rfl rfl rfl ?_
  refine x_iadd 38 C dX7_goOn_37 rfl ?_
  refine x_iconst 39 C (nI 1) dX7_goOn_38 ki_1 rfl ?_
  refine xwR_1 40 C dX7_goOn_39 rfl hf (fun M3 hf => ?_)
  refine x_goto 132 C dX7_goOn_40 (by decide) ?_
  exact x_vret C HQ rfl dX7_goOn_132 hf
set_option maxRecDepth 20000 in
set_option maxHeartbeats 1000000 in
theorem tX7_goOn_j82 {l : Launch} {Y : xY} {X : xE} {ad : Nat → Nat} {fr : va_W} {z0 : xM} (C : xC Y X cX7_goOn RX7 none 3 0 0) (HQ : xRV Y X (wR Y ad fr) z0) (M : xM) (v1 : Int32) (v2 : Int32)  (hf : fX7_goOn_j82 M v1 v2 = some z0) : xG Y l X (wR Y ad fr) M 82 [(0, .ref (ad 0)), (1, .int v1), (2, .int v2)] [] := by
  unfold fX7_goOn_j82 at hf
  refine x_alN 83 C dX7_goOn_82 0 rfl rfl rfl ?_
  refine xgX7_0 86 C mq_668 dX7_goOn_83 rfl ?_
  refine x_sipush 89 C (nI 141) dX7_goOn_86 ks_141 rfl ?_
  refine x_ilN 90 C dX7_goOn_89 1 rfl rfl rfl ?_
  refine x_iadd 91 C dX7_goOn_90 rfl ?_
  refine x_dup2 92 C dX7_goOn_91 rfl rfl rfl ?_
  refine xrR_1 93 C dX7_goOn_92 rfl hf (fun x5 hf => ?_)
  refine x_iconst 94 C (nI 1) dX7_goOn_93 ki_1 rfl ?_
  refine x_isub 95 C dX7_goOn_94 rfl ?_
  refine xwR_1 96 C dX7_goOn_95 rfl hf (fun M6 hf => ?_)
  refine x_alN 97 C dX7_goOn_96 0 rfl rfl rfl ?_
  refine xgX7_0 100 C mq_668 dX7_goOn_97 rfl ?_
  refine x_sipush 103 C (nI 141) dX7_goOn_100 ks_141 rfl ?_
  refine x_ilN 104 C dX7_goOn_103 1 rfl rfl rfl ?_
  refine x_iadd 105 C dX7_goOn_104 rfl ?_
  refine xrR_1 106 C dX7_goOn_105 rfl hf (fun x7 hf => ?_)
  refine x_if_ne 109 C 132 dX7_goOn_106 (by decide) rfl hf (fun hf => ?_) (fun hf => ?_)
  ·
    exact x_vret C HQ rfl dX7_goOn_132 hf
  ·
    refine x_alN 110 C dX7_goOn_109 0 rfl rfl rfl ?_
    refine xgX7_0 113 C mq_668 dX7_goOn_110 rfl ?_
    refine x_bipush 115 C (nI 117) dX7_goOn_113 kb_117 rfl ?_
    refine x_ilN 116 C dX7_goOn_115 1 rfl rfl rfl ?_
    refine x_iadd 117 C dX7_goOn_116 rfl ?_
    refine x_ilN 118 C dX7_goOn_117 2 rfl rfl rfl ?_
    refine x_iconst 119 C (nI 1) dX7_goOn_118 ki_1 rfl ?_
    refine x_iadd 120 C dX7_goOn_119 rfl ?_
    refine xwR_1 121 C dX7_goOn_120 rfl hf (fun M8 hf => ?_)
    refine x_alN 122 C dX7_goOn_121 0 rfl rfl rfl ?_
    refine xgX7_0 125 C mq_668 dX7_goOn_122 rfl ?_
    refine x_sipush 128 C (nI 141) dX7_goOn_125 ks_141 rfl ?_
    refine x_ilN 129 C dX7_goOn_128 1 rfl rfl rfl ?_
    refine x_iadd 130 C dX7_goOn_129 rfl ?_
    refine x_iconst 131 C (nI 2) dX7_goOn_130 ki_2 rfl ?_
    refine xwR_1 132 C dX7_goOn_131 rfl hf (fun M9 hf => ?_)
    exact x_vret C HQ rfl dX7_goOn_132 hf
set_option maxRecDepth 20000 in
set_option maxHeartbeats 1000000 in
theorem tX7_goOn {l : Launch} {Y : xY} {ad : Nat → Nat} {fr : va_W} {M : xM} {p1 : Int32} {z0 : xM} (hf : fX7_goOn M p1 = some z0) : xcV l Y (wR Y ad fr) yX7_goOn cX7_goOn 3 none 0 0 [.ref (ad 0), .int p1] M z0 := by
  refine x_entryV [(0, .ref (ad 0)), (1, .int p1)] pnX7 rfl (Nat.le_of_ble_eq_true rfl) rfl (fun X C HQ => ?_)
  unfold fX7_goOn at hf
  refine x_alN 1 C dX7_goOn_0 0 rfl rfl rfl ?_
  refine xgX7_0 4 C mq_668 dX7_goOn_1 rfl ?_
  refine x_bipush 6 C (nI 117) dX7_goOn_4 kb_117 rfl ?_
  refine x_ilN 7 C dX7_goOn_6 1 rfl rfl rfl ?_
  refine x_iadd 8 C dX7_goOn_7 rfl ?_
  refine xrR_1 9 C dX7_goOn_8 rfl hf (fun x1 hf => ?_)
  refine x_isN 10 C 2 (lv2 := [(2, .int x1), (0, .ref (ad 0)), (1, .int p1)]) dX7_goOn_9 rfl rfl (Nat.le_of_ble_eq_true rfl) rfl ?_
  refine x_alN 11 C dX7_goOn_10 1 rfl rfl rfl ?_
  refine xgX7_7 14 C mq_675 dX7_goOn_11 rfl ?_
  refine x_ilN 15 C dX7_goOn_14 2 rfl rfl rfl ?_
  refine xrR_8 16 C dX7_goOn_15 rfl hf (fun x2 hf => ?_)
  refine x_iconst 17 C (nI 3) dX7_goOn_16 ki_3 rfl ?_
  refine x_icmp_eq 20 C 30 dX7_goOn_17 (by decide) rfl hf (fun hf => ?_) (fun hf => ?_)
  ·
    refine x_sub [1, 2] rfl ?_
    exact tX7_goOn_j30 C HQ _ _  hf
  ·
    refine x_alN 21 C dX7_goOn_20 1 rfl rfl rfl ?_
    refine xgX7_7 24 C mq_675 dX7_goOn_21 rfl ?_
    refine x_ilN 25 C dX7_goOn_24 2 rfl rfl rfl ?_
    refine xrR_8 26 C dX7_goOn_25 rfl hf (fun x4 hf => ?_)
    refine x_iconst 27 C (nI 4) dX7_goOn_26 ki_4 rfl ?_
    refine x_icmp_ne 30 C 43 dX7_goOn_27 (by decide) rfl hf (fun hf => ?_) (fun hf => ?_)
    ·
      refine x_ilN 44 C dX7_goOn_43 0 rfl rfl rfl ?_
      refine x_iconst 45 C (nI 1) dX7_goOn_44 ki_1 rfl ?_
      refine x_icmp_ne 48 C 72 dX7_goOn_45 (by decide) rfl hf (fun hf => ?_) (fun hf => ?_)
      ·
        refine x_ilN 73 C dX7_goOn_72 0 rfl rfl rfl ?_
        refine x_iconst 74 C (nI 2) dX7_goOn_73 ki_2 rfl ?_
        refine x_icmp_eq 77 C 82 dX7_goOn_74 (by decide) rfl hf (fun hf => ?_) (fun hf => ?_)
        ·
          refine x_sub [1, 2, 0] rfl ?_
          exact tX7_goOn_j82 C HQ _ _ _  hf
        ·
          refine x_ilN 78 C dX7_goOn_77 0 rfl rfl rfl ?_
          refine x_iconst 79 C (nI 3) dX7_goOn_78 ki_3 rfl ?_
          refine x_icmp_ne 82 C 132 dX7_goOn_79 (by decide) rfl hf (fun hf => ?_) (fun hf => ?_)
          ·
            exact x_vret C HQ rfl dX7_goOn_132 hf
          ·
            refine x_sub [1, 2, 0] rfl ?_
            exact tX7_goOn_j82 C HQ _ _ _  hf
      ·
        refine x_alN 49 C dX7_goOn_48 1 rfl rfl rfl ?_
        refine xgX7_0 52 C mq_668 dX7_goOn_49 rfl ?_
        refine x_bipush 54 C (nI 117) dX7_goOn_52 kb_117 rfl ?_
        refine x_ilN 55 C dX7_goOn_54 2 rfl rfl rfl ?_
        refine x_iadd 56 C dX7_goOn_55 rfl ?_
        refine x_iconst 57 C (nI 2) dX7_goOn_56 ki_2 rfl ?_
        refine xwR_1 58 C dX7_goOn_57 rfl hf (fun M10 hf => ?_)
        refine x_alN 59 C dX7_goOn_58 1 rfl rfl rfl ?_
        refine xgX7_0 62 C mq_668 dX7_goOn_59 rfl ?_
        refine x_sipush 65 C (nI 141) dX7_goOn_62 ks_141 rfl ?_
        refine x_ilN 66 C dX7_goOn_65 2 rfl rfl rfl ?_
        refine x_iadd 67 C dX7_goOn_66 rfl ?_
        refine x_iconst 68 C (nI 2) dX7_goOn_67 ki_2 rfl ?_
        refine xwR_1 69 C dX7_goOn_68 rfl hf (fun M11 hf => ?_)
        refine x_goto 132 C dX7_goOn_69 (by decide) ?_
        exact x_vret C HQ rfl dX7_goOn_132 hf
    ·
      refine x_sub [1, 2] rfl ?_
      exact tX7_goOn_j30 C HQ _ _  hf
set_option maxRecDepth 20000 in
set_option maxHeartbeats 1000000 in
theorem tX7_tickOnce_B6 {l : Launch} {Y : xY} {X : xE} {ad : Nat → Nat} {fr : va_W} {z0 : Int32 × xM} (C : xC Y X cX7_tickOnce RX7 (some .boolean) 4 4 99) (HQ : xRI Y X (wR Y ad fr) z0.1 z0.2)   (k32 : xM → Option (Int32 × xM)) (Hk32 : ∀ (M : xM), k32 M = some z0 → xG Y l X (wR Y ad fr) M 32 [(0, .ref (ad 0))] []) (M : xM) (v1 : Int32) (b6 : xM → Int32 → Option (Int32 × xM)) (Hb6 : ∀ (M : xM) (v1 : Int32), b6 M v1 = some z0 → xG Y l X (wR Y ad fr) M 6 [(0, .ref (ad 0)), (1, .int v1)] []) (hf : fX7_tickOnce_B6 k32 M v1 b6 = some z0) : xG Y l X (wR Y ad fr) M 6 [(0, .ref (ad 0)), (1, .int v1)] [] := by
  unfold fX7_tickOnce_B6 at hf
  refine x_ilN 7 C dX7_tickOnce_6 1 rfl rfl rfl ?_
  refine x_alN 8 C dX7_tickOnce_7 0 rfl rfl rfl ?_
  refine x_cvIP 11 C [] hwX7_ports mq_741 dX7_tickOnce_8 rfl ⟨Nat.le_of_ble_eq_true rfl, Nat.le_of_ble_eq_true rfl⟩ 0 wR_at_0 rfl rfl rfl (Nat.le_of_ble_eq_true rfl) (fun z hz => tX7_ports hz) hf (fun z2 hf => ?_)
  refine x_icmp_ge 14 C 32 dX7_tickOnce_11 (by decide) rfl hf (fun hf => ?_) (fun hf => ?_)
  ·
    refine x_sub [0] rfl ?_
    exact Hk32 _ hf
  ·
    refine x_alN 15 C dX7_tickOnce_14 0 rfl rfl rfl ?_
    refine xgX7_11 18 C mq_679 dX7_tickOnce_15 rfl ?_
    refine x_ilN 19 C dX7_tickOnce_18 1 rfl rfl rfl ?_
    refine x_alN 20 C dX7_tickOnce_19 0 rfl rfl rfl ?_
    refine xgX7_7 23 C mq_675 dX7_tickOnce_20 rfl ?_
    refine x_ilN 24 C dX7_tickOnce_23 1 rfl rfl rfl ?_
    refine xrR_8 25 C dX7_tickOnce_24 rfl hf (fun x3 hf => ?_)
    refine xwR_12 26 C dX7_tickOnce_25 rfl hf (fun M4 hf => ?_)
    refine x_iinc 29 C (v1 + (nI 1)) (lv2 := [(1, .int (v1 + (nI 1))), (0, .ref (ad 0))]) dX7_tickOnce_26 1 rfl rfl rfl (Nat.le_of_ble_eq_true rfl) rfl ?_
    refine x_goto 6 C dX7_tickOnce_29 (by decide) ?_
    refine x_sub [1, 0] rfl ?_
    exact Hb6 _ _ hf
set_option maxRecDepth 20000 in
set_option maxHeartbeats 1000000 in
theorem tX7_tickOnce_L6 {l : Launch} {Y : xY} {X : xE} {ad : Nat → Nat} {fr : va_W} {z0 : Int32 × xM} (C : xC Y X cX7_tickOnce RX7 (some .boolean) 4 4 99) (HQ : xRI Y X (wR Y ad fr) z0.1 z0.2)   (k32 : xM → Option (Int32 × xM)) (Hk32 : ∀ (M : xM), k32 M = some z0 → xG Y l X (wR Y ad fr) M 32 [(0, .ref (ad 0))] []) : ∀ (n : Nat) (M : xM) (v1 : Int32), fX7_tickOnce_L6 k32 n M v1 = some z0 → xG Y l X (wR Y ad fr) M 6 [(0, .ref (ad 0)), (1, .int v1)] [] := by
  intro n
  induction n with
  | zero =>
    intro M v1 hf
    cases hf
  | succ n ih =>
    intro M v1 hf
    exact tX7_tickOnce_B6 C HQ   _ Hk32 M v1 _ (fun M v1 hf => ih M v1 hf) hf
set_option maxRecDepth 20000 in
set_option maxHeartbeats 1000000 in
theorem tX7_tickOnce_B38 {l : Launch} {Y : xY} {X : xE} {ad : Nat → Nat} {fr : va_W} {z0 : Int32 × xM} (C : xC Y X cX7_tickOnce RX7 (some .boolean) 4 4 99) (HQ : xRI Y X (wR Y ad fr) z0.1 z0.2)   (k57 : xM → Option (Int32 × xM)) (Hk57 : ∀ (M : xM), k57 M = some z0 → xG Y l X (wR Y ad fr) M 57 [(0, .ref (ad 0))] []) (M : xM) (v1 : Int32) (b38 : xM → Int32 → Option (Int32 × xM)) (Hb38 : ∀ (M : xM) (v1 : Int32), b38 M v1 = some z0 → xG Y l X (wR Y ad fr) M 38 [(0, .ref (ad 0)), (1, .int v1)] []) (hf : fX7_tickOnce_B38 k57 M v1 b38 = some z0) : xG Y l X (wR Y ad fr) M 38 [(0, .ref (ad 0)), (1, .int v1)] [] := by
  unfold fX7_tickOnce_B38 at hf
  refine x_ilN 39 C dX7_tickOnce_38 1 rfl rfl rfl ?_
  refine x_alN 40 C dX7_tickOnce_39 0 rfl rfl rfl ?_
  refine x_cvIP 43 C [] hwX7_ports mq_741 dX7_tickOnce_40 rfl ⟨Nat.le_of_ble_eq_true rfl, Nat.le_of_ble_eq_true rfl⟩ 0 wR_at_0 rfl rfl rfl (Nat.le_of_ble_eq_true rfl) (fun z hz => tX7_ports hz) hf (fun z7 hf => ?_)
  refine x_icmp_ge 46 C 57 dX7_tickOnce_43 (by decide) rfl hf (fun hf => ?_) (fun hf => ?_)
  ·
    refine x_sub [0] rfl ?_
    exact Hk57 _ hf
  ·
    refine x_alN 47 C dX7_tickOnce_46 0 rfl rfl rfl ?_
    refine x_ilN 48 C dX7_tickOnce_47 1 rfl rfl rfl ?_
    refine x_cvVM 51 C [.int v1] hwX7_hear mq_844 dX7_tickOnce_48 rfl ⟨Nat.le_of_ble_eq_true rfl, Nat.le_of_ble_eq_true rfl⟩ 0 wR_at_0 rfl rfl rfl (Nat.le_of_ble_eq_true rfl) (fun z hz => tX7_hear hz) hf (fun z8 hf => ?_)
    refine x_iinc 54 C (v1 + (nI 1)) (lv2 := [(1, .int (v1 + (nI 1))), (0, .ref (ad 0))]) dX7_tickOnce_51 1 rfl rfl rfl (Nat.le_of_ble_eq_true rfl) rfl ?_
    refine x_goto 38 C dX7_tickOnce_54 (by decide) ?_
    refine x_sub [1, 0] rfl ?_
    exact Hb38 _ _ hf
set_option maxRecDepth 20000 in
set_option maxHeartbeats 1000000 in
theorem tX7_tickOnce_L38 {l : Launch} {Y : xY} {X : xE} {ad : Nat → Nat} {fr : va_W} {z0 : Int32 × xM} (C : xC Y X cX7_tickOnce RX7 (some .boolean) 4 4 99) (HQ : xRI Y X (wR Y ad fr) z0.1 z0.2)   (k57 : xM → Option (Int32 × xM)) (Hk57 : ∀ (M : xM), k57 M = some z0 → xG Y l X (wR Y ad fr) M 57 [(0, .ref (ad 0))] []) : ∀ (n : Nat) (M : xM) (v1 : Int32), fX7_tickOnce_L38 k57 n M v1 = some z0 → xG Y l X (wR Y ad fr) M 38 [(0, .ref (ad 0)), (1, .int v1)] [] := by
  intro n
  induction n with
  | zero =>
    intro M v1 hf
    cases hf
  | succ n ih =>
    intro M v1 hf
    exact tX7_tickOnce_B38 C HQ   _ Hk57 M v1 _ (fun M v1 hf => ih M v1 hf) hf
set_option maxRecDepth 20000 in
set_option maxHeartbeats 1000000 in
theorem tX7_tickOnce_j134 {l : Launch} {Y : xY} {X : xE} {ad : Nat → Nat} {fr : va_W} {z0 : Int32 × xM} (C : xC Y X cX7_tickOnce RX7 (some .boolean) 4 4 99) (HQ : xRI Y X (wR Y ad fr) z0.1 z0.2) (M : xM) (v2 : Int32) (s0 : Int32) (b65 : xM → Int32 → Int32 → Option (Int32 × xM)) (Hb65 : ∀ (M : xM) (v1 : Int32) (v2 : Int32), b65 M v1 v2 = some z0 → xG Y l X (wR Y ad fr) M 65 [(0, .ref (ad 0)), (1, .int v1), (2, .int v2)] []) (hf : fX7_tickOnce_j134 M v2 s0 b65 = some z0) : xG Y l X (wR Y ad fr) M 134 [(0, .ref (ad 0)), (2, .int v2)] [.int s0] := by
  unfold fX7_tickOnce_j134 at hf
  refine x_isN 135 C 1 (lv2 := [(1, .int s0), (0, .ref (ad 0)), (2, .int v2)]) dX7_tickOnce_134 rfl rfl (Nat.le_of_ble_eq_true rfl) rfl ?_
  refine x_iinc 138 C (v2 + (nI 1)) (lv2 := [(2, .int (v2 + (nI 1))), (1, .int s0), (0, .ref (ad 0))]) dX7_tickOnce_135 2 rfl rfl rfl (Nat.le_of_ble_eq_true rfl) rfl ?_
  refine x_goto 65 C dX7_tickOnce_138 (by decide) ?_
  refine x_sub [2, 1, 0] rfl ?_
  exact Hb65 _ _ _ hf
set_option maxRecDepth 20000 in
set_option maxHeartbeats 1000000 in
theorem tX7_tickOnce_j97 {l : Launch} {Y : xY} {X : xE} {ad : Nat → Nat} {fr : va_W} {z0 : Int32 × xM} (C : xC Y X cX7_tickOnce RX7 (some .boolean) 4 4 99) (HQ : xRI Y X (wR Y ad fr) z0.1 z0.2) (M : xM) (v1 : Int32) (v2 : Int32) (v3 : Int32) (b65 : xM → Int32 → Int32 → Option (Int32 × xM)) (Hb65 : ∀ (M : xM) (v1 : Int32) (v2 : Int32), b65 M v1 v2 = some z0 → xG Y l X (wR Y ad fr) M 65 [(0, .ref (ad 0)), (1, .int v1), (2, .int v2)] []) (hf : fX7_tickOnce_j97 M v1 v2 v3 b65 = some z0) : xG Y l X (wR Y ad fr) M 97 [(0, .ref (ad 0)), (1, .int v1), (2, .int v2), (3, .int v3)] [] := by
  unfold fX7_tickOnce_j97 at hf
  refine x_ilN 98 C dX7_tickOnce_97 1 rfl rfl rfl ?_
  refine x_if_ne 101 C 129 dX7_tickOnce_98 (by decide) rfl hf (fun hf => ?_) (fun hf => ?_)
  ·
    refine x_iconst 130 C (nI 1) dX7_tickOnce_129 ki_1 rfl ?_
    refine x_goto 134 C dX7_tickOnce_130 (by decide) ?_
    refine x_sub [0, 2] rfl ?_
    exact tX7_tickOnce_j134 C HQ _ _ _ _ Hb65 hf
  ·
    refine x_alN 102 C dX7_tickOnce_101 0 rfl rfl rfl ?_
    refine xgX7_0 105 C mq_668 dX7_tickOnce_102 rfl ?_
    refine x_bipush 107 C (nI 117) dX7_tickOnce_105 kb_117 rfl ?_
    refine x_ilN 108 C dX7_tickOnce_107 2 rfl rfl rfl ?_
    refine x_iadd 109 C dX7_tickOnce_108 rfl ?_
    refine xrR_1 110 C dX7_tickOnce_109 rfl hf (fun x14 hf => ?_)
    refine x_ilN 111 C dX7_tickOnce_110 3 rfl rfl rfl ?_
    refine x_icmp_ne 114 C 129 dX7_tickOnce_111 (by decide) rfl hf (fun hf => ?_) (fun hf => ?_)
    ·
      refine x_iconst 130 C (nI 1) dX7_tickOnce_129 ki_1 rfl ?_
      refine x_goto 134 C dX7_tickOnce_130 (by decide) ?_
      refine x_sub [0, 2] rfl ?_
      exact tX7_tickOnce_j134 C HQ _ _ _ _ Hb65 hf
    ·
      refine x_alN 115 C dX7_tickOnce_114 0 rfl rfl rfl ?_
      refine xgX7_7 118 C mq_675 dX7_tickOnce_115 rfl ?_
      refine x_ilN 119 C dX7_tickOnce_118 2 rfl rfl rfl ?_
      refine xrR_8 120 C dX7_tickOnce_119 rfl hf (fun x15 hf => ?_)
      refine x_alN 121 C dX7_tickOnce_120 0 rfl rfl rfl ?_
      refine xgX7_11 124 C mq_679 dX7_tickOnce_121 rfl ?_
      refine x_ilN 125 C dX7_tickOnce_124 2 rfl rfl rfl ?_
      refine xrR_12 126 C dX7_tickOnce_125 rfl hf (fun x16 hf => ?_)
      refine x_icmp_eq 129 C 133 dX7_tickOnce_126 (by decide) rfl hf (fun hf => ?_) (fun hf => ?_)
      ·
        refine x_iconst 134 C (nI 0) dX7_tickOnce_133 ki_0 rfl ?_
        refine x_sub [0, 2] rfl ?_
        exact tX7_tickOnce_j134 C HQ _ _ _ _ Hb65 hf
      ·
        refine x_iconst 130 C (nI 1) dX7_tickOnce_129 ki_1 rfl ?_
        refine x_goto 134 C dX7_tickOnce_130 (by decide) ?_
        refine x_sub [0, 2] rfl ?_
        exact tX7_tickOnce_j134 C HQ _ _ _ _ Hb65 hf
set_option maxRecDepth 20000 in
set_option maxHeartbeats 1000000 in
theorem tX7_tickOnce_B65 {l : Launch} {Y : xY} {X : xE} {ad : Nat → Nat} {fr : va_W} {z0 : Int32 × xM} (C : xC Y X cX7_tickOnce RX7 (some .boolean) 4 4 99) (HQ : xRI Y X (wR Y ad fr) z0.1 z0.2)   (k141 : xM → Int32 → Option (Int32 × xM)) (Hk141 : ∀ (M : xM) (v1 : Int32), k141 M v1 = some z0 → xG Y l X (wR Y ad fr) M 141 [(0, .ref (ad 0)), (1, .int v1)] []) (M : xM) (v1 : Int32) (v2 : Int32) (b65 : xM → Int32 → Int32 → Option (Int32 × xM)) (Hb65 : ∀ (M : xM) (v1 : Int32) (v2 : Int32), b65 M v1 v2 = some z0 → xG Y l X (wR Y ad fr) M 65 [(0, .ref (ad 0)), (1, .int v1), (2, .int v2)] []) (hf : fX7_tickOnce_B65 k141 M v1 v2 b65 = some z0) : xG Y l X (wR Y ad fr) M 65 [(0, .ref (ad 0)), (1, .int v1), (2, .int v2)] [] := by
  unfold fX7_tickOnce_B65 at hf
  refine x_ilN 66 C dX7_tickOnce_65 2 rfl rfl rfl ?_
  refine x_alN 67 C dX7_tickOnce_66 0 rfl rfl rfl ?_
  refine x_cvIP 70 C [] hwX7_ports mq_741 dX7_tickOnce_67 rfl ⟨Nat.le_of_ble_eq_true rfl, Nat.le_of_ble_eq_true rfl⟩ 0 wR_at_0 rfl rfl rfl (Nat.le_of_ble_eq_true rfl) (fun z hz => tX7_ports hz) hf (fun z11 hf => ?_)
  refine x_icmp_ge 73 C 141 dX7_tickOnce_70 (by decide) rfl hf (fun hf => ?_) (fun hf => ?_)
  ·
    refine x_sub [0, 1] rfl ?_
    exact Hk141 _ _ hf
  ·
    refine x_alN 74 C dX7_tickOnce_73 0 rfl rfl rfl ?_
    refine xgX7_0 77 C mq_668 dX7_tickOnce_74 rfl ?_
    refine x_bipush 79 C (nI 117) dX7_tickOnce_77 kb_117 rfl ?_
    refine x_ilN 80 C dX7_tickOnce_79 2 rfl rfl rfl ?_
    refine x_iadd 81 C dX7_tickOnce_80 rfl ?_
    refine xrR_1 82 C dX7_tickOnce_81 rfl hf (fun x12 hf => ?_)
    refine x_isN 83 C 3 (lv2 := [(3, .int x12), (0, .ref (ad 0)), (1, .int v1), (2, .int v2)]) dX7_tickOnce_82 rfl rfl (Nat.le_of_ble_eq_true rfl) rfl ?_
    refine x_alN 84 C dX7_tickOnce_83 1 rfl rfl rfl ?_
    refine xgX7_7 87 C mq_675 dX7_tickOnce_84 rfl ?_
    refine x_ilN 88 C dX7_tickOnce_87 3 rfl rfl rfl ?_
    refine xrR_8 89 C dX7_tickOnce_88 rfl hf (fun x13 hf => ?_)
    refine x_if_eq 92 C 97 dX7_tickOnce_89 (by decide) rfl hf (fun hf => ?_) (fun hf => ?_)
    ·
      refine x_sub [1, 2, 3, 0] rfl ?_
      exact tX7_tickOnce_j97 C HQ _ _ _ _ _ Hb65 hf
    ·
      refine x_alN 93 C dX7_tickOnce_92 1 rfl rfl rfl ?_
      refine x_ilN 94 C dX7_tickOnce_93 3 rfl rfl rfl ?_
      refine x_cvVM 97 C [.int v2] hwX7_goOn mq_856 dX7_tickOnce_94 rfl ⟨Nat.le_of_ble_eq_true rfl, Nat.le_of_ble_eq_true rfl⟩ 0 wR_at_0 rfl rfl rfl (Nat.le_of_ble_eq_true rfl) (fun z hz => tX7_goOn hz) hf (fun z17 hf => ?_)
      refine x_sub [1, 2, 3, 0] rfl ?_
      exact tX7_tickOnce_j97 C HQ _ _ _ _ _ Hb65 hf
set_option maxRecDepth 20000 in
set_option maxHeartbeats 1000000 in
theorem tX7_tickOnce_L65 {l : Launch} {Y : xY} {X : xE} {ad : Nat → Nat} {fr : va_W} {z0 : Int32 × xM} (C : xC Y X cX7_tickOnce RX7 (some .boolean) 4 4 99) (HQ : xRI Y X (wR Y ad fr) z0.1 z0.2)   (k141 : xM → Int32 → Option (Int32 × xM)) (Hk141 : ∀ (M : xM) (v1 : Int32), k141 M v1 = some z0 → xG Y l X (wR Y ad fr) M 141 [(0, .ref (ad 0)), (1, .int v1)] []) : ∀ (n : Nat) (M : xM) (v1 : Int32) (v2 : Int32), fX7_tickOnce_L65 k141 n M v1 v2 = some z0 → xG Y l X (wR Y ad fr) M 65 [(0, .ref (ad 0)), (1, .int v1), (2, .int v2)] [] := by
  intro n
  induction n with
  | zero =>
    intro M v1 v2 hf
    cases hf
  | succ n ih =>
    intro M v1 v2 hf
    exact tX7_tickOnce_B65 C HQ   _ Hk141 M v1 v2 _ (fun M v1 v2 hf => ih M v1 v2 hf) hf
set_option maxRecDepth 20000 in
set_option maxHeartbeats 1000000 in
theorem tX7_tickOnce_j178 {l : Launch} {Y : xY} {X : xE} {ad : Nat → Nat} {fr : va_W} {z0 : Int32 × xM} (C : xC Y X cX7_tickOnce RX7 (some .boolean) 4 4 99) (HQ : xRI Y X (wR Y ad fr) z0.1 z0.2) (M : xM) (v1 : Int32) (v2 : Int32) (s0 : Int32) (s1 : Int32) (s2 : Int32) (b143 : xM → Int32 → Option (Int32 × xM)) (Hb143 : ∀ (M : xM) (v2 : Int32), b143 M v2 = some z0 → xG Y l X (wR Y ad fr) M 143 [(0, .ref (ad 0)), (1, .int v1), (2, .int v2)] []) (hf : fX7_tickOnce_j178 M v1 v2 s0 s1 s2 b143 = some z0) : xG Y l X (wR Y ad fr) M 178 [(0, .ref (ad 0)), (1, .int v1), (2, .int v2)] [.int s0, .int s1, .int s2, .ref (ad 1)] := by
  unfold fX7_tickOnce_j178 at hf
  refine x_isub 179 C dX7_tickOnce_178 rfl ?_
  refine xwR_1 180 C dX7_tickOnce_179 rfl hf (fun M22 hf => ?_)
  refine x_iinc 183 C (v2 + (nI 1)) (lv2 := [(2, .int (v2 + (nI 1))), (0, .ref (ad 0)), (1, .int v1)]) dX7_tickOnce_180 2 rfl rfl rfl (Nat.le_of_ble_eq_true rfl) rfl ?_
  refine x_goto 143 C dX7_tickOnce_183 (by decide) ?_
  refine x_sub [1, 2, 0] rfl ?_
  exact Hb143 _ _ hf
set_option maxRecDepth 20000 in
set_option maxHeartbeats 1000000 in
theorem tX7_tickOnce_B143 {l : Launch} {Y : xY} {X : xE} {ad : Nat → Nat} {fr : va_W} {z0 : Int32 × xM} (C : xC Y X cX7_tickOnce RX7 (some .boolean) 4 4 99) (HQ : xRI Y X (wR Y ad fr) z0.1 z0.2)  (v1 : Int32) (k186 : xM → Option (Int32 × xM)) (Hk186 : ∀ (M : xM), k186 M = some z0 → xG Y l X (wR Y ad fr) M 186 [(0, .ref (ad 0)), (1, .int v1)] []) (M : xM) (v2 : Int32) (b143 : xM → Int32 → Option (Int32 × xM)) (Hb143 : ∀ (M : xM) (v2 : Int32), b143 M v2 = some z0 → xG Y l X (wR Y ad fr) M 143 [(0, .ref (ad 0)), (1, .int v1), (2, .int v2)] []) (hf : fX7_tickOnce_B143 v1 k186 M v2 b143 = some z0) : xG Y l X (wR Y ad fr) M 143 [(0, .ref (ad 0)), (1, .int v1), (2, .int v2)] [] := by
  unfold fX7_tickOnce_B143 at hf
  refine x_ilN 144 C dX7_tickOnce_143 2 rfl rfl rfl ?_
  refine x_bipush 146 C (nI 64) dX7_tickOnce_144 kb_64 rfl ?_
  refine x_icmp_ge 149 C 186 dX7_tickOnce_146 (by decide) rfl hf (fun hf => ?_) (fun hf => ?_)
  ·
    refine x_sub [0, 1] rfl ?_
    exact Hk186 _ hf
  ·
    refine x_alN 150 C dX7_tickOnce_149 0 rfl rfl rfl ?_
    refine xgX7_0 153 C mq_668 dX7_tickOnce_150 rfl ?_
    refine x_sipush 156 C (nI 357) dX7_tickOnce_153 ks_357 rfl ?_
    refine x_ilN 157 C dX7_tickOnce_156 2 rfl rfl rfl ?_
    refine x_iadd 158 C dX7_tickOnce_157 rfl ?_
    refine x_dup2 159 C dX7_tickOnce_158 rfl rfl rfl ?_
    refine xrR_1 160 C dX7_tickOnce_159 rfl hf (fun x20 hf => ?_)
    refine x_alN 161 C dX7_tickOnce_160 0 rfl rfl rfl ?_
    refine xgX7_0 164 C mq_668 dX7_tickOnce_161 rfl ?_
    refine x_sipush 167 C (nI 357) dX7_tickOnce_164 ks_357 rfl ?_
    refine x_ilN 168 C dX7_tickOnce_167 2 rfl rfl rfl ?_
    refine x_iadd 169 C dX7_tickOnce_168 rfl ?_
    refine xrR_1 170 C dX7_tickOnce_169 rfl hf (fun x21 hf => ?_)
    refine x_if_le 173 C 177 dX7_tickOnce_170 (by decide) rfl hf (fun hf => ?_) (fun hf => ?_)
    ·
      refine x_iconst 178 C (nI 0) dX7_tickOnce_177 ki_0 rfl ?_
      exact tX7_tickOnce_j178 C HQ _ _ _ _ _ _ _ Hb143 hf
    ·
      refine x_iconst 174 C (nI 1) dX7_tickOnce_173 ki_1 rfl ?_
      refine x_goto 178 C dX7_tickOnce_174 (by decide) ?_
      exact tX7_tickOnce_j178 C HQ _ _ _ _ _ _ _ Hb143 hf
set_option maxRecDepth 20000 in
set_option maxHeartbeats 1000000 in
theorem tX7_tickOnce_L143 {l : Launch} {Y : xY} {X : xE} {ad : Nat → Nat} {fr : va_W} {z0 : Int32 × xM} (C : xC Y X cX7_tickOnce RX7 (some .boolean) 4 4 99) (HQ : xRI Y X (wR Y ad fr) z0.1 z0.2)  (v1 : Int32) (k186 : xM → Option (Int32 × xM)) (Hk186 : ∀ (M : xM), k186 M = some z0 → xG Y l X (wR Y ad fr) M 186 [(0, .ref (ad 0)), (1, .int v1)] []) : ∀ (n : Nat) (M : xM) (v2 : Int32), fX7_tickOnce_L143 v1 k186 n M v2 = some z0 → xG Y l X (wR Y ad fr) M 143 [(0, .ref (ad 0)), (1, .int v1), (2, .int v2)] [] := by
  intro n
  induction n with
  | zero =>
    intro M v2 hf
    cases hf
  | succ n ih =>
    intro M v2 hf
    exact tX7_tickOnce_B143 C HQ  v1 _ Hk186 M v2 _ (fun M v2 hf => ih M v2 hf) hf
set_option maxRecDepth 20000 in
set_option maxHeartbeats 1000000 in
theorem tX7_tickOnce {l : Launch} {Y : xY} {ad : Nat → Nat} {fr : va_W} {M : xM}  {z0 : Int32 × xM} (hf : fX7_tickOnce M = some z0) : xcI l Y (wR Y ad fr) yX7_tickOnce cX7_tickOnce 4 (some .boolean) 4 99 [.ref (ad 0)] M z0.1 z0.2 := by
  refine x_entryI [(0, .ref (ad 0))] pnX7 rfl (Nat.le_of_ble_eq_true rfl) rfl (fun X C HQ => ?_)
  unfold fX7_tickOnce at hf
  refine x_alN 1 C dX7_tickOnce_0 0 rfl rfl rfl ?_
  refine x_cvVM 4 C [] hwX7_layRoles mq_805 dX7_tickOnce_1 rfl ⟨Nat.le_of_ble_eq_true rfl, Nat.le_of_ble_eq_true rfl⟩ 0 wR_at_0 rfl rfl rfl (Nat.le_of_ble_eq_true rfl) (fun z hz => tX7_layRoles hz) hf (fun z1 hf => ?_)
  refine x_iconst 5 C (nI 0) dX7_tickOnce_4 ki_0 rfl ?_
  refine x_isN 6 C 1 (lv2 := [(1, .int (nI 0)), (0, .ref (ad 0))]) dX7_tickOnce_5 rfl rfl (Nat.le_of_ble_eq_true rfl) rfl ?_
  refine x_sub [1, 0] rfl ?_
  refine tX7_tickOnce_L6 C HQ  _ (fun M5 hf => ?_) 512 _ _ hf
  refine x_alN 33 C dX7_tickOnce_32 0 rfl rfl rfl ?_
  refine x_cvVM 36 C [] hwX7_sendAll mq_840 dX7_tickOnce_33 rfl ⟨Nat.le_of_ble_eq_true rfl, Nat.le_of_ble_eq_true rfl⟩ 0 wR_at_0 rfl rfl rfl (Nat.le_of_ble_eq_true rfl) (fun z hz => tX7_sendAll hz) hf (fun z6 hf => ?_)
  refine x_iconst 37 C (nI 0) dX7_tickOnce_36 ki_0 rfl ?_
  refine x_isN 38 C 1 (lv2 := [(1, .int (nI 0)), (0, .ref (ad 0))]) dX7_tickOnce_37 rfl rfl (Nat.le_of_ble_eq_true rfl) rfl ?_
  refine x_sub [1, 0] rfl ?_
  refine tX7_tickOnce_L38 C HQ  _ (fun M9 hf => ?_) 512 _ _ hf
  refine x_alN 58 C dX7_tickOnce_57 0 rfl rfl rfl ?_
  refine x_cvVM 61 C [] hwX7_layRoles mq_805 dX7_tickOnce_58 rfl ⟨Nat.le_of_ble_eq_true rfl, Nat.le_of_ble_eq_true rfl⟩ 0 wR_at_0 rfl rfl rfl (Nat.le_of_ble_eq_true rfl) (fun z hz => tX7_layRoles hz) hf (fun z10 hf => ?_)
  refine x_iconst 62 C (nI 0) dX7_tickOnce_61 ki_0 rfl ?_
  refine x_isN 63 C 1 (lv2 := [(1, .int (nI 0)), (0, .ref (ad 0))]) dX7_tickOnce_62 rfl rfl (Nat.le_of_ble_eq_true rfl) rfl ?_
  refine x_iconst 64 C (nI 0) dX7_tickOnce_63 ki_0 rfl ?_
  refine x_isN 65 C 2 (lv2 := [(2, .int (nI 0)), (1, .int (nI 0)), (0, .ref (ad 0))]) dX7_tickOnce_64 rfl rfl (Nat.le_of_ble_eq_true rfl) rfl ?_
  refine x_sub [2, 1, 0] rfl ?_
  refine tX7_tickOnce_L65 C HQ  _ (fun M19 v18 hf => ?_) 512 _ _ _ hf
  refine x_iconst 142 C (nI 0) dX7_tickOnce_141 ki_0 rfl ?_
  refine x_isN 143 C 2 (lv2 := [(2, .int (nI 0)), (0, .ref (ad 0)), (1, .int v18)]) dX7_tickOnce_142 rfl rfl (Nat.le_of_ble_eq_true rfl) rfl ?_
  refine x_sub [1, 2, 0] rfl ?_
  refine tX7_tickOnce_L143 C HQ _ _ (fun M23 hf => ?_) 512 _ _ hf
  refine x_alN 187 C dX7_tickOnce_186 0 rfl rfl rfl ?_
  refine xgX7_0 190 C mq_668 dX7_tickOnce_187 rfl ?_
  refine x_iconst 191 C (nI 4) dX7_tickOnce_190 ki_4 rfl ?_
  refine x_dup2 192 C dX7_tickOnce_191 rfl rfl rfl ?_
  refine xrR_1 193 C dX7_tickOnce_192 rfl hf (fun x24 hf => ?_)
  refine x_iconst 194 C (nI 1) dX7_tickOnce_193 ki_1 rfl ?_
  refine x_iadd 195 C dX7_tickOnce_194 rfl ?_
  refine xwR_1 196 C dX7_tickOnce_195 rfl hf (fun M25 hf => ?_)
  refine x_ilN 197 C dX7_tickOnce_196 1 rfl rfl rfl ?_
  obtain ⟨hn, hf⟩ := x_nz hf
  exact x_iretM C HQ rfl hn dX7_tickOnce_197 hf
set_option maxRecDepth 20000 in
set_option maxHeartbeats 1000000 in
theorem tX7_tick_B15 {l : Launch} {Y : xY} {X : xE} {ad : Nat → Nat} {fr : va_W} {z0 : Int32 × xM} (C : xC Y X cX7_tick RX7 (some .int) 4 5 122) (HQ : xRI Y X (wR Y ad fr) z0.1 z0.2)  (v1 : Int32) (k31 : xM → Option (Int32 × xM)) (Hk31 : ∀ (M : xM), k31 M = some z0 → xG Y l X (wR Y ad fr) M 31 [(0, .ref (ad 0))] []) (M : xM) (v2 : Int32) (b15 : xM → Int32 → Option (Int32 × xM)) (Hb15 : ∀ (M : xM) (v2 : Int32), b15 M v2 = some z0 → xG Y l X (wR Y ad fr) M 15 [(0, .ref (ad 0)), (1, .int v1), (2, .int v2)] []) (hf : fX7_tick_B15 v1 k31 M v2 b15 = some z0) : xG Y l X (wR Y ad fr) M 15 [(0, .ref (ad 0)), (1, .int v1), (2, .int v2)] [] := by
  unfold fX7_tick_B15 at hf
  refine x_ilN 16 C dX7_tick_15 2 rfl rfl rfl ?_
  refine x_ilN 17 C dX7_tick_16 1 rfl rfl rfl ?_
  refine x_icmp_ge 20 C 31 dX7_tick_17 (by decide) rfl hf (fun hf => ?_) (fun hf => ?_)
  ·
    refine x_sub [0] rfl ?_
    exact Hk31 _ hf
  ·
    refine x_alN 21 C dX7_tick_20 0 rfl rfl rfl ?_
    refine x_cvIM 24 C [] hwX7_tickOnce mq_801 dX7_tick_21 rfl ⟨Nat.le_of_ble_eq_true rfl, Nat.le_of_ble_eq_true rfl⟩ 0 wR_at_0 rfl rfl rfl (Nat.le_of_ble_eq_true rfl) (fun z hz => tX7_tickOnce hz) hf (fun z2 hf => ?_)
    refine x_isN 25 C 3 (lv2 := [(3, .int z2.1), (0, .ref (ad 0)), (1, .int v1), (2, .int v2)]) dX7_tick_24 rfl rfl (Nat.le_of_ble_eq_true rfl) rfl ?_
    refine x_iinc 28 C (v2 + (nI 1)) (lv2 := [(2, .int (v2 + (nI 1))), (3, .int z2.1), (0, .ref (ad 0)), (1, .int v1)]) dX7_tick_25 3 rfl rfl rfl (Nat.le_of_ble_eq_true rfl) rfl ?_
    refine x_goto 15 C dX7_tick_28 (by decide) ?_
    refine x_sub [2, 3, 0] rfl ?_
    exact Hb15 _ _ hf
set_option maxRecDepth 20000 in
set_option maxHeartbeats 1000000 in
theorem tX7_tick_L15 {l : Launch} {Y : xY} {X : xE} {ad : Nat → Nat} {fr : va_W} {z0 : Int32 × xM} (C : xC Y X cX7_tick RX7 (some .int) 4 5 122) (HQ : xRI Y X (wR Y ad fr) z0.1 z0.2)  (v1 : Int32) (k31 : xM → Option (Int32 × xM)) (Hk31 : ∀ (M : xM), k31 M = some z0 → xG Y l X (wR Y ad fr) M 31 [(0, .ref (ad 0))] []) : ∀ (n : Nat) (M : xM) (v2 : Int32), fX7_tick_L15 v1 k31 n M v2 = some z0 → xG Y l X (wR Y ad fr) M 15 [(0, .ref (ad 0)), (1, .int v1), (2, .int v2)] [] := by
  intro n
  induction n with
  | zero =>
    intro M v2 hf
    cases hf
  | succ n ih =>
    intro M v2 hf
    exact tX7_tick_B15 C HQ  v1 _ Hk31 M v2 _ (fun M v2 hf => ih M v2 hf) hf
set_option maxRecDepth 20000 in
set_option maxHeartbeats 1000000 in
theorem tX7_tick {l : Launch} {Y : xY} {ad : Nat → Nat} {fr : va_W} {M : xM} {p1 : Int32} {z0 : Int32 × xM} (hf : fX7_tick M p1 = some z0) : xcI l Y (wR Y ad fr) yX7_tick cX7_tick 4 (some .int) 5 122 [.ref (ad 0), .int p1] M z0.1 z0.2 := by
  refine x_entryI [(0, .ref (ad 0)), (1, .int p1)] pnX7 rfl (Nat.le_of_ble_eq_true rfl) rfl (fun X C HQ => ?_)
  unfold fX7_tick at hf
  refine x_ilN 1 C dX7_tick_0 1 rfl rfl rfl ?_
  refine x_iconst 2 C (nI 1) dX7_tick_1 ki_1 rfl ?_
  refine x_bipush 4 C (nI 50) dX7_tick_2 kb_50 rfl ?_
  refine x_csIP 7 C [.int p1, .int (nI 1), .int (nI 50)] hwX7_in mq_722 dX7_tick_4 rfl ⟨Nat.le_of_ble_eq_true rfl, Nat.le_of_ble_eq_true rfl⟩ rfl rfl (Nat.le_of_ble_eq_true rfl) (fun z hz => tX7_in hz) hf (fun z1 hf => ?_)
  refine x_if_ne 10 C 13 dX7_tick_7 (by decide) rfl hf (fun hf => ?_) (fun hf => ?_)
  ·
    refine x_iconst 14 C (nI 0) dX7_tick_13 ki_0 rfl ?_
    refine x_isN 15 C 2 (lv2 := [(2, .int (nI 0)), (0, .ref (ad 0)), (1, .int p1)]) dX7_tick_14 rfl rfl (Nat.le_of_ble_eq_true rfl) rfl ?_
    refine x_sub [1, 2, 0] rfl ?_
    refine tX7_tick_L15 C HQ _ _ (fun M3 hf => ?_) 512 _ _ hf
    refine x_alN 32 C dX7_tick_31 0 rfl rfl rfl ?_
    refine xgX7_0 35 C mq_668 dX7_tick_32 rfl ?_
    refine x_iconst 36 C (nI 4) dX7_tick_35 ki_4 rfl ?_
    refine xrR_1 37 C dX7_tick_36 rfl hf (fun x4 hf => ?_)
    exact x_iretM C HQ rfl (vp_nar_int _) dX7_tick_37 hf
  ·
    refine x_bipush 12 C (-5) dX7_tick_10 kb_m5 rfl ?_
    exact x_iretM C HQ rfl (vp_nar_int _) dX7_tick_12 hf
set_option maxRecDepth 20000 in
set_option maxHeartbeats 1000000 in
theorem tX7_settle_j38 {l : Launch} {Y : xY} {X : xE} {ad : Nat → Nat} {fr : va_W} {z0 : Int32 × xM} (C : xC Y X cX7_settle RX7 (some .int) 4 5 122) (HQ : xRI Y X (wR Y ad fr) z0.1 z0.2) (M : xM) (v1 : Int32) (v3 : Int32) (s0 : Int32) (b19 : xM → Int32 → Int32 → Option (Int32 × xM)) (Hb19 : ∀ (M : xM) (v2 : Int32) (v3 : Int32), b19 M v2 v3 = some z0 → xG Y l X (wR Y ad fr) M 19 [(0, .ref (ad 0)), (1, .int v1), (2, .int v2), (3, .int v3)] []) (hf : fX7_settle_j38 M v1 v3 s0 b19 = some z0) : xG Y l X (wR Y ad fr) M 38 [(0, .ref (ad 0)), (1, .int v1), (3, .int v3)] [.int s0] := by
  unfold fX7_settle_j38 at hf
  refine x_isN 39 C 2 (lv2 := [(2, .int s0), (0, .ref (ad 0)), (1, .int v1), (3, .int v3)]) dX7_settle_38 rfl rfl (Nat.le_of_ble_eq_true rfl) rfl ?_
  refine x_ilN 40 C dX7_settle_39 0 rfl rfl rfl ?_
  refine x_bipush 42 C (nI 8) dX7_settle_40 kb_8 rfl ?_
  refine x_icmp_ne 45 C 47 dX7_settle_42 (by decide) rfl hf (fun hf => ?_) (fun hf => ?_)
  ·
    refine x_iinc 50 C (v3 + (nI 1)) (lv2 := [(3, .int (v3 + (nI 1))), (2, .int s0), (0, .ref (ad 0)), (1, .int v1)]) dX7_settle_47 3 rfl rfl rfl (Nat.le_of_ble_eq_true rfl) rfl ?_
    refine x_goto 19 C dX7_settle_50 (by decide) ?_
    refine x_sub [2, 3, 1, 0] rfl ?_
    exact Hb19 _ _ _ hf
  ·
    refine x_ilN 46 C dX7_settle_45 3 rfl rfl rfl ?_
    exact x_iretM C HQ rfl (vp_nar_int _) dX7_settle_46 hf
set_option maxRecDepth 20000 in
set_option maxHeartbeats 1000000 in
theorem tX7_settle_B19 {l : Launch} {Y : xY} {X : xE} {ad : Nat → Nat} {fr : va_W} {z0 : Int32 × xM} (C : xC Y X cX7_settle RX7 (some .int) 4 5 122) (HQ : xRI Y X (wR Y ad fr) z0.1 z0.2)  (v1 : Int32) (k53 : xM → Option (Int32 × xM)) (Hk53 : ∀ (M : xM), k53 M = some z0 → xG Y l X (wR Y ad fr) M 53 [] []) (M : xM) (v2 : Int32) (v3 : Int32) (b19 : xM → Int32 → Int32 → Option (Int32 × xM)) (Hb19 : ∀ (M : xM) (v2 : Int32) (v3 : Int32), b19 M v2 v3 = some z0 → xG Y l X (wR Y ad fr) M 19 [(0, .ref (ad 0)), (1, .int v1), (2, .int v2), (3, .int v3)] []) (hf : fX7_settle_B19 v1 k53 M v2 v3 b19 = some z0) : xG Y l X (wR Y ad fr) M 19 [(0, .ref (ad 0)), (1, .int v1), (2, .int v2), (3, .int v3)] [] := by
  unfold fX7_settle_B19 at hf
  refine x_ilN 20 C dX7_settle_19 3 rfl rfl rfl ?_
  refine x_ilN 21 C dX7_settle_20 1 rfl rfl rfl ?_
  refine x_icmp_gt 24 C 53 dX7_settle_21 (by decide) rfl hf (fun hf => ?_) (fun hf => ?_)
  ·
    refine x_sub [] rfl ?_
    exact Hk53 _ hf
  ·
    refine x_alN 25 C dX7_settle_24 0 rfl rfl rfl ?_
    refine x_cvIM 28 C [] hwX7_tickOnce mq_801 dX7_settle_25 rfl ⟨Nat.le_of_ble_eq_true rfl, Nat.le_of_ble_eq_true rfl⟩ 0 wR_at_0 rfl rfl rfl (Nat.le_of_ble_eq_true rfl) (fun z hz => tX7_tickOnce hz) hf (fun z2 hf => ?_)
    refine x_if_eq 31 C 35 dX7_settle_28 (by decide) rfl hf (fun hf => ?_) (fun hf => ?_)
    ·
      refine x_ilN 36 C dX7_settle_35 2 rfl rfl rfl ?_
      refine x_iconst 37 C (nI 1) dX7_settle_36 ki_1 rfl ?_
      refine x_iadd 38 C dX7_settle_37 rfl ?_
      refine x_sub [0, 1, 3] rfl ?_
      exact tX7_settle_j38 C HQ _ _ _ _ _ Hb19 hf
    ·
      refine x_iconst 32 C (nI 0) dX7_settle_31 ki_0 rfl ?_
      refine x_goto 38 C dX7_settle_32 (by decide) ?_
      refine x_sub [0, 1, 3] rfl ?_
      exact tX7_settle_j38 C HQ _ _ _ _ _ Hb19 hf
set_option maxRecDepth 20000 in
set_option maxHeartbeats 1000000 in
theorem tX7_settle_L19 {l : Launch} {Y : xY} {X : xE} {ad : Nat → Nat} {fr : va_W} {z0 : Int32 × xM} (C : xC Y X cX7_settle RX7 (some .int) 4 5 122) (HQ : xRI Y X (wR Y ad fr) z0.1 z0.2)  (v1 : Int32) (k53 : xM → Option (Int32 × xM)) (Hk53 : ∀ (M : xM), k53 M = some z0 → xG Y l X (wR Y ad fr) M 53 [] []) : ∀ (n : Nat) (M : xM) (v2 : Int32) (v3 : Int32), fX7_settle_L19 v1 k53 n M v2 v3 = some z0 → xG Y l X (wR Y ad fr) M 19 [(0, .ref (ad 0)), (1, .int v1), (2, .int v2), (3, .int v3)] [] := by
  intro n
  induction n with
  | zero =>
    intro M v2 v3 hf
    cases hf
  | succ n ih =>
    intro M v2 v3 hf
    exact tX7_settle_B19 C HQ  v1 _ Hk53 M v2 v3 _ (fun M v2 v3 hf => ih M v2 v3 hf) hf
set_option maxRecDepth 20000 in
set_option maxHeartbeats 1000000 in
theorem tX7_settle {l : Launch} {Y : xY} {ad : Nat → Nat} {fr : va_W} {M : xM} {p1 : Int32} {z0 : Int32 × xM} (hf : fX7_settle M p1 = some z0) : xcI l Y (wR Y ad fr) yX7_settle cX7_settle 4 (some .int) 5 122 [.ref (ad 0), .int p1] M z0.1 z0.2 := by
  refine x_entryI [(0, .ref (ad 0)), (1, .int p1)] pnX7 rfl (Nat.le_of_ble_eq_true rfl) rfl (fun X C HQ => ?_)
  unfold fX7_settle at hf
  refine x_ilN 1 C dX7_settle_0 1 rfl rfl rfl ?_
  refine x_bipush 3 C (nI 8) dX7_settle_1 kb_8 rfl ?_
  refine x_sipush 6 C (nI 200) dX7_settle_3 ks_200 rfl ?_
  refine x_csIP 9 C [.int p1, .int (nI 8), .int (nI 200)] hwX7_in mq_722 dX7_settle_6 rfl ⟨Nat.le_of_ble_eq_true rfl, Nat.le_of_ble_eq_true rfl⟩ rfl rfl (Nat.le_of_ble_eq_true rfl) (fun z hz => tX7_in hz) hf (fun z1 hf => ?_)
  refine x_if_ne 12 C 15 dX7_settle_9 (by decide) rfl hf (fun hf => ?_) (fun hf => ?_)
  ·
    refine x_iconst 16 C (nI 0) dX7_settle_15 ki_0 rfl ?_
    refine x_isN 17 C 2 (lv2 := [(2, .int (nI 0)), (0, .ref (ad 0)), (1, .int p1)]) dX7_settle_16 rfl rfl (Nat.le_of_ble_eq_true rfl) rfl ?_
    refine x_iconst 18 C (nI 1) dX7_settle_17 ki_1 rfl ?_
    refine x_isN 19 C 3 (lv2 := [(3, .int (nI 1)), (2, .int (nI 0)), (0, .ref (ad 0)), (1, .int p1)]) dX7_settle_18 rfl rfl (Nat.le_of_ble_eq_true rfl) rfl ?_
    refine x_sub [2, 3, 1, 0] rfl ?_
    refine tX7_settle_L19 C HQ _ _ (fun M3 hf => ?_) 512 _ _ _ hf
    refine x_bipush 55 C (-7) dX7_settle_53 kb_m7 rfl ?_
    exact x_iretM C HQ rfl (vp_nar_int _) dX7_settle_55 hf
  ·
    refine x_bipush 14 C (-5) dX7_settle_12 kb_m5 rfl ?_
    exact x_iretM C HQ rfl (vp_nar_int _) dX7_settle_14 hf
set_option maxRecDepth 20000 in
set_option maxHeartbeats 1000000 in
theorem tX7_identifier {l : Launch} {Y : xY} {ad : Nat → Nat} {fr : va_W} {M : xM} {p1 : Int32} {z0 : Int32} (hf : fX7_identifier M p1 = some z0) : xcI l Y (wR Y ad fr) yX7_identifier cX7_identifier 2 (some .int) 2 43 [.ref (ad 0), .int p1] M z0 M := by
  refine x_entryI [(0, .ref (ad 0)), (1, .int p1)] pnX7 rfl (Nat.le_of_ble_eq_true rfl) rfl (fun X C HQ => ?_)
  unfold fX7_identifier at hf
  refine x_alN 1 C dX7_identifier_0 0 rfl rfl rfl ?_
  refine x_ilN 2 C dX7_identifier_1 1 rfl rfl rfl ?_
  refine x_cvIP 5 C [.int p1] hwX7_isBridge mq_733 dX7_identifier_2 rfl ⟨Nat.le_of_ble_eq_true rfl, Nat.le_of_ble_eq_true rfl⟩ 0 wR_at_0 rfl rfl rfl (Nat.le_of_ble_eq_true rfl) (fun z hz => tX7_isBridge hz) hf (fun z1 hf => ?_)
  refine x_if_eq 8 C 16 dX7_identifier_5 (by decide) rfl hf (fun hf => ?_) (fun hf => ?_)
  ·
    refine x_iconst 17 C (-1) dX7_identifier_16 ki_m1 rfl ?_
    exact x_iretP C HQ rfl (vp_nar_int _) dX7_identifier_17 hf
  ·
    refine x_alN 9 C dX7_identifier_8 0 rfl rfl rfl ?_
    refine x_ilN 10 C dX7_identifier_9 1 rfl rfl rfl ?_
    refine x_cvIP 13 C [.int p1] hwX7_idOf mq_821 dX7_identifier_10 rfl ⟨Nat.le_of_ble_eq_true rfl, Nat.le_of_ble_eq_true rfl⟩ 0 wR_at_0 rfl rfl rfl (Nat.le_of_ble_eq_true rfl) (fun z hz => tX7_idOf hz) hf (fun z2 hf => ?_)
    refine x_goto 17 C dX7_identifier_13 (by decide) ?_
    exact x_iretP C HQ rfl (vp_nar_int _) dX7_identifier_17 hf
set_option maxRecDepth 20000 in
set_option maxHeartbeats 1000000 in
theorem tX7_isUp {l : Launch} {Y : xY} {ad : Nat → Nat} {fr : va_W} {M : xM} {p1 : Int32} {z0 : Int32} (hf : fX7_isUp M p1 = some z0) : xcI l Y (wR Y ad fr) yX7_isUp cX7_isUp 2 (some .boolean) 0 0 [.ref (ad 0), .int p1] M z0 M := by
  refine x_entryI [(0, .ref (ad 0)), (1, .int p1)] pnX7 rfl (Nat.le_of_ble_eq_true rfl) rfl (fun X C HQ => ?_)
  unfold fX7_isUp at hf
  refine x_alN 1 C dX7_isUp_0 0 rfl rfl rfl ?_
  refine xgX7_0 4 C mq_668 dX7_isUp_1 rfl ?_
  refine x_bipush 6 C (nI 13) dX7_isUp_4 kb_13 rfl ?_
  refine x_ilN 7 C dX7_isUp_6 1 rfl rfl rfl ?_
  refine x_iadd 8 C dX7_isUp_7 rfl ?_
  refine xrR_1 9 C dX7_isUp_8 rfl hf (fun x1 hf => ?_)
  refine x_iconst 10 C (nI 1) dX7_isUp_9 ki_1 rfl ?_
  refine x_icmp_ne 13 C 17 dX7_isUp_10 (by decide) rfl hf (fun hf => ?_) (fun hf => ?_)
  ·
    refine x_iconst 18 C (nI 0) dX7_isUp_17 ki_0 rfl ?_
    exact x_iretP C HQ rfl rfl dX7_isUp_18 hf
  ·
    refine x_iconst 14 C (nI 1) dX7_isUp_13 ki_1 rfl ?_
    refine x_goto 18 C dX7_isUp_14 (by decide) ?_
    exact x_iretP C HQ rfl rfl dX7_isUp_18 hf
set_option maxRecDepth 20000 in
set_option maxHeartbeats 1000000 in
theorem tX7_root {l : Launch} {Y : xY} {ad : Nat → Nat} {fr : va_W} {M : xM} {p1 : Int32} {z0 : Int32 × xM} (hf : fX7_root M p1 = some z0) : xcI l Y (wR Y ad fr) yX7_root cX7_root 2 (some .int) 4 92 [.ref (ad 0), .int p1] M z0.1 z0.2 := by
  refine x_entryI [(0, .ref (ad 0)), (1, .int p1)] pnX7 rfl (Nat.le_of_ble_eq_true rfl) rfl (fun X C HQ => ?_)
  unfold fX7_root at hf
  refine x_alN 1 C dX7_root_0 0 rfl rfl rfl ?_
  refine x_ilN 2 C dX7_root_1 1 rfl rfl rfl ?_
  refine x_cvIP 5 C [.int p1] hwX7_isBridge mq_733 dX7_root_2 rfl ⟨Nat.le_of_ble_eq_true rfl, Nat.le_of_ble_eq_true rfl⟩ 0 wR_at_0 rfl rfl rfl (Nat.le_of_ble_eq_true rfl) (fun z hz => tX7_isBridge hz) hf (fun z1 hf => ?_)
  refine x_if_ne 8 C 10 dX7_root_5 (by decide) rfl hf (fun hf => ?_) (fun hf => ?_)
  ·
    refine x_alN 11 C dX7_root_10 0 rfl rfl rfl ?_
    refine x_cvVM 14 C [] hwX7_layRoles mq_805 dX7_root_11 rfl ⟨Nat.le_of_ble_eq_true rfl, Nat.le_of_ble_eq_true rfl⟩ 0 wR_at_0 rfl rfl rfl (Nat.le_of_ble_eq_true rfl) (fun z hz => tX7_layRoles hz) hf (fun z2 hf => ?_)
    refine x_alN 15 C dX7_root_14 0 rfl rfl rfl ?_
    refine x_ilN 16 C dX7_root_15 1 rfl rfl rfl ?_
    refine x_cvIP 19 C [.int p1] hwX7_isUp mq_872 dX7_root_16 rfl ⟨Nat.le_of_ble_eq_true rfl, Nat.le_of_ble_eq_true rfl⟩ 0 wR_at_0 rfl rfl rfl (Nat.le_of_ble_eq_true rfl) (fun z hz => tX7_isUp hz) hf (fun z3 hf => ?_)
    refine x_if_eq 22 C 31 dX7_root_19 (by decide) rfl hf (fun hf => ?_) (fun hf => ?_)
    ·
      refine x_bipush 33 C (-9) dX7_root_31 kb_m9 rfl ?_
      exact x_iretM C HQ rfl (vp_nar_int _) dX7_root_33 hf
    ·
      refine x_alN 23 C dX7_root_22 0 rfl rfl rfl ?_
      refine xgX7_5 26 C mq_673 dX7_root_23 rfl ?_
      refine x_ilN 27 C dX7_root_26 1 rfl rfl rfl ?_
      refine xrR_6 28 C dX7_root_27 rfl hf (fun x4 hf => ?_)
      refine x_goto 33 C dX7_root_28 (by decide) ?_
      exact x_iretM C HQ rfl (vp_nar_int _) dX7_root_33 hf
  ·
    refine x_iconst 9 C (-1) dX7_root_8 ki_m1 rfl ?_
    exact x_iretM C HQ rfl (vp_nar_int _) dX7_root_9 hf
set_option maxRecDepth 20000 in
set_option maxHeartbeats 1000000 in
theorem tX7_rootCost {l : Launch} {Y : xY} {ad : Nat → Nat} {fr : va_W} {M : xM} {p1 : Int32} {z0 : Int32 × xM} (hf : fX7_rootCost M p1 = some z0) : xcI l Y (wR Y ad fr) yX7_rootCost cX7_rootCost 2 (some .int) 4 92 [.ref (ad 0), .int p1] M z0.1 z0.2 := by
  refine x_entryI [(0, .ref (ad 0)), (1, .int p1)] pnX7 rfl (Nat.le_of_ble_eq_true rfl) rfl (fun X C HQ => ?_)
  unfold fX7_rootCost at hf
  refine x_alN 1 C dX7_rootCost_0 0 rfl rfl rfl ?_
  refine x_ilN 2 C dX7_rootCost_1 1 rfl rfl rfl ?_
  refine x_cvIP 5 C [.int p1] hwX7_isBridge mq_733 dX7_rootCost_2 rfl ⟨Nat.le_of_ble_eq_true rfl, Nat.le_of_ble_eq_true rfl⟩ 0 wR_at_0 rfl rfl rfl (Nat.le_of_ble_eq_true rfl) (fun z hz => tX7_isBridge hz) hf (fun z1 hf => ?_)
  refine x_if_ne 8 C 10 dX7_rootCost_5 (by decide) rfl hf (fun hf => ?_) (fun hf => ?_)
  ·
    refine x_alN 11 C dX7_rootCost_10 0 rfl rfl rfl ?_
    refine x_cvVM 14 C [] hwX7_layRoles mq_805 dX7_rootCost_11 rfl ⟨Nat.le_of_ble_eq_true rfl, Nat.le_of_ble_eq_true rfl⟩ 0 wR_at_0 rfl rfl rfl (Nat.le_of_ble_eq_true rfl) (fun z hz => tX7_layRoles hz) hf (fun z2 hf => ?_)
    refine x_alN 15 C dX7_rootCost_14 0 rfl rfl rfl ?_
    refine x_ilN 16 C dX7_rootCost_15 1 rfl rfl rfl ?_
    refine x_cvIP 19 C [.int p1] hwX7_isUp mq_872 dX7_rootCost_16 rfl ⟨Nat.le_of_ble_eq_true rfl, Nat.le_of_ble_eq_true rfl⟩ 0 wR_at_0 rfl rfl rfl (Nat.le_of_ble_eq_true rfl) (fun z hz => tX7_isUp hz) hf (fun z3 hf => ?_)
    refine x_if_eq 22 C 31 dX7_rootCost_19 (by decide) rfl hf (fun hf => ?_) (fun hf => ?_)
    ·
      refine x_bipush 33 C (-9) dX7_rootCost_31 kb_m9 rfl ?_
      exact x_iretM C HQ rfl (vp_nar_int _) dX7_rootCost_33 hf
    ·
      refine x_alN 23 C dX7_rootCost_22 0 rfl rfl rfl ?_
      refine xgX7_6 26 C mq_674 dX7_rootCost_23 rfl ?_
      refine x_ilN 27 C dX7_rootCost_26 1 rfl rfl rfl ?_
      refine xrR_7 28 C dX7_rootCost_27 rfl hf (fun x4 hf => ?_)
      refine x_goto 33 C dX7_rootCost_28 (by decide) ?_
      exact x_iretM C HQ rfl (vp_nar_int _) dX7_rootCost_33 hf
  ·
    refine x_iconst 9 C (-1) dX7_rootCost_8 ki_m1 rfl ?_
    exact x_iretM C HQ rfl (vp_nar_int _) dX7_rootCost_9 hf
set_option maxRecDepth 20000 in
set_option maxHeartbeats 1000000 in
theorem tX7_rootPort {l : Launch} {Y : xY} {ad : Nat → Nat} {fr : va_W} {M : xM} {p1 : Int32} {z0 : Int32 × xM} (hf : fX7_rootPort M p1 = some z0) : xcI l Y (wR Y ad fr) yX7_rootPort cX7_rootPort 2 (some .int) 4 92 [.ref (ad 0), .int p1] M z0.1 z0.2 := by
  refine x_entryI [(0, .ref (ad 0)), (1, .int p1)] pnX7 rfl (Nat.le_of_ble_eq_true rfl) rfl (fun X C HQ => ?_)
  unfold fX7_rootPort at hf
  refine x_alN 1 C dX7_rootPort_0 0 rfl rfl rfl ?_
  refine x_ilN 2 C dX7_rootPort_1 1 rfl rfl rfl ?_
  refine x_cvIP 5 C [.int p1] hwX7_isBridge mq_733 dX7_rootPort_2 rfl ⟨Nat.le_of_ble_eq_true rfl, Nat.le_of_ble_eq_true rfl⟩ 0 wR_at_0 rfl rfl rfl (Nat.le_of_ble_eq_true rfl) (fun z hz => tX7_isBridge hz) hf (fun z1 hf => ?_)
  refine x_if_ne 8 C 10 dX7_rootPort_5 (by decide) rfl hf (fun hf => ?_) (fun hf => ?_)
  ·
    refine x_alN 11 C dX7_rootPort_10 0 rfl rfl rfl ?_
    refine x_cvVM 14 C [] hwX7_layRoles mq_805 dX7_rootPort_11 rfl ⟨Nat.le_of_ble_eq_true rfl, Nat.le_of_ble_eq_true rfl⟩ 0 wR_at_0 rfl rfl rfl (Nat.le_of_ble_eq_true rfl) (fun z hz => tX7_layRoles hz) hf (fun z2 hf => ?_)
    refine x_alN 15 C dX7_rootPort_14 0 rfl rfl rfl ?_
    refine xgX7_4 18 C mq_672 dX7_rootPort_15 rfl ?_
    refine x_ilN 19 C dX7_rootPort_18 1 rfl rfl rfl ?_
    refine xrR_5 20 C dX7_rootPort_19 rfl hf (fun x3 hf => ?_)
    exact x_iretM C HQ rfl (vp_nar_int _) dX7_rootPort_20 hf
  ·
    refine x_iconst 9 C (-1) dX7_rootPort_8 ki_m1 rfl ?_
    exact x_iretM C HQ rfl (vp_nar_int _) dX7_rootPort_9 hf
set_option maxRecDepth 20000 in
set_option maxHeartbeats 1000000 in
theorem tX7_role {l : Launch} {Y : xY} {ad : Nat → Nat} {fr : va_W} {M : xM} {p1 : Int32} {z0 : Int32 × xM} (hf : fX7_role M p1 = some z0) : xcI l Y (wR Y ad fr) yX7_role cX7_role 2 (some .int) 4 92 [.ref (ad 0), .int p1] M z0.1 z0.2 := by
  refine x_entryI [(0, .ref (ad 0)), (1, .int p1)] pnX7 rfl (Nat.le_of_ble_eq_true rfl) rfl (fun X C HQ => ?_)
  unfold fX7_role at hf
  refine x_alN 1 C dX7_role_0 0 rfl rfl rfl ?_
  refine x_ilN 2 C dX7_role_1 1 rfl rfl rfl ?_
  refine x_cvIP 5 C [.int p1] hwX7_isPort mq_769 dX7_role_2 rfl ⟨Nat.le_of_ble_eq_true rfl, Nat.le_of_ble_eq_true rfl⟩ 0 wR_at_0 rfl rfl rfl (Nat.le_of_ble_eq_true rfl) (fun z hz => tX7_isPort hz) hf (fun z1 hf => ?_)
  refine x_if_ne 8 C 11 dX7_role_5 (by decide) rfl hf (fun hf => ?_) (fun hf => ?_)
  ·
    refine x_alN 12 C dX7_role_11 0 rfl rfl rfl ?_
    refine x_cvVM 15 C [] hwX7_layRoles mq_805 dX7_role_12 rfl ⟨Nat.le_of_ble_eq_true rfl, Nat.le_of_ble_eq_true rfl⟩ 0 wR_at_0 rfl rfl rfl (Nat.le_of_ble_eq_true rfl) (fun z hz => tX7_layRoles hz) hf (fun z2 hf => ?_)
    refine x_alN 16 C dX7_role_15 0 rfl rfl rfl ?_
    refine xgX7_7 19 C mq_675 dX7_role_16 rfl ?_
    refine x_ilN 20 C dX7_role_19 1 rfl rfl rfl ?_
    refine xrR_8 21 C dX7_role_20 rfl hf (fun x3 hf => ?_)
    exact x_iretM C HQ rfl (vp_nar_int _) dX7_role_21 hf
  ·
    refine x_bipush 10 C (-3) dX7_role_8 kb_m3 rfl ?_
    exact x_iretM C HQ rfl (vp_nar_int _) dX7_role_10 hf
set_option maxRecDepth 20000 in
set_option maxHeartbeats 1000000 in
theorem tX7_state {l : Launch} {Y : xY} {ad : Nat → Nat} {fr : va_W} {M : xM} {p1 : Int32} {z0 : Int32} (hf : fX7_state M p1 = some z0) : xcI l Y (wR Y ad fr) yX7_state cX7_state 2 (some .int) 2 43 [.ref (ad 0), .int p1] M z0 M := by
  refine x_entryI [(0, .ref (ad 0)), (1, .int p1)] pnX7 rfl (Nat.le_of_ble_eq_true rfl) rfl (fun X C HQ => ?_)
  unfold fX7_state at hf
  refine x_alN 1 C dX7_state_0 0 rfl rfl rfl ?_
  refine x_ilN 2 C dX7_state_1 1 rfl rfl rfl ?_
  refine x_cvIP 5 C [.int p1] hwX7_isPort mq_769 dX7_state_2 rfl ⟨Nat.le_of_ble_eq_true rfl, Nat.le_of_ble_eq_true rfl⟩ 0 wR_at_0 rfl rfl rfl (Nat.le_of_ble_eq_true rfl) (fun z hz => tX7_isPort hz) hf (fun z1 hf => ?_)
  refine x_if_eq 8 C 20 dX7_state_5 (by decide) rfl hf (fun hf => ?_) (fun hf => ?_)
  ·
    refine x_bipush 22 C (-3) dX7_state_20 kb_m3 rfl ?_
    exact x_iretP C HQ rfl (vp_nar_int _) dX7_state_22 hf
  ·
    refine x_alN 9 C dX7_state_8 0 rfl rfl rfl ?_
    refine xgX7_0 12 C mq_668 dX7_state_9 rfl ?_
    refine x_bipush 14 C (nI 117) dX7_state_12 kb_117 rfl ?_
    refine x_ilN 15 C dX7_state_14 1 rfl rfl rfl ?_
    refine x_iadd 16 C dX7_state_15 rfl ?_
    refine xrR_1 17 C dX7_state_16 rfl hf (fun x2 hf => ?_)
    refine x_goto 22 C dX7_state_17 (by decide) ?_
    exact x_iretP C HQ rfl (vp_nar_int _) dX7_state_22 hf
set_option maxRecDepth 20000 in
set_option maxHeartbeats 1000000 in
theorem tX7_stored {l : Launch} {Y : xY} {ad : Nat → Nat} {fr : va_W} {M : xM} {p1 : Int32} {p2 : Int32} {z0 : Int32} (hf : fX7_stored M p1 p2 = some z0) : xcI l Y (wR Y ad fr) yX7_stored cX7_stored 3 (some .int) 2 43 [.ref (ad 0), .int p1, .int p2] M z0 M := by
  refine x_entryI [(0, .ref (ad 0)), (1, .int p1), (2, .int p2)] pnX7 rfl (Nat.le_of_ble_eq_true rfl) rfl (fun X C HQ => ?_)
  unfold fX7_stored at hf
  refine x_alN 1 C dX7_stored_0 0 rfl rfl rfl ?_
  refine x_ilN 2 C dX7_stored_1 1 rfl rfl rfl ?_
  refine x_cvIP 5 C [.int p1] hwX7_isPort mq_769 dX7_stored_2 rfl ⟨Nat.le_of_ble_eq_true rfl, Nat.le_of_ble_eq_true rfl⟩ 0 wR_at_0 rfl rfl rfl (Nat.le_of_ble_eq_true rfl) (fun z hz => tX7_isPort hz) hf (fun z1 hf => ?_)
  refine x_if_ne 8 C 11 dX7_stored_5 (by decide) rfl hf (fun hf => ?_) (fun hf => ?_)
  ·
    refine x_ilN 12 C dX7_stored_11 2 rfl rfl rfl ?_
    refine x_iconst 13 C (nI 0) dX7_stored_12 ki_0 rfl ?_
    refine x_iconst 14 C (nI 4) dX7_stored_13 ki_4 rfl ?_
    refine x_csIP 17 C [.int p2, .int (nI 0), .int (nI 4)] hwX7_in mq_722 dX7_stored_14 rfl ⟨Nat.le_of_ble_eq_true rfl, Nat.le_of_ble_eq_true rfl⟩ rfl rfl (Nat.le_of_ble_eq_true rfl) (fun z hz => tX7_in hz) hf (fun z2 hf => ?_)
    refine x_if_ne 20 C 23 dX7_stored_17 (by decide) rfl hf (fun hf => ?_) (fun hf => ?_)
    ·
      refine x_alN 24 C dX7_stored_23 0 rfl rfl rfl ?_
      refine x_ilN 25 C dX7_stored_24 1 rfl rfl rfl ?_
      refine x_cvIP 28 C [.int p1] hwX7_stores mq_813 dX7_stored_25 rfl ⟨Nat.le_of_ble_eq_true rfl, Nat.le_of_ble_eq_true rfl⟩ 0 wR_at_0 rfl rfl rfl (Nat.le_of_ble_eq_true rfl) (fun z hz => tX7_stores hz) hf (fun z3 hf => ?_)
      refine x_if_eq 31 C 40 dX7_stored_28 (by decide) rfl hf (fun hf => ?_) (fun hf => ?_)
      ·
        refine x_bipush 42 C (-9) dX7_stored_40 kb_m9 rfl ?_
        exact x_iretP C HQ rfl (vp_nar_int _) dX7_stored_42 hf
      ·
        refine x_alN 32 C dX7_stored_31 0 rfl rfl rfl ?_
        refine x_ilN 33 C dX7_stored_32 1 rfl rfl rfl ?_
        refine x_ilN 34 C dX7_stored_33 2 rfl rfl rfl ?_
        refine x_cvIP 37 C [.int p1, .int p2] hwX7_message mq_817 dX7_stored_34 rfl ⟨Nat.le_of_ble_eq_true rfl, Nat.le_of_ble_eq_true rfl⟩ 0 wR_at_0 rfl rfl rfl (Nat.le_of_ble_eq_true rfl) (fun z hz => tX7_message hz) hf (fun z4 hf => ?_)
        refine x_goto 42 C dX7_stored_37 (by decide) ?_
        exact x_iretP C HQ rfl (vp_nar_int _) dX7_stored_42 hf
    ·
      refine x_bipush 22 C (-5) dX7_stored_20 kb_m5 rfl ?_
      exact x_iretP C HQ rfl (vp_nar_int _) dX7_stored_22 hf
  ·
    refine x_bipush 10 C (-3) dX7_stored_8 kb_m3 rfl ?_
    exact x_iretP C HQ rfl (vp_nar_int _) dX7_stored_10 hf
set_option maxRecDepth 20000 in
set_option maxHeartbeats 1000000 in
theorem tX7_portsIn_j45 {l : Launch} {Y : xY} {X : xE} {ad : Nat → Nat} {fr : va_W} {M0 : xM} {z0 : Int32} (C : xC Y X cX7_portsIn RX7 (some .int) 4 1 22) (HQ : xRI Y X (wR Y ad fr) z0 M0) (v1 : Int32) (v3 : Int32) (s0 : Int32) (s1 : Int32) (b16 : Int32 → Int32 → Option (Int32)) (Hb16 : ∀ (v2 : Int32) (v3 : Int32), b16 v2 v3 = some z0 → xG Y l X (wR Y ad fr) M0 16 [(0, .ref (ad 0)), (1, .int v1), (2, .int v2), (3, .int v3)] []) (hf : fX7_portsIn_j45 M0 v1 v3 s0 s1 b16 = some z0) : xG Y l X (wR Y ad fr) M0 45 [(0, .ref (ad 0)), (1, .int v1), (3, .int v3)] [.int s0, .int s1] := by
  unfold fX7_portsIn_j45 at hf
  refine x_ior 46 C dX7_portsIn_45 rfl ?_
  refine x_isN 47 C 2 (lv2 := [(2, .int (s1 ||| s0)), (0, .ref (ad 0)), (1, .int v1), (3, .int v3)]) dX7_portsIn_46 rfl rfl (Nat.le_of_ble_eq_true rfl) rfl ?_
  refine x_iinc 50 C (v3 + (nI 1)) (lv2 := [(3, .int (v3 + (nI 1))), (2, .int (s1 ||| s0)), (0, .ref (ad 0)), (1, .int v1)]) dX7_portsIn_47 3 rfl rfl rfl (Nat.le_of_ble_eq_true rfl) rfl ?_
  refine x_goto 16 C dX7_portsIn_50 (by decide) ?_
  refine x_sub [2, 3, 1, 0] rfl ?_
  exact Hb16 _ _ hf
set_option maxRecDepth 20000 in
set_option maxHeartbeats 1000000 in
theorem tX7_portsIn_B16 {l : Launch} {Y : xY} {X : xE} {ad : Nat → Nat} {fr : va_W} {M0 : xM} {z0 : Int32} (C : xC Y X cX7_portsIn RX7 (some .int) 4 1 22) (HQ : xRI Y X (wR Y ad fr) z0 M0)  (v1 : Int32) (k53 : Int32 → Option (Int32)) (Hk53 : ∀ (v2 : Int32), k53 v2 = some z0 → xG Y l X (wR Y ad fr) M0 53 [(2, .int v2)] []) (v2 : Int32) (v3 : Int32) (b16 : Int32 → Int32 → Option (Int32)) (Hb16 : ∀ (v2 : Int32) (v3 : Int32), b16 v2 v3 = some z0 → xG Y l X (wR Y ad fr) M0 16 [(0, .ref (ad 0)), (1, .int v1), (2, .int v2), (3, .int v3)] []) (hf : fX7_portsIn_B16 M0 v1 k53 v2 v3 b16 = some z0) : xG Y l X (wR Y ad fr) M0 16 [(0, .ref (ad 0)), (1, .int v1), (2, .int v2), (3, .int v3)] [] := by
  unfold fX7_portsIn_B16 at hf
  refine x_ilN 17 C dX7_portsIn_16 3 rfl rfl rfl ?_
  refine x_alN 18 C dX7_portsIn_17 0 rfl rfl rfl ?_
  refine x_cvIP 21 C [] hwX7_ports mq_741 dX7_portsIn_18 rfl ⟨Nat.le_of_ble_eq_true rfl, Nat.le_of_ble_eq_true rfl⟩ 0 wR_at_0 rfl rfl rfl (Nat.le_of_ble_eq_true rfl) (fun z hz => tX7_ports hz) hf (fun z2 hf => ?_)
  refine x_icmp_ge 24 C 53 dX7_portsIn_21 (by decide) rfl hf (fun hf => ?_) (fun hf => ?_)
  ·
    refine x_sub [2] rfl ?_
    exact Hk53 _ hf
  ·
    refine x_ilN 25 C dX7_portsIn_24 2 rfl rfl rfl ?_
    refine x_alN 26 C dX7_portsIn_25 0 rfl rfl rfl ?_
    refine xgX7_0 29 C mq_668 dX7_portsIn_26 rfl ?_
    refine x_bipush 31 C (nI 117) dX7_portsIn_29 kb_117 rfl ?_
    refine x_ilN 32 C dX7_portsIn_31 3 rfl rfl rfl ?_
    refine x_iadd 33 C dX7_portsIn_32 rfl ?_
    refine xrR_1 34 C dX7_portsIn_33 rfl hf (fun x3 hf => ?_)
    refine x_ilN 35 C dX7_portsIn_34 1 rfl rfl rfl ?_
    refine x_icmp_ne 38 C 44 dX7_portsIn_35 (by decide) rfl hf (fun hf => ?_) (fun hf => ?_)
    ·
      refine x_iconst 45 C (nI 0) dX7_portsIn_44 ki_0 rfl ?_
      refine x_sub [0, 1, 3] rfl ?_
      exact tX7_portsIn_j45 C HQ  _ _ _ _ _ Hb16 hf
    ·
      refine x_iconst 39 C (nI 1) dX7_portsIn_38 ki_1 rfl ?_
      refine x_ilN 40 C dX7_portsIn_39 3 rfl rfl rfl ?_
      refine x_ishl 41 C dX7_portsIn_40 rfl ?_
      refine x_goto 45 C dX7_portsIn_41 (by decide) ?_
      refine x_sub [0, 1, 3] rfl ?_
      exact tX7_portsIn_j45 C HQ  _ _ _ _ _ Hb16 hf
set_option maxRecDepth 20000 in
set_option maxHeartbeats 1000000 in
theorem tX7_portsIn_L16 {l : Launch} {Y : xY} {X : xE} {ad : Nat → Nat} {fr : va_W} {M0 : xM} {z0 : Int32} (C : xC Y X cX7_portsIn RX7 (some .int) 4 1 22) (HQ : xRI Y X (wR Y ad fr) z0 M0)  (v1 : Int32) (k53 : Int32 → Option (Int32)) (Hk53 : ∀ (v2 : Int32), k53 v2 = some z0 → xG Y l X (wR Y ad fr) M0 53 [(2, .int v2)] []) : ∀ (n : Nat) (v2 : Int32) (v3 : Int32), fX7_portsIn_L16 M0 v1 k53 n v2 v3 = some z0 → xG Y l X (wR Y ad fr) M0 16 [(0, .ref (ad 0)), (1, .int v1), (2, .int v2), (3, .int v3)] [] := by
  intro n
  induction n with
  | zero =>
    intro v2 v3 hf
    cases hf
  | succ n ih =>
    intro v2 v3 hf
    exact tX7_portsIn_B16 C HQ  v1 _ Hk53 v2 v3 _ (fun v2 v3 hf => ih v2 v3 hf) hf
set_option maxRecDepth 20000 in
set_option maxHeartbeats 1000000 in
theorem tX7_portsIn {l : Launch} {Y : xY} {ad : Nat → Nat} {fr : va_W} {M : xM} {p1 : Int32} {z0 : Int32} (hf : fX7_portsIn M p1 = some z0) : xcI l Y (wR Y ad fr) yX7_portsIn cX7_portsIn 4 (some .int) 1 22 [.ref (ad 0), .int p1] M z0 M := by
  refine x_entryI [(0, .ref (ad 0)), (1, .int p1)] pnX7 rfl (Nat.le_of_ble_eq_true rfl) rfl (fun X C HQ => ?_)
  unfold fX7_portsIn at hf
  refine x_ilN 1 C dX7_portsIn_0 1 rfl rfl rfl ?_
  refine x_iconst 2 C (nI 0) dX7_portsIn_1 ki_0 rfl ?_
  refine x_iconst 3 C (nI 4) dX7_portsIn_2 ki_4 rfl ?_
  refine x_csIP 6 C [.int p1, .int (nI 0), .int (nI 4)] hwX7_in mq_722 dX7_portsIn_3 rfl ⟨Nat.le_of_ble_eq_true rfl, Nat.le_of_ble_eq_true rfl⟩ rfl rfl (Nat.le_of_ble_eq_true rfl) (fun z hz => tX7_in hz) hf (fun z1 hf => ?_)
  refine x_if_ne 9 C 12 dX7_portsIn_6 (by decide) rfl hf (fun hf => ?_) (fun hf => ?_)
  ·
    refine x_iconst 13 C (nI 0) dX7_portsIn_12 ki_0 rfl ?_
    refine x_isN 14 C 2 (lv2 := [(2, .int (nI 0)), (0, .ref (ad 0)), (1, .int p1)]) dX7_portsIn_13 rfl rfl (Nat.le_of_ble_eq_true rfl) rfl ?_
    refine x_iconst 15 C (nI 0) dX7_portsIn_14 ki_0 rfl ?_
    refine x_isN 16 C 3 (lv2 := [(3, .int (nI 0)), (2, .int (nI 0)), (0, .ref (ad 0)), (1, .int p1)]) dX7_portsIn_15 rfl rfl (Nat.le_of_ble_eq_true rfl) rfl ?_
    refine x_sub [2, 3, 1, 0] rfl ?_
    refine tX7_portsIn_L16 C HQ _ _ (fun v4 hf => ?_) 512 _ _ hf
    refine x_ilN 54 C dX7_portsIn_53 0 rfl rfl rfl ?_
    exact x_iretP C HQ rfl (vp_nar_int _) dX7_portsIn_54 hf
  ·
    refine x_bipush 11 C (-5) dX7_portsIn_9 kb_m5 rfl ?_
    exact x_iretP C HQ rfl (vp_nar_int _) dX7_portsIn_11 hf
set_option maxRecDepth 20000 in
set_option maxHeartbeats 1000000 in
theorem tX7_joinAll_B2 {l : Launch} {Y : xY} {X : xE} {ad : Nat → Nat} {fr : va_W} {z0 : Int32 × xM} (C : xC Y X cX7_joinAll RX7 (some .int) 6 1 21) (HQ : xRI Y X (wR Y ad fr) z0.1 z0.2)   (k21 : xM → Option (Int32 × xM)) (Hk21 : ∀ (M : xM), k21 M = some z0 → xG Y l X (wR Y ad fr) M 21 [(0, .ref (ad 0))] []) (M : xM) (v1 : Int32) (b2 : xM → Int32 → Option (Int32 × xM)) (Hb2 : ∀ (M : xM) (v1 : Int32), b2 M v1 = some z0 → xG Y l X (wR Y ad fr) M 2 [(0, .ref (ad 0)), (1, .int v1)] []) (hf : fX7_joinAll_B2 k21 M v1 b2 = some z0) : xG Y l X (wR Y ad fr) M 2 [(0, .ref (ad 0)), (1, .int v1)] [] := by
  unfold fX7_joinAll_B2 at hf
  refine x_ilN 3 C dX7_joinAll_2 1 rfl rfl rfl ?_
  refine x_bipush 5 C (nI 18) dX7_joinAll_3 kb_18 rfl ?_
  refine x_icmp_ge 8 C 21 dX7_joinAll_5 (by decide) rfl hf (fun hf => ?_) (fun hf => ?_)
  ·
    refine x_sub [0] rfl ?_
    exact Hk21 _ hf
  ·
    refine x_alN 9 C dX7_joinAll_8 0 rfl rfl rfl ?_
    refine xgX7_12 12 C mq_680 dX7_joinAll_9 rfl ?_
    refine x_ilN 13 C dX7_joinAll_12 1 rfl rfl rfl ?_
    refine x_ilN 14 C dX7_joinAll_13 1 rfl rfl rfl ?_
    refine xwR_13 15 C dX7_joinAll_14 rfl hf (fun M1 hf => ?_)
    refine x_iinc 18 C (v1 + (nI 1)) (lv2 := [(1, .int (v1 + (nI 1))), (0, .ref (ad 0))]) dX7_joinAll_15 1 rfl rfl rfl (Nat.le_of_ble_eq_true rfl) rfl ?_
    refine x_goto 2 C dX7_joinAll_18 (by decide) ?_
    refine x_sub [1, 0] rfl ?_
    exact Hb2 _ _ hf
set_option maxRecDepth 20000 in
set_option maxHeartbeats 1000000 in
theorem tX7_joinAll_L2 {l : Launch} {Y : xY} {X : xE} {ad : Nat → Nat} {fr : va_W} {z0 : Int32 × xM} (C : xC Y X cX7_joinAll RX7 (some .int) 6 1 21) (HQ : xRI Y X (wR Y ad fr) z0.1 z0.2)   (k21 : xM → Option (Int32 × xM)) (Hk21 : ∀ (M : xM), k21 M = some z0 → xG Y l X (wR Y ad fr) M 21 [(0, .ref (ad 0))] []) : ∀ (n : Nat) (M : xM) (v1 : Int32), fX7_joinAll_L2 k21 n M v1 = some z0 → xG Y l X (wR Y ad fr) M 2 [(0, .ref (ad 0)), (1, .int v1)] [] := by
  intro n
  induction n with
  | zero =>
    intro M v1 hf
    cases hf
  | succ n ih =>
    intro M v1 hf
    exact tX7_joinAll_B2 C HQ   _ Hk21 M v1 _ (fun M v1 hf => ih M v1 hf) hf
set_option maxRecDepth 20000 in
set_option maxHeartbeats 1000000 in
theorem tX7_joinAll_j118 {l : Launch} {Y : xY} {X : xE} {ad : Nat → Nat} {fr : va_W} {z0 : Int32 × xM} (C : xC Y X cX7_joinAll RX7 (some .int) 6 1 21) (HQ : xRI Y X (wR Y ad fr) z0.1 z0.2) (M : xM) (v1 : Int32) (v2 : Int32) (v3 : Int32) (v4 : Int32) (v5 : Int32) (s0 : Int32) (s1 : Int32) (b82 : xM → Int32 → Option (Int32 × xM)) (Hb82 : ∀ (M : xM) (v5 : Int32), b82 M v5 = some z0 → xG Y l X (wR Y ad fr) M 82 [(0, .ref (ad 0)), (1, .int v1), (2, .int v2), (3, .int v3), (4, .int v4), (5, .int v5)] []) (hf : fX7_joinAll_j118 M v1 v2 v3 v4 v5 s0 s1 b82 = some z0) : xG Y l X (wR Y ad fr) M 118 [(0, .ref (ad 0)), (1, .int v1), (2, .int v2), (3, .int v3), (4, .int v4), (5, .int v5)] [.int s0, .int s1, .ref (ad 13)] := by
  unfold fX7_joinAll_j118 at hf
  refine xwR_13 119 C dX7_joinAll_118 rfl hf (fun M11 hf => ?_)
  refine x_iinc 122 C (v5 + (nI 1)) (lv2 := [(5, .int (v5 + (nI 1))), (0, .ref (ad 0)), (1, .int v1), (2, .int v2), (3, .int v3), (4, .int v4)]) dX7_joinAll_119 5 rfl rfl rfl (Nat.le_of_ble_eq_true rfl) rfl ?_
  refine x_goto 82 C dX7_joinAll_122 (by decide) ?_
  refine x_sub [1, 2, 3, 4, 5, 0] rfl ?_
  exact Hb82 _ _ hf
set_option maxRecDepth 20000 in
set_option maxHeartbeats 1000000 in
theorem tX7_joinAll_B82 {l : Launch} {Y : xY} {X : xE} {ad : Nat → Nat} {fr : va_W} {z0 : Int32 × xM} (C : xC Y X cX7_joinAll RX7 (some .int) 6 1 21) (HQ : xRI Y X (wR Y ad fr) z0.1 z0.2)  (v1 : Int32) (v2 : Int32) (v3 : Int32) (v4 : Int32) (k125 : xM → Option (Int32 × xM)) (Hk125 : ∀ (M : xM), k125 M = some z0 → xG Y l X (wR Y ad fr) M 125 [(0, .ref (ad 0)), (1, .int v1), (2, .int v2)] []) (M : xM) (v5 : Int32) (b82 : xM → Int32 → Option (Int32 × xM)) (Hb82 : ∀ (M : xM) (v5 : Int32), b82 M v5 = some z0 → xG Y l X (wR Y ad fr) M 82 [(0, .ref (ad 0)), (1, .int v1), (2, .int v2), (3, .int v3), (4, .int v4), (5, .int v5)] []) (hf : fX7_joinAll_B82 v1 v2 v3 v4 k125 M v5 b82 = some z0) : xG Y l X (wR Y ad fr) M 82 [(0, .ref (ad 0)), (1, .int v1), (2, .int v2), (3, .int v3), (4, .int v4), (5, .int v5)] [] := by
  unfold fX7_joinAll_B82 at hf
  refine x_il 84 C dX7_joinAll_82 5 rfl rfl ?_
  refine x_bipush 86 C (nI 18) dX7_joinAll_84 kb_18 rfl ?_
  refine x_icmp_ge 89 C 125 dX7_joinAll_86 (by decide) rfl hf (fun hf => ?_) (fun hf => ?_)
  ·
    refine x_sub [0, 1, 2] rfl ?_
    exact Hk125 _ hf
  ·
    refine x_alN 90 C dX7_joinAll_89 0 rfl rfl rfl ?_
    refine xgX7_12 93 C mq_680 dX7_joinAll_90 rfl ?_
    refine x_il 95 C dX7_joinAll_93 5 rfl rfl ?_
    refine x_alN 96 C dX7_joinAll_95 0 rfl rfl rfl ?_
    refine xgX7_12 99 C mq_680 dX7_joinAll_96 rfl ?_
    refine x_il 101 C dX7_joinAll_99 5 rfl rfl ?_
    refine xrR_13 102 C dX7_joinAll_101 rfl hf (fun x9 hf => ?_)
    refine x_il 104 C dX7_joinAll_102 4 rfl rfl ?_
    refine x_icmp_ne 107 C 111 dX7_joinAll_104 (by decide) rfl hf (fun hf => ?_) (fun hf => ?_)
    ·
      refine x_alN 112 C dX7_joinAll_111 0 rfl rfl rfl ?_
      refine xgX7_12 115 C mq_680 dX7_joinAll_112 rfl ?_
      refine x_il 117 C dX7_joinAll_115 5 rfl rfl ?_
      refine xrR_13 118 C dX7_joinAll_117 rfl hf (fun x10 hf => ?_)
      exact tX7_joinAll_j118 C HQ _ _ _ _ _ _ _ _ _ Hb82 hf
    ·
      refine x_ilN 108 C dX7_joinAll_107 3 rfl rfl rfl ?_
      refine x_goto 118 C dX7_joinAll_108 (by decide) ?_
      exact tX7_joinAll_j118 C HQ _ _ _ _ _ _ _ _ _ Hb82 hf
set_option maxRecDepth 20000 in
set_option maxHeartbeats 1000000 in
theorem tX7_joinAll_L82 {l : Launch} {Y : xY} {X : xE} {ad : Nat → Nat} {fr : va_W} {z0 : Int32 × xM} (C : xC Y X cX7_joinAll RX7 (some .int) 6 1 21) (HQ : xRI Y X (wR Y ad fr) z0.1 z0.2)  (v1 : Int32) (v2 : Int32) (v3 : Int32) (v4 : Int32) (k125 : xM → Option (Int32 × xM)) (Hk125 : ∀ (M : xM), k125 M = some z0 → xG Y l X (wR Y ad fr) M 125 [(0, .ref (ad 0)), (1, .int v1), (2, .int v2)] []) : ∀ (n : Nat) (M : xM) (v5 : Int32), fX7_joinAll_L82 v1 v2 v3 v4 k125 n M v5 = some z0 → xG Y l X (wR Y ad fr) M 82 [(0, .ref (ad 0)), (1, .int v1), (2, .int v2), (3, .int v3), (4, .int v4), (5, .int v5)] [] := by
  intro n
  induction n with
  | zero =>
    intro M v5 hf
    cases hf
  | succ n ih =>
    intro M v5 hf
    exact tX7_joinAll_B82 C HQ  v1 v2 v3 v4 _ Hk125 M v5 _ (fun M v5 hf => ih M v5 hf) hf
set_option maxRecDepth 20000 in
set_option maxHeartbeats 1000000 in
theorem tX7_joinAll_B25 {l : Launch} {Y : xY} {X : xE} {ad : Nat → Nat} {fr : va_W} {z0 : Int32 × xM} (C : xC Y X cX7_joinAll RX7 (some .int) 6 1 21) (HQ : xRI Y X (wR Y ad fr) z0.1 z0.2)   (k131 : xM → Int32 → Option (Int32 × xM)) (Hk131 : ∀ (M : xM) (v1 : Int32), k131 M v1 = some z0 → xG Y l X (wR Y ad fr) M 131 [(1, .int v1)] []) (M : xM) (v1 : Int32) (v2 : Int32) (b25 : xM → Int32 → Int32 → Option (Int32 × xM)) (Hb25 : ∀ (M : xM) (v1 : Int32) (v2 : Int32), b25 M v1 v2 = some z0 → xG Y l X (wR Y ad fr) M 25 [(0, .ref (ad 0)), (1, .int v1), (2, .int v2)] []) (hf : fX7_joinAll_B25 k131 M v1 v2 b25 = some z0) : xG Y l X (wR Y ad fr) M 25 [(0, .ref (ad 0)), (1, .int v1), (2, .int v2)] [] := by
  unfold fX7_joinAll_B25 at hf
  refine x_ilN 26 C dX7_joinAll_25 2 rfl rfl rfl ?_
  refine x_alN 27 C dX7_joinAll_26 0 rfl rfl rfl ?_
  refine x_cvIP 30 C [] hwX7_ports mq_741 dX7_joinAll_27 rfl ⟨Nat.le_of_ble_eq_true rfl, Nat.le_of_ble_eq_true rfl⟩ 0 wR_at_0 rfl rfl rfl (Nat.le_of_ble_eq_true rfl) (fun z hz => tX7_ports hz) hf (fun z3 hf => ?_)
  refine x_icmp_ge 33 C 131 dX7_joinAll_30 (by decide) rfl hf (fun hf => ?_) (fun hf => ?_)
  ·
    refine x_sub [1] rfl ?_
    exact Hk131 _ _ hf
  ·
    refine x_alN 34 C dX7_joinAll_33 0 rfl rfl rfl ?_
    refine xgX7_0 37 C mq_668 dX7_joinAll_34 rfl ?_
    refine x_bipush 39 C (nI 117) dX7_joinAll_37 kb_117 rfl ?_
    refine x_ilN 40 C dX7_joinAll_39 2 rfl rfl rfl ?_
    refine x_iadd 41 C dX7_joinAll_40 rfl ?_
    refine xrR_1 42 C dX7_joinAll_41 rfl hf (fun x4 hf => ?_)
    refine x_iconst 43 C (nI 4) dX7_joinAll_42 ki_4 rfl ?_
    refine x_icmp_ne 46 C 125 dX7_joinAll_43 (by decide) rfl hf (fun hf => ?_) (fun hf => ?_)
    ·
      refine x_iinc 128 C (v2 + (nI 1)) (lv2 := [(2, .int (v2 + (nI 1))), (0, .ref (ad 0)), (1, .int v1)]) dX7_joinAll_125 2 rfl rfl rfl (Nat.le_of_ble_eq_true rfl) rfl ?_
      refine x_goto 25 C dX7_joinAll_128 (by decide) ?_
      refine x_sub [1, 2, 0] rfl ?_
      exact Hb25 _ _ _ hf
    ·
      refine x_iinc 49 C (v1 + (nI 1)) (lv2 := [(1, .int (v1 + (nI 1))), (0, .ref (ad 0)), (2, .int v2)]) dX7_joinAll_46 1 rfl rfl rfl (Nat.le_of_ble_eq_true rfl) rfl ?_
      refine x_alN 50 C dX7_joinAll_49 1 rfl rfl rfl ?_
      refine xgX7_12 53 C mq_680 dX7_joinAll_50 rfl ?_
      refine x_alN 54 C dX7_joinAll_53 1 rfl rfl rfl ?_
      refine xgX7_0 57 C mq_668 dX7_joinAll_54 rfl ?_
      refine x_bipush 59 C (nI 45) dX7_joinAll_57 kb_45 rfl ?_
      refine x_ilN 60 C dX7_joinAll_59 2 rfl rfl rfl ?_
      refine x_iadd 61 C dX7_joinAll_60 rfl ?_
      refine xrR_1 62 C dX7_joinAll_61 rfl hf (fun x5 hf => ?_)
      refine xrR_13 63 C dX7_joinAll_62 rfl hf (fun x6 hf => ?_)
      refine x_isN 64 C 3 (lv2 := [(3, .int x6), (1, .int (v1 + (nI 1))), (0, .ref (ad 0)), (2, .int v2)]) dX7_joinAll_63 rfl rfl (Nat.le_of_ble_eq_true rfl) rfl ?_
      refine x_alN 65 C dX7_joinAll_64 2 rfl rfl rfl ?_
      refine xgX7_12 68 C mq_680 dX7_joinAll_65 rfl ?_
      refine x_bipush 70 C (nI 10) dX7_joinAll_68 kb_10 rfl ?_
      refine x_alN 71 C dX7_joinAll_70 2 rfl rfl rfl ?_
      refine x_ilN 72 C dX7_joinAll_71 3 rfl rfl rfl ?_
      refine x_cvIP 75 C [.int v2] hwX7_bridgeOf mq_749 dX7_joinAll_72 rfl ⟨Nat.le_of_ble_eq_true rfl, Nat.le_of_ble_eq_true rfl⟩ 0 wR_at_0 rfl rfl rfl (Nat.le_of_ble_eq_true rfl) (fun z hz => tX7_bridgeOf hz) hf (fun z7 hf => ?_)
      refine x_iadd 76 C dX7_joinAll_75 rfl ?_
      refine xrR_13 77 C dX7_joinAll_76 rfl hf (fun x8 hf => ?_)
      refine x_is 79 C 4 (lv2 := [(4, .int x8), (3, .int x6), (1, .int (v1 + (nI 1))), (0, .ref (ad 0)), (2, .int v2)]) dX7_joinAll_77 rfl (Nat.le_of_ble_eq_true rfl) rfl ?_
      refine x_iconst 80 C (nI 0) dX7_joinAll_79 ki_0 rfl ?_
      refine x_is 82 C 5 (lv2 := [(5, .int (nI 0)), (4, .int x8), (3, .int x6), (1, .int (v1 + (nI 1))), (0, .ref (ad 0)), (2, .int v2)]) dX7_joinAll_80 rfl (Nat.le_of_ble_eq_true rfl) rfl ?_
      refine x_sub [4, 3, 5, 2, 1, 0] rfl ?_
      refine tX7_joinAll_L82 C HQ _ _ _ _ _ (fun M12 hf => ?_) 512 _ _ hf
      refine x_iinc 128 C (v2 + (nI 1)) (lv2 := [(2, .int (v2 + (nI 1))), (0, .ref (ad 0)), (1, .int (v1 + (nI 1)))]) dX7_joinAll_125 2 rfl rfl rfl (Nat.le_of_ble_eq_true rfl) rfl ?_
      refine x_goto 25 C dX7_joinAll_128 (by decide) ?_
      refine x_sub [1, 2, 0] rfl ?_
      exact Hb25 _ _ _ hf
set_option maxRecDepth 20000 in
set_option maxHeartbeats 1000000 in
theorem tX7_joinAll_L25 {l : Launch} {Y : xY} {X : xE} {ad : Nat → Nat} {fr : va_W} {z0 : Int32 × xM} (C : xC Y X cX7_joinAll RX7 (some .int) 6 1 21) (HQ : xRI Y X (wR Y ad fr) z0.1 z0.2)   (k131 : xM → Int32 → Option (Int32 × xM)) (Hk131 : ∀ (M : xM) (v1 : Int32), k131 M v1 = some z0 → xG Y l X (wR Y ad fr) M 131 [(1, .int v1)] []) : ∀ (n : Nat) (M : xM) (v1 : Int32) (v2 : Int32), fX7_joinAll_L25 k131 n M v1 v2 = some z0 → xG Y l X (wR Y ad fr) M 25 [(0, .ref (ad 0)), (1, .int v1), (2, .int v2)] [] := by
  intro n
  induction n with
  | zero =>
    intro M v1 v2 hf
    cases hf
  | succ n ih =>
    intro M v1 v2 hf
    exact tX7_joinAll_B25 C HQ   _ Hk131 M v1 v2 _ (fun M v1 v2 hf => ih M v1 v2 hf) hf
set_option maxRecDepth 20000 in
set_option maxHeartbeats 1000000 in
theorem tX7_joinAll {l : Launch} {Y : xY} {ad : Nat → Nat} {fr : va_W} {M : xM}  {z0 : Int32 × xM} (hf : fX7_joinAll M = some z0) : xcI l Y (wR Y ad fr) yX7_joinAll cX7_joinAll 6 (some .int) 1 21 [.ref (ad 0)] M z0.1 z0.2 := by
  refine x_entryI [(0, .ref (ad 0))] pnX7 rfl (Nat.le_of_ble_eq_true rfl) rfl (fun X C HQ => ?_)
  unfold fX7_joinAll at hf
  refine x_iconst 1 C (nI 0) dX7_joinAll_0 ki_0 rfl ?_
  refine x_isN 2 C 1 (lv2 := [(1, .int (nI 0)), (0, .ref (ad 0))]) dX7_joinAll_1 rfl rfl (Nat.le_of_ble_eq_true rfl) rfl ?_
  refine x_sub [1, 0] rfl ?_
  refine tX7_joinAll_L2 C HQ  _ (fun M2 hf => ?_) 512 _ _ hf
  refine x_iconst 22 C (nI 0) dX7_joinAll_21 ki_0 rfl ?_
  refine x_isN 23 C 1 (lv2 := [(1, .int (nI 0)), (0, .ref (ad 0))]) dX7_joinAll_22 rfl rfl (Nat.le_of_ble_eq_true rfl) rfl ?_
  refine x_iconst 24 C (nI 0) dX7_joinAll_23 ki_0 rfl ?_
  refine x_isN 25 C 2 (lv2 := [(2, .int (nI 0)), (1, .int (nI 0)), (0, .ref (ad 0))]) dX7_joinAll_24 rfl rfl (Nat.le_of_ble_eq_true rfl) rfl ?_
  refine x_sub [2, 1, 0] rfl ?_
  refine tX7_joinAll_L25 C HQ  _ (fun M14 v13 hf => ?_) 512 _ _ _ hf
  refine x_ilN 132 C dX7_joinAll_131 0 rfl rfl rfl ?_
  exact x_iretM C HQ rfl (vp_nar_int _) dX7_joinAll_132 hf
set_option maxRecDepth 20000 in
set_option maxHeartbeats 1000000 in
theorem tX7_isVertex {l : Launch} {Y : xY} {ad : Nat → Nat} {fr : va_W} {M : xM} {p1 : Int32} {z0 : Int32} (hf : fX7_isVertex M p1 = some z0) : xcI l Y (wR Y ad fr) yX7_isVertex cX7_isVertex 2 (some .boolean) 2 43 [.ref (ad 0), .int p1] M z0 M := by
  refine x_entryI [(0, .ref (ad 0)), (1, .int p1)] pnX7 rfl (Nat.le_of_ble_eq_true rfl) rfl (fun X C HQ => ?_)
  unfold fX7_isVertex at hf
  refine x_ilN 1 C dX7_isVertex_0 1 rfl rfl rfl ?_
  refine x_bipush 3 C (nI 10) dX7_isVertex_1 kb_10 rfl ?_
  refine x_icmp_ge 6 C 14 dX7_isVertex_3 (by decide) rfl hf (fun hf => ?_) (fun hf => ?_)
  ·
    refine x_alN 15 C dX7_isVertex_14 0 rfl rfl rfl ?_
    refine x_ilN 16 C dX7_isVertex_15 1 rfl rfl rfl ?_
    refine x_bipush 18 C (nI 10) dX7_isVertex_16 kb_10 rfl ?_
    refine x_isub 19 C dX7_isVertex_18 rfl ?_
    refine x_cvIP 22 C [.int (p1 - (nI 10))] hwX7_isBridge mq_733 dX7_isVertex_19 rfl ⟨Nat.le_of_ble_eq_true rfl, Nat.le_of_ble_eq_true rfl⟩ 0 wR_at_0 rfl rfl rfl (Nat.le_of_ble_eq_true rfl) (fun z hz => tX7_isBridge hz) hf (fun z1 hf => ?_)
    refine x_if_eq 25 C 40 dX7_isVertex_22 (by decide) rfl hf (fun hf => ?_) (fun hf => ?_)
    ·
      refine x_iconst 41 C (nI 0) dX7_isVertex_40 ki_0 rfl ?_
      exact x_iretP C HQ rfl rfl dX7_isVertex_41 hf
    ·
      refine x_alN 26 C dX7_isVertex_25 0 rfl rfl rfl ?_
      refine x_ilN 27 C dX7_isVertex_26 1 rfl rfl rfl ?_
      refine x_bipush 29 C (nI 10) dX7_isVertex_27 kb_10 rfl ?_
      refine x_isub 30 C dX7_isVertex_29 rfl ?_
      refine x_cvIP 33 C [.int (p1 - (nI 10))] hwX7_isUp mq_872 dX7_isVertex_30 rfl ⟨Nat.le_of_ble_eq_true rfl, Nat.le_of_ble_eq_true rfl⟩ 0 wR_at_0 rfl rfl rfl (Nat.le_of_ble_eq_true rfl) (fun z hz => tX7_isUp hz) hf (fun z2 hf => ?_)
      refine x_if_eq 36 C 40 dX7_isVertex_33 (by decide) rfl hf (fun hf => ?_) (fun hf => ?_)
      ·
        refine x_iconst 41 C (nI 0) dX7_isVertex_40 ki_0 rfl ?_
        exact x_iretP C HQ rfl rfl dX7_isVertex_41 hf
      ·
        refine x_iconst 37 C (nI 1) dX7_isVertex_36 ki_1 rfl ?_
        refine x_goto 41 C dX7_isVertex_37 (by decide) ?_
        exact x_iretP C HQ rfl rfl dX7_isVertex_41 hf
  ·
    refine x_alN 7 C dX7_isVertex_6 0 rfl rfl rfl ?_
    refine x_ilN 8 C dX7_isVertex_7 1 rfl rfl rfl ?_
    refine x_cvIP 11 C [.int p1] hwX7_isSegment mq_737 dX7_isVertex_8 rfl ⟨Nat.le_of_ble_eq_true rfl, Nat.le_of_ble_eq_true rfl⟩ 0 wR_at_0 rfl rfl rfl (Nat.le_of_ble_eq_true rfl) (fun z hz => tX7_isSegment hz) hf (fun z3 hf => ?_)
    refine x_goto 41 C dX7_isVertex_11 (by decide) ?_
    obtain ⟨hn, hf⟩ := x_nz hf
    exact x_iretP C HQ rfl hn dX7_isVertex_41 hf
set_option maxRecDepth 20000 in
set_option maxHeartbeats 1000000 in
theorem tX7_vertices_j24 {l : Launch} {Y : xY} {X : xE} {ad : Nat → Nat} {fr : va_W} {M0 : xM} {z0 : Int32} (C : xC Y X cX7_vertices RX7 (some .int) 3 3 64) (HQ : xRI Y X (wR Y ad fr) z0 M0) (v2 : Int32) (s0 : Int32) (s1 : Int32) (b4 : Int32 → Int32 → Option (Int32)) (Hb4 : ∀ (v1 : Int32) (v2 : Int32), b4 v1 v2 = some z0 → xG Y l X (wR Y ad fr) M0 4 [(0, .ref (ad 0)), (1, .int v1), (2, .int v2)] []) (hf : fX7_vertices_j24 M0 v2 s0 s1 b4 = some z0) : xG Y l X (wR Y ad fr) M0 24 [(0, .ref (ad 0)), (2, .int v2)] [.int s0, .int s1] := by
  unfold fX7_vertices_j24 at hf
  refine x_iadd 25 C dX7_vertices_24 rfl ?_
  refine x_isN 26 C 1 (lv2 := [(1, .int (s1 + s0)), (0, .ref (ad 0)), (2, .int v2)]) dX7_vertices_25 rfl rfl (Nat.le_of_ble_eq_true rfl) rfl ?_
  refine x_iinc 29 C (v2 + (nI 1)) (lv2 := [(2, .int (v2 + (nI 1))), (1, .int (s1 + s0)), (0, .ref (ad 0))]) dX7_vertices_26 2 rfl rfl rfl (Nat.le_of_ble_eq_true rfl) rfl ?_
  refine x_goto 4 C dX7_vertices_29 (by decide) ?_
  refine x_sub [2, 1, 0] rfl ?_
  exact Hb4 _ _ hf
set_option maxRecDepth 20000 in
set_option maxHeartbeats 1000000 in
theorem tX7_vertices_B4 {l : Launch} {Y : xY} {X : xE} {ad : Nat → Nat} {fr : va_W} {M0 : xM} {z0 : Int32} (C : xC Y X cX7_vertices RX7 (some .int) 3 3 64) (HQ : xRI Y X (wR Y ad fr) z0 M0)   (k32 : Int32 → Option (Int32)) (Hk32 : ∀ (v1 : Int32), k32 v1 = some z0 → xG Y l X (wR Y ad fr) M0 32 [(1, .int v1)] []) (v1 : Int32) (v2 : Int32) (b4 : Int32 → Int32 → Option (Int32)) (Hb4 : ∀ (v1 : Int32) (v2 : Int32), b4 v1 v2 = some z0 → xG Y l X (wR Y ad fr) M0 4 [(0, .ref (ad 0)), (1, .int v1), (2, .int v2)] []) (hf : fX7_vertices_B4 M0 k32 v1 v2 b4 = some z0) : xG Y l X (wR Y ad fr) M0 4 [(0, .ref (ad 0)), (1, .int v1), (2, .int v2)] [] := by
  unfold fX7_vertices_B4 at hf
  refine x_ilN 5 C dX7_vertices_4 2 rfl rfl rfl ?_
  refine x_bipush 7 C (nI 18) dX7_vertices_5 kb_18 rfl ?_
  refine x_icmp_ge 10 C 32 dX7_vertices_7 (by decide) rfl hf (fun hf => ?_) (fun hf => ?_)
  ·
    refine x_sub [1] rfl ?_
    exact Hk32 _ hf
  ·
    refine x_ilN 11 C dX7_vertices_10 1 rfl rfl rfl ?_
    refine x_alN 12 C dX7_vertices_11 0 rfl rfl rfl ?_
    refine x_ilN 13 C dX7_vertices_12 2 rfl rfl rfl ?_
    refine x_cvIP 16 C [.int v2] hwX7_isVertex mq_912 dX7_vertices_13 rfl ⟨Nat.le_of_ble_eq_true rfl, Nat.le_of_ble_eq_true rfl⟩ 0 wR_at_0 rfl rfl rfl (Nat.le_of_ble_eq_true rfl) (fun z hz => tX7_isVertex hz) hf (fun z1 hf => ?_)
    refine x_if_eq 19 C 23 dX7_vertices_16 (by decide) rfl hf (fun hf => ?_) (fun hf => ?_)
    ·
      refine x_iconst 24 C (nI 0) dX7_vertices_23 ki_0 rfl ?_
      refine x_sub [0, 2] rfl ?_
      exact tX7_vertices_j24 C HQ  _ _ _ _ Hb4 hf
    ·
      refine x_iconst 20 C (nI 1) dX7_vertices_19 ki_1 rfl ?_
      refine x_goto 24 C dX7_vertices_20 (by decide) ?_
      refine x_sub [0, 2] rfl ?_
      exact tX7_vertices_j24 C HQ  _ _ _ _ Hb4 hf
set_option maxRecDepth 20000 in
set_option maxHeartbeats 1000000 in
theorem tX7_vertices_L4 {l : Launch} {Y : xY} {X : xE} {ad : Nat → Nat} {fr : va_W} {M0 : xM} {z0 : Int32} (C : xC Y X cX7_vertices RX7 (some .int) 3 3 64) (HQ : xRI Y X (wR Y ad fr) z0 M0)   (k32 : Int32 → Option (Int32)) (Hk32 : ∀ (v1 : Int32), k32 v1 = some z0 → xG Y l X (wR Y ad fr) M0 32 [(1, .int v1)] []) : ∀ (n : Nat) (v1 : Int32) (v2 : Int32), fX7_vertices_L4 M0 k32 n v1 v2 = some z0 → xG Y l X (wR Y ad fr) M0 4 [(0, .ref (ad 0)), (1, .int v1), (2, .int v2)] [] := by
  intro n
  induction n with
  | zero =>
    intro v1 v2 hf
    cases hf
  | succ n ih =>
    intro v1 v2 hf
    exact tX7_vertices_B4 C HQ   _ Hk32 v1 v2 _ (fun v1 v2 hf => ih v1 v2 hf) hf
set_option maxRecDepth 20000 in
set_option maxHeartbeats 1000000 in
theorem tX7_vertices {l : Launch} {Y : xY} {ad : Nat → Nat} {fr : va_W} {M : xM}  {z0 : Int32} (hf : fX7_vertices M = some z0) : xcI l Y (wR Y ad fr) yX7_vertices cX7_vertices 3 (some .int) 3 64 [.ref (ad 0)] M z0 M := by
  refine x_entryI [(0, .ref (ad 0))] pnX7 rfl (Nat.le_of_ble_eq_true rfl) rfl (fun X C HQ => ?_)
  unfold fX7_vertices at hf
  refine x_iconst 1 C (nI 0) dX7_vertices_0 ki_0 rfl ?_
  refine x_isN 2 C 1 (lv2 := [(1, .int (nI 0)), (0, .ref (ad 0))]) dX7_vertices_1 rfl rfl (Nat.le_of_ble_eq_true rfl) rfl ?_
  refine x_iconst 3 C (nI 0) dX7_vertices_2 ki_0 rfl ?_
  refine x_isN 4 C 2 (lv2 := [(2, .int (nI 0)), (1, .int (nI 0)), (0, .ref (ad 0))]) dX7_vertices_3 rfl rfl (Nat.le_of_ble_eq_true rfl) rfl ?_
  refine x_sub [2, 1, 0] rfl ?_
  refine tX7_vertices_L4 C HQ  _ (fun v2 hf => ?_) 512 _ _ hf
  refine x_ilN 33 C dX7_vertices_32 0 rfl rfl rfl ?_
  exact x_iretP C HQ rfl (vp_nar_int _) dX7_vertices_33 hf
set_option maxRecDepth 20000 in
set_option maxHeartbeats 1000000 in
theorem tX7_partsNow_j59 {l : Launch} {Y : xY} {X : xE} {ad : Nat → Nat} {fr : va_W} {M0 : xM} {z0 : Int32} (C : xC Y X cX7_partsNow RX7 (some .int) 5 3 64) (HQ : xRI Y X (wR Y ad fr) z0 M0) (v1 : Int32) (v2 : Int32) (v4 : Int32) (s0 : Int32) (b19 : Int32 → Int32 → Option (Int32)) (Hb19 : ∀ (v3 : Int32) (v4 : Int32), b19 v3 v4 = some z0 → xG Y l X (wR Y ad fr) M0 19 [(0, .ref (ad 0)), (1, .int v1), (2, .int v2), (3, .int v3), (4, .int v4)] []) (hf : fX7_partsNow_j59 M0 v1 v2 v4 s0 b19 = some z0) : xG Y l X (wR Y ad fr) M0 59 [(0, .ref (ad 0)), (1, .int v1), (2, .int v2), (4, .int v4)] [.int s0] := by
  unfold fX7_partsNow_j59 at hf
  refine x_isN 60 C 3 (lv2 := [(3, .int s0), (0, .ref (ad 0)), (1, .int v1), (2, .int v2), (4, .int v4)]) dX7_partsNow_59 rfl rfl (Nat.le_of_ble_eq_true rfl) rfl ?_
  refine x_iinc 63 C (v4 + (nI 1)) (lv2 := [(4, .int (v4 + (nI 1))), (3, .int s0), (0, .ref (ad 0)), (1, .int v1), (2, .int v2)]) dX7_partsNow_60 4 rfl rfl rfl (Nat.le_of_ble_eq_true rfl) rfl ?_
  refine x_goto 19 C dX7_partsNow_63 (by decide) ?_
  refine x_sub [2, 3, 4, 1, 0] rfl ?_
  exact Hb19 _ _ hf
set_option maxRecDepth 20000 in
set_option maxHeartbeats 1000000 in
theorem tX7_partsNow_B19 {l : Launch} {Y : xY} {X : xE} {ad : Nat → Nat} {fr : va_W} {M0 : xM} {z0 : Int32} (C : xC Y X cX7_partsNow RX7 (some .int) 5 3 64) (HQ : xRI Y X (wR Y ad fr) z0 M0)  (v1 : Int32) (v2 : Int32) (k66 : Int32 → Option (Int32)) (Hk66 : ∀ (v3 : Int32), k66 v3 = some z0 → xG Y l X (wR Y ad fr) M0 66 [(0, .ref (ad 0)), (1, .int v1), (2, .int v2), (3, .int v3)] []) (v3 : Int32) (v4 : Int32) (b19 : Int32 → Int32 → Option (Int32)) (Hb19 : ∀ (v3 : Int32) (v4 : Int32), b19 v3 v4 = some z0 → xG Y l X (wR Y ad fr) M0 19 [(0, .ref (ad 0)), (1, .int v1), (2, .int v2), (3, .int v3), (4, .int v4)] []) (hf : fX7_partsNow_B19 M0 v1 v2 k66 v3 v4 b19 = some z0) : xG Y l X (wR Y ad fr) M0 19 [(0, .ref (ad 0)), (1, .int v1), (2, .int v2), (3, .int v3), (4, .int v4)] [] := by
  unfold fX7_partsNow_B19 at hf
  refine x_il 21 C dX7_partsNow_19 4 rfl rfl ?_
  refine x_ilN 22 C dX7_partsNow_21 2 rfl rfl rfl ?_
  refine x_icmp_ge 25 C 66 dX7_partsNow_22 (by decide) rfl hf (fun hf => ?_) (fun hf => ?_)
  ·
    refine x_sub [0, 1, 2, 3] rfl ?_
    exact Hk66 _ hf
  ·
    refine x_ilN 26 C dX7_partsNow_25 3 rfl rfl rfl ?_
    refine x_if_eq 29 C 58 dX7_partsNow_26 (by decide) rfl hf (fun hf => ?_) (fun hf => ?_)
    ·
      refine x_iconst 59 C (nI 0) dX7_partsNow_58 ki_0 rfl ?_
      refine x_sub [0, 1, 2, 4] rfl ?_
      exact tX7_partsNow_j59 C HQ  _ _ _ _ _ Hb19 hf
    ·
      refine x_alN 30 C dX7_partsNow_29 0 rfl rfl rfl ?_
      refine x_il 32 C dX7_partsNow_30 4 rfl rfl ?_
      refine x_cvIP 35 C [.int v4] hwX7_isVertex mq_912 dX7_partsNow_32 rfl ⟨Nat.le_of_ble_eq_true rfl, Nat.le_of_ble_eq_true rfl⟩ 0 wR_at_0 rfl rfl rfl (Nat.le_of_ble_eq_true rfl) (fun z hz => tX7_isVertex hz) hf (fun z2 hf => ?_)
      refine x_if_eq 38 C 54 dX7_partsNow_35 (by decide) rfl hf (fun hf => ?_) (fun hf => ?_)
      ·
        refine x_iconst 55 C (nI 1) dX7_partsNow_54 ki_1 rfl ?_
        refine x_goto 59 C dX7_partsNow_55 (by decide) ?_
        refine x_sub [0, 1, 2, 4] rfl ?_
        exact tX7_partsNow_j59 C HQ  _ _ _ _ _ Hb19 hf
      ·
        refine x_alN 39 C dX7_partsNow_38 0 rfl rfl rfl ?_
        refine xgX7_12 42 C mq_680 dX7_partsNow_39 rfl ?_
        refine x_il 44 C dX7_partsNow_42 4 rfl rfl ?_
        refine xrR_13 45 C dX7_partsNow_44 rfl hf (fun x3 hf => ?_)
        refine x_alN 46 C dX7_partsNow_45 0 rfl rfl rfl ?_
        refine xgX7_12 49 C mq_680 dX7_partsNow_46 rfl ?_
        refine x_ilN 50 C dX7_partsNow_49 2 rfl rfl rfl ?_
        refine xrR_13 51 C dX7_partsNow_50 rfl hf (fun x4 hf => ?_)
        refine x_icmp_eq 54 C 58 dX7_partsNow_51 (by decide) rfl hf (fun hf => ?_) (fun hf => ?_)
        ·
          refine x_iconst 59 C (nI 0) dX7_partsNow_58 ki_0 rfl ?_
          refine x_sub [0, 1, 2, 4] rfl ?_
          exact tX7_partsNow_j59 C HQ  _ _ _ _ _ Hb19 hf
        ·
          refine x_iconst 55 C (nI 1) dX7_partsNow_54 ki_1 rfl ?_
          refine x_goto 59 C dX7_partsNow_55 (by decide) ?_
          refine x_sub [0, 1, 2, 4] rfl ?_
          exact tX7_partsNow_j59 C HQ  _ _ _ _ _ Hb19 hf
set_option maxRecDepth 20000 in
set_option maxHeartbeats 1000000 in
theorem tX7_partsNow_L19 {l : Launch} {Y : xY} {X : xE} {ad : Nat → Nat} {fr : va_W} {M0 : xM} {z0 : Int32} (C : xC Y X cX7_partsNow RX7 (some .int) 5 3 64) (HQ : xRI Y X (wR Y ad fr) z0 M0)  (v1 : Int32) (v2 : Int32) (k66 : Int32 → Option (Int32)) (Hk66 : ∀ (v3 : Int32), k66 v3 = some z0 → xG Y l X (wR Y ad fr) M0 66 [(0, .ref (ad 0)), (1, .int v1), (2, .int v2), (3, .int v3)] []) : ∀ (n : Nat) (v3 : Int32) (v4 : Int32), fX7_partsNow_L19 M0 v1 v2 k66 n v3 v4 = some z0 → xG Y l X (wR Y ad fr) M0 19 [(0, .ref (ad 0)), (1, .int v1), (2, .int v2), (3, .int v3), (4, .int v4)] [] := by
  intro n
  induction n with
  | zero =>
    intro v3 v4 hf
    cases hf
  | succ n ih =>
    intro v3 v4 hf
    exact tX7_partsNow_B19 C HQ  v1 v2 _ Hk66 v3 v4 _ (fun v3 v4 hf => ih v3 v4 hf) hf
set_option maxRecDepth 20000 in
set_option maxHeartbeats 1000000 in
theorem tX7_partsNow_j76 {l : Launch} {Y : xY} {X : xE} {ad : Nat → Nat} {fr : va_W} {M0 : xM} {z0 : Int32} (C : xC Y X cX7_partsNow RX7 (some .int) 5 3 64) (HQ : xRI Y X (wR Y ad fr) z0 M0) (v2 : Int32) (s0 : Int32) (s1 : Int32) (b4 : Int32 → Int32 → Option (Int32)) (Hb4 : ∀ (v1 : Int32) (v2 : Int32), b4 v1 v2 = some z0 → xG Y l X (wR Y ad fr) M0 4 [(0, .ref (ad 0)), (1, .int v1), (2, .int v2)] []) (hf : fX7_partsNow_j76 M0 v2 s0 s1 b4 = some z0) : xG Y l X (wR Y ad fr) M0 76 [(0, .ref (ad 0)), (2, .int v2)] [.int s0, .int s1] := by
  unfold fX7_partsNow_j76 at hf
  refine x_iadd 77 C dX7_partsNow_76 rfl ?_
  refine x_isN 78 C 1 (lv2 := [(1, .int (s1 + s0)), (0, .ref (ad 0)), (2, .int v2)]) dX7_partsNow_77 rfl rfl (Nat.le_of_ble_eq_true rfl) rfl ?_
  refine x_iinc 81 C (v2 + (nI 1)) (lv2 := [(2, .int (v2 + (nI 1))), (1, .int (s1 + s0)), (0, .ref (ad 0))]) dX7_partsNow_78 2 rfl rfl rfl (Nat.le_of_ble_eq_true rfl) rfl ?_
  refine x_goto 4 C dX7_partsNow_81 (by decide) ?_
  refine x_sub [2, 1, 0] rfl ?_
  exact Hb4 _ _ hf
set_option maxRecDepth 20000 in
set_option maxHeartbeats 1000000 in
theorem tX7_partsNow_B4 {l : Launch} {Y : xY} {X : xE} {ad : Nat → Nat} {fr : va_W} {M0 : xM} {z0 : Int32} (C : xC Y X cX7_partsNow RX7 (some .int) 5 3 64) (HQ : xRI Y X (wR Y ad fr) z0 M0)   (k84 : Int32 → Option (Int32)) (Hk84 : ∀ (v1 : Int32), k84 v1 = some z0 → xG Y l X (wR Y ad fr) M0 84 [(1, .int v1)] []) (v1 : Int32) (v2 : Int32) (b4 : Int32 → Int32 → Option (Int32)) (Hb4 : ∀ (v1 : Int32) (v2 : Int32), b4 v1 v2 = some z0 → xG Y l X (wR Y ad fr) M0 4 [(0, .ref (ad 0)), (1, .int v1), (2, .int v2)] []) (hf : fX7_partsNow_B4 M0 k84 v1 v2 b4 = some z0) : xG Y l X (wR Y ad fr) M0 4 [(0, .ref (ad 0)), (1, .int v1), (2, .int v2)] [] := by
  unfold fX7_partsNow_B4 at hf
  refine x_ilN 5 C dX7_partsNow_4 2 rfl rfl rfl ?_
  refine x_bipush 7 C (nI 18) dX7_partsNow_5 kb_18 rfl ?_
  refine x_icmp_ge 10 C 84 dX7_partsNow_7 (by decide) rfl hf (fun hf => ?_) (fun hf => ?_)
  ·
    refine x_sub [1] rfl ?_
    exact Hk84 _ hf
  ·
    refine x_alN 11 C dX7_partsNow_10 0 rfl rfl rfl ?_
    refine x_ilN 12 C dX7_partsNow_11 2 rfl rfl rfl ?_
    refine x_cvIP 15 C [.int v2] hwX7_isVertex mq_912 dX7_partsNow_12 rfl ⟨Nat.le_of_ble_eq_true rfl, Nat.le_of_ble_eq_true rfl⟩ 0 wR_at_0 rfl rfl rfl (Nat.le_of_ble_eq_true rfl) (fun z hz => tX7_isVertex hz) hf (fun z1 hf => ?_)
    refine x_isN 16 C 3 (lv2 := [(3, .int z1), (0, .ref (ad 0)), (1, .int v1), (2, .int v2)]) dX7_partsNow_15 rfl rfl (Nat.le_of_ble_eq_true rfl) rfl ?_
    refine x_iconst 17 C (nI 0) dX7_partsNow_16 ki_0 rfl ?_
    refine x_is 19 C 4 (lv2 := [(4, .int (nI 0)), (3, .int z1), (0, .ref (ad 0)), (1, .int v1), (2, .int v2)]) dX7_partsNow_17 rfl (Nat.le_of_ble_eq_true rfl) rfl ?_
    refine x_sub [2, 3, 4, 1, 0] rfl ?_
    refine tX7_partsNow_L19 C HQ _ _ _ (fun v5 hf => ?_) 512 _ _ hf
    refine x_ilN 67 C dX7_partsNow_66 1 rfl rfl rfl ?_
    refine x_ilN 68 C dX7_partsNow_67 3 rfl rfl rfl ?_
    refine x_if_eq 71 C 75 dX7_partsNow_68 (by decide) rfl hf (fun hf => ?_) (fun hf => ?_)
    ·
      refine x_iconst 76 C (nI 0) dX7_partsNow_75 ki_0 rfl ?_
      refine x_sub [0, 2] rfl ?_
      exact tX7_partsNow_j76 C HQ  _ _ _ _ Hb4 hf
    ·
      refine x_iconst 72 C (nI 1) dX7_partsNow_71 ki_1 rfl ?_
      refine x_goto 76 C dX7_partsNow_72 (by decide) ?_
      refine x_sub [0, 2] rfl ?_
      exact tX7_partsNow_j76 C HQ  _ _ _ _ Hb4 hf
set_option maxRecDepth 20000 in
set_option maxHeartbeats 1000000 in
theorem tX7_partsNow_L4 {l : Launch} {Y : xY} {X : xE} {ad : Nat → Nat} {fr : va_W} {M0 : xM} {z0 : Int32} (C : xC Y X cX7_partsNow RX7 (some .int) 5 3 64) (HQ : xRI Y X (wR Y ad fr) z0 M0)   (k84 : Int32 → Option (Int32)) (Hk84 : ∀ (v1 : Int32), k84 v1 = some z0 → xG Y l X (wR Y ad fr) M0 84 [(1, .int v1)] []) : ∀ (n : Nat) (v1 : Int32) (v2 : Int32), fX7_partsNow_L4 M0 k84 n v1 v2 = some z0 → xG Y l X (wR Y ad fr) M0 4 [(0, .ref (ad 0)), (1, .int v1), (2, .int v2)] [] := by
  intro n
  induction n with
  | zero =>
    intro v1 v2 hf
    cases hf
  | succ n ih =>
    intro v1 v2 hf
    exact tX7_partsNow_B4 C HQ   _ Hk84 v1 v2 _ (fun v1 v2 hf => ih v1 v2 hf) hf
set_option maxRecDepth 20000 in
set_option maxHeartbeats 1000000 in
theorem tX7_partsNow {l : Launch} {Y : xY} {ad : Nat → Nat} {fr : va_W} {M : xM}  {z0 : Int32} (hf : fX7_partsNow M = some z0) : xcI l Y (wR Y ad fr) yX7_partsNow cX7_partsNow 5 (some .int) 3 64 [.ref (ad 0)] M z0 M := by
  refine x_entryI [(0, .ref (ad 0))] pnX7 rfl (Nat.le_of_ble_eq_true rfl) rfl (fun X C HQ => ?_)
  unfold fX7_partsNow at hf
  refine x_iconst 1 C (nI 0) dX7_partsNow_0 ki_0 rfl ?_
  refine x_isN 2 C 1 (lv2 := [(1, .int (nI 0)), (0, .ref (ad 0))]) dX7_partsNow_1 rfl rfl (Nat.le_of_ble_eq_true rfl) rfl ?_
  refine x_iconst 3 C (nI 0) dX7_partsNow_2 ki_0 rfl ?_
  refine x_isN 4 C 2 (lv2 := [(2, .int (nI 0)), (1, .int (nI 0)), (0, .ref (ad 0))]) dX7_partsNow_3 rfl rfl (Nat.le_of_ble_eq_true rfl) rfl ?_
  refine x_sub [2, 1, 0] rfl ?_
  refine tX7_partsNow_L4 C HQ  _ (fun v6 hf => ?_) 512 _ _ hf
  refine x_ilN 85 C dX7_partsNow_84 0 rfl rfl rfl ?_
  exact x_iretP C HQ rfl (vp_nar_int _) dX7_partsNow_85 hf
set_option maxRecDepth 20000 in
set_option maxHeartbeats 1000000 in
theorem tX7_parts {l : Launch} {Y : xY} {ad : Nat → Nat} {fr : va_W} {M : xM}  {z0 : Int32 × xM} (hf : fX7_parts M = some z0) : xcI l Y (wR Y ad fr) yX7_parts cX7_parts 2 (some .int) 4 88 [.ref (ad 0)] M z0.1 z0.2 := by
  refine x_entryI [(0, .ref (ad 0))] pnX7 rfl (Nat.le_of_ble_eq_true rfl) rfl (fun X C HQ => ?_)
  unfold fX7_parts at hf
  refine x_alN 1 C dX7_parts_0 0 rfl rfl rfl ?_
  refine x_cvIM 4 C [] hwX7_joinAll mq_904 dX7_parts_1 rfl ⟨Nat.le_of_ble_eq_true rfl, Nat.le_of_ble_eq_true rfl⟩ 0 wR_at_0 rfl rfl rfl (Nat.le_of_ble_eq_true rfl) (fun z hz => tX7_joinAll hz) hf (fun z1 hf => ?_)
  refine x_isN 5 C 1 (lv2 := [(1, .int z1.1), (0, .ref (ad 0))]) dX7_parts_4 rfl rfl (Nat.le_of_ble_eq_true rfl) rfl ?_
  refine x_alN 6 C dX7_parts_5 1 rfl rfl rfl ?_
  refine x_cvIP 9 C [] hwX7_partsNow mq_908 dX7_parts_6 rfl ⟨Nat.le_of_ble_eq_true rfl, Nat.le_of_ble_eq_true rfl⟩ 0 wR_at_0 rfl rfl rfl (Nat.le_of_ble_eq_true rfl) (fun z hz => tX7_partsNow hz) hf (fun z2 hf => ?_)
  exact x_iretM C HQ rfl (vp_nar_int _) dX7_parts_9 hf
set_option maxRecDepth 20000 in
set_option maxHeartbeats 1000000 in
theorem tX7_loops {l : Launch} {Y : xY} {ad : Nat → Nat} {fr : va_W} {M : xM}  {z0 : Int32 × xM} (hf : fX7_loops M = some z0) : xcI l Y (wR Y ad fr) yX7_loops cX7_loops 2 (some .int) 4 88 [.ref (ad 0)] M z0.1 z0.2 := by
  refine x_entryI [(0, .ref (ad 0))] pnX7 rfl (Nat.le_of_ble_eq_true rfl) rfl (fun X C HQ => ?_)
  unfold fX7_loops at hf
  refine x_alN 1 C dX7_loops_0 0 rfl rfl rfl ?_
  refine x_cvIM 4 C [] hwX7_joinAll mq_904 dX7_loops_1 rfl ⟨Nat.le_of_ble_eq_true rfl, Nat.le_of_ble_eq_true rfl⟩ 0 wR_at_0 rfl rfl rfl (Nat.le_of_ble_eq_true rfl) (fun z hz => tX7_joinAll hz) hf (fun z1 hf => ?_)
  refine x_isN 5 C 1 (lv2 := [(1, .int z1.1), (0, .ref (ad 0))]) dX7_loops_4 rfl rfl (Nat.le_of_ble_eq_true rfl) rfl ?_
  refine x_ilN 6 C dX7_loops_5 0 rfl rfl rfl ?_
  refine x_alN 7 C dX7_loops_6 1 rfl rfl rfl ?_
  refine x_cvIP 10 C [] hwX7_vertices mq_920 dX7_loops_7 rfl ⟨Nat.le_of_ble_eq_true rfl, Nat.le_of_ble_eq_true rfl⟩ 0 wR_at_0 rfl rfl rfl (Nat.le_of_ble_eq_true rfl) (fun z hz => tX7_vertices hz) hf (fun z2 hf => ?_)
  refine x_isub 11 C dX7_loops_10 rfl ?_
  refine x_alN 12 C dX7_loops_11 1 rfl rfl rfl ?_
  refine x_cvIP 15 C [] hwX7_partsNow mq_908 dX7_loops_12 rfl ⟨Nat.le_of_ble_eq_true rfl, Nat.le_of_ble_eq_true rfl⟩ 0 wR_at_0 rfl rfl rfl (Nat.le_of_ble_eq_true rfl) (fun z hz => tX7_partsNow hz) hf (fun z3 hf => ?_)
  refine x_iadd 16 C dX7_loops_15 rfl ?_
  exact x_iretM C HQ rfl (vp_nar_int _) dX7_loops_16 hf
set_option maxRecDepth 20000 in
set_option maxHeartbeats 1000000 in
theorem tX7_transmit {l : Launch} {Y : xY} {ad : Nat → Nat} {fr : va_W} {M : xM} {p1 : Int32} {p2 : Int32} {z0 : xM} (hf : fX7_transmit M p1 p2 = some z0) : xcV l Y (wR Y ad fr) yX7_transmit cX7_transmit 3 none 0 0 [.ref (ad 0), .int p1, .int p2] M z0 := by
  refine x_entryV [(0, .ref (ad 0)), (1, .int p1), (2, .int p2)] pnX7 rfl (Nat.le_of_ble_eq_true rfl) rfl (fun X C HQ => ?_)
  unfold fX7_transmit at hf
  refine x_alN 1 C dX7_transmit_0 0 rfl rfl rfl ?_
  refine xgX7_15 4 C mq_683 dX7_transmit_1 rfl ?_
  refine x_bipush 6 C (nI 64) dX7_transmit_4 kb_64 rfl ?_
  refine x_icmp_ge 9 C 53 dX7_transmit_6 (by decide) rfl hf (fun hf => ?_) (fun hf => ?_)
  ·
    exact x_vret C HQ rfl dX7_transmit_53 hf
  ·
    refine x_alN 10 C dX7_transmit_9 0 rfl rfl rfl ?_
    refine xgX7_13 13 C mq_681 dX7_transmit_10 rfl ?_
    refine x_alN 14 C dX7_transmit_13 0 rfl rfl rfl ?_
    refine xgX7_15 17 C mq_683 dX7_transmit_14 rfl ?_
    refine x_ilN 18 C dX7_transmit_17 1 rfl rfl rfl ?_
    refine xwR_14 19 C dX7_transmit_18 rfl hf (fun M1 hf => ?_)
    refine x_alN 20 C dX7_transmit_19 0 rfl rfl rfl ?_
    refine xgX7_14 23 C mq_682 dX7_transmit_20 rfl ?_
    refine x_alN 24 C dX7_transmit_23 0 rfl rfl rfl ?_
    refine xgX7_15 27 C mq_683 dX7_transmit_24 rfl ?_
    refine x_ilN 28 C dX7_transmit_27 2 rfl rfl rfl ?_
    refine xwR_15 29 C dX7_transmit_28 rfl hf (fun M2 hf => ?_)
    refine x_alN 30 C dX7_transmit_29 0 rfl rfl rfl ?_
    refine x_dup 31 C dX7_transmit_30 rfl rfl ?_
    refine xgX7_15 34 C mq_683 dX7_transmit_31 rfl ?_
    refine x_iconst 35 C (nI 1) dX7_transmit_34 ki_1 rfl ?_
    refine x_iadd 36 C dX7_transmit_35 rfl ?_
    refine xpX7_15 39 C mq_683 dX7_transmit_36 rfl hf (fun M3 hf => ?_)
    refine x_alN 40 C dX7_transmit_39 0 rfl rfl rfl ?_
    refine xgX7_0 43 C mq_668 dX7_transmit_40 rfl ?_
    refine x_sipush 46 C (nI 421) dX7_transmit_43 ks_421 rfl ?_
    refine x_ilN 47 C dX7_transmit_46 1 rfl rfl rfl ?_
    refine x_iadd 48 C dX7_transmit_47 rfl ?_
    refine x_dup2 49 C dX7_transmit_48 rfl rfl rfl ?_
    refine xrR_1 50 C dX7_transmit_49 rfl hf (fun x4 hf => ?_)
    refine x_iconst 51 C (nI 1) dX7_transmit_50 ki_1 rfl ?_
    refine x_iadd 52 C dX7_transmit_51 rfl ?_
    refine xwR_1 53 C dX7_transmit_52 rfl hf (fun M5 hf => ?_)
    exact x_vret C HQ rfl dX7_transmit_53 hf
set_option maxRecDepth 20000 in
set_option maxHeartbeats 1000000 in
theorem tX7_cell {l : Launch} {Y : xY} {ad : Nat → Nat} {fr : va_W} {M : xM} {p1 : Int32} {p2 : Int32} {z0 : Int32} (hf : fX7_cell M p1 p2 = some z0) : xcI l Y (wR Y ad fr) yX7_cell cX7_cell 2 (some .int) 0 0 [.int p1, .int p2] M z0 M := by
  refine x_entryI [(0, .int p1), (1, .int p2)] pnX7 rfl (Nat.le_of_ble_eq_true rfl) rfl (fun X C HQ => ?_)
  unfold fX7_cell at hf
  refine x_bipush 2 C (nI 8) dX7_cell_0 kb_8 rfl ?_
  refine x_ilN 3 C dX7_cell_2 0 rfl rfl rfl ?_
  refine x_imul 4 C dX7_cell_3 rfl ?_
  refine x_ilN 5 C dX7_cell_4 1 rfl rfl rfl ?_
  refine x_iadd 6 C dX7_cell_5 rfl ?_
  exact x_iretP C HQ rfl (vp_nar_int _) dX7_cell_6 hf
set_option maxRecDepth 20000 in
set_option maxHeartbeats 1000000 in
theorem tX7_receive_B171 {l : Launch} {Y : xY} {X : xE} {ad : Nat → Nat} {fr : va_W} {z0 : xM} (C : xC Y X cX7_receive RX7 none 9 1 22) (HQ : xRV Y X (wR Y ad fr) z0)  (v1 : Int32) (v4 : Int32) (k233 : xM → Option (xM)) (Hk233 : ∀ (M : xM), k233 M = some z0 → xG Y l X (wR Y ad fr) M 233 [] []) (M : xM) (v8 : Int32) (b171 : xM → Int32 → Option (xM)) (Hb171 : ∀ (M : xM) (v8 : Int32), b171 M v8 = some z0 → xG Y l X (wR Y ad fr) M 171 [(0, .ref (ad 0)), (1, .int v1), (4, .int v4), (8, .int v8)] []) (hf : fX7_receive_B171 v1 v4 k233 M v8 b171 = some z0) : xG Y l X (wR Y ad fr) M 171 [(0, .ref (ad 0)), (1, .int v1), (4, .int v4), (8, .int v8)] [] := by
  unfold fX7_receive_B171 at hf
  refine x_il 173 C dX7_receive_171 3 rfl rfl ?_
  refine x_alN 174 C dX7_receive_173 0 rfl rfl rfl ?_
  refine x_cvIP 177 C [] hwX7_ports mq_741 dX7_receive_174 rfl ⟨Nat.le_of_ble_eq_true rfl, Nat.le_of_ble_eq_true rfl⟩ 0 wR_at_0 rfl rfl rfl (Nat.le_of_ble_eq_true rfl) (fun z hz => tX7_ports hz) hf (fun z7 hf => ?_)
  refine x_icmp_ge 180 C 233 dX7_receive_177 (by decide) rfl hf (fun hf => ?_) (fun hf => ?_)
  ·
    refine x_sub [] rfl ?_
    exact Hk233 _ hf
  ·
    refine x_il 182 C dX7_receive_180 3 rfl rfl ?_
    refine x_ilN 183 C dX7_receive_182 1 rfl rfl rfl ?_
    refine x_icmp_eq 186 C 227 dX7_receive_183 (by decide) rfl hf (fun hf => ?_) (fun hf => ?_)
    ·
      refine x_iinc 230 C (v8 + (nI 1)) (lv2 := [(8, .int (v8 + (nI 1))), (0, .ref (ad 0)), (1, .int v1), (4, .int v4)]) dX7_receive_227 3 rfl rfl rfl (Nat.le_of_ble_eq_true rfl) rfl ?_
      refine x_goto 171 C dX7_receive_230 (by decide) ?_
      refine x_sub [1, 2, 3, 0] rfl ?_
      exact Hb171 _ _ hf
    ·
      refine x_alN 187 C dX7_receive_186 0 rfl rfl rfl ?_
      refine x_il 189 C dX7_receive_187 3 rfl rfl ?_
      refine x_cvIP 192 C [.int v8] hwX7_bridgeOf mq_749 dX7_receive_189 rfl ⟨Nat.le_of_ble_eq_true rfl, Nat.le_of_ble_eq_true rfl⟩ 0 wR_at_0 rfl rfl rfl (Nat.le_of_ble_eq_true rfl) (fun z hz => tX7_bridgeOf hz) hf (fun z8 hf => ?_)
      refine x_il 194 C dX7_receive_192 2 rfl rfl ?_
      refine x_icmp_ne 197 C 227 dX7_receive_194 (by decide) rfl hf (fun hf => ?_) (fun hf => ?_)
      ·
        refine x_iinc 230 C (v8 + (nI 1)) (lv2 := [(8, .int (v8 + (nI 1))), (0, .ref (ad 0)), (1, .int v1), (4, .int v4)]) dX7_receive_227 3 rfl rfl rfl (Nat.le_of_ble_eq_true rfl) rfl ?_
        refine x_goto 171 C dX7_receive_230 (by decide) ?_
        refine x_sub [1, 2, 3, 0] rfl ?_
        exact Hb171 _ _ hf
      ·
        refine x_alN 198 C dX7_receive_197 0 rfl rfl rfl ?_
        refine xgX7_0 201 C mq_668 dX7_receive_198 rfl ?_
        refine x_bipush 203 C (nI 117) dX7_receive_201 kb_117 rfl ?_
        refine x_il 205 C dX7_receive_203 3 rfl rfl ?_
        refine x_iadd 206 C dX7_receive_205 rfl ?_
        refine xrR_1 207 C dX7_receive_206 rfl hf (fun x9 hf => ?_)
        refine x_iconst 208 C (nI 4) dX7_receive_207 ki_4 rfl ?_
        refine x_icmp_ne 211 C 227 dX7_receive_208 (by decide) rfl hf (fun hf => ?_) (fun hf => ?_)
        ·
          refine x_iinc 230 C (v8 + (nI 1)) (lv2 := [(8, .int (v8 + (nI 1))), (0, .ref (ad 0)), (1, .int v1), (4, .int v4)]) dX7_receive_227 3 rfl rfl rfl (Nat.le_of_ble_eq_true rfl) rfl ?_
          refine x_goto 171 C dX7_receive_230 (by decide) ?_
          refine x_sub [1, 2, 3, 0] rfl ?_
          exact Hb171 _ _ hf
        ·
          refine x_alN 212 C dX7_receive_211 0 rfl rfl rfl ?_
          refine x_alN 213 C dX7_receive_212 0 rfl rfl rfl ?_
          refine xgX7_0 216 C mq_668 dX7_receive_213 rfl ?_
          refine x_bipush 218 C (nI 45) dX7_receive_216 kb_45 rfl ?_
          refine x_il 220 C dX7_receive_218 3 rfl rfl ?_
          refine x_iadd 221 C dX7_receive_220 rfl ?_
          refine xrR_1 222 C dX7_receive_221 rfl hf (fun x10 hf => ?_)
          refine x_il 224 C dX7_receive_222 3 rfl rfl ?_
          refine x_cvVM 227 C [.int x10, .int v8] hwX7_transmit mq_928 dX7_receive_224 rfl ⟨Nat.le_of_ble_eq_true rfl, Nat.le_of_ble_eq_true rfl⟩ 0 wR_at_0 rfl rfl rfl (Nat.le_of_ble_eq_true rfl) (fun z hz => tX7_transmit hz) hf (fun z11 hf => ?_)
          refine x_iinc 230 C (v8 + (nI 1)) (lv2 := [(8, .int (v8 + (nI 1))), (0, .ref (ad 0)), (1, .int v1), (4, .int v4)]) dX7_receive_227 3 rfl rfl rfl (Nat.le_of_ble_eq_true rfl) rfl ?_
          refine x_goto 171 C dX7_receive_230 (by decide) ?_
          refine x_sub [1, 2, 3, 0] rfl ?_
          exact Hb171 _ _ hf
set_option maxRecDepth 20000 in
set_option maxHeartbeats 1000000 in
theorem tX7_receive_L171 {l : Launch} {Y : xY} {X : xE} {ad : Nat → Nat} {fr : va_W} {z0 : xM} (C : xC Y X cX7_receive RX7 none 9 1 22) (HQ : xRV Y X (wR Y ad fr) z0)  (v1 : Int32) (v4 : Int32) (k233 : xM → Option (xM)) (Hk233 : ∀ (M : xM), k233 M = some z0 → xG Y l X (wR Y ad fr) M 233 [] []) : ∀ (n : Nat) (M : xM) (v8 : Int32), fX7_receive_L171 v1 v4 k233 n M v8 = some z0 → xG Y l X (wR Y ad fr) M 171 [(0, .ref (ad 0)), (1, .int v1), (4, .int v4), (8, .int v8)] [] := by
  intro n
  induction n with
  | zero =>
    intro M v8 hf
    cases hf
  | succ n ih =>
    intro M v8 hf
    exact tX7_receive_B171 C HQ  v1 v4 _ Hk233 M v8 _ (fun M v8 hf => ih M v8 hf) hf
set_option maxRecDepth 20000 in
set_option maxHeartbeats 1000000 in
theorem tX7_receive_j168 {l : Launch} {Y : xY} {X : xE} {ad : Nat → Nat} {fr : va_W} {z0 : xM} (C : xC Y X cX7_receive RX7 none 9 1 22) (HQ : xRV Y X (wR Y ad fr) z0) (M : xM) (v1 : Int32) (v4 : Int32)  (hf : fX7_receive_j168 M v1 v4 = some z0) : xG Y l X (wR Y ad fr) M 168 [(0, .ref (ad 0)), (1, .int v1), (4, .int v4)] [] := by
  unfold fX7_receive_j168 at hf
  refine x_iconst 169 C (nI 0) dX7_receive_168 ki_0 rfl ?_
  refine x_is 171 C 8 (lv2 := [(8, .int (nI 0)), (0, .ref (ad 0)), (1, .int v1), (4, .int v4)]) dX7_receive_169 rfl (Nat.le_of_ble_eq_true rfl) rfl ?_
  refine x_sub [1, 2, 3, 0] rfl ?_
  refine tX7_receive_L171 C HQ _ _ _ (fun M12 hf => ?_) 512 _ _ hf
  exact x_vret C HQ rfl dX7_receive_233 hf
set_option maxRecDepth 20000 in
set_option maxHeartbeats 1000000 in
theorem tX7_receive_j124 {l : Launch} {Y : xY} {X : xE} {ad : Nat → Nat} {fr : va_W} {z0 : xM} (C : xC Y X cX7_receive RX7 none 9 1 22) (HQ : xRV Y X (wR Y ad fr) z0) (M : xM) (v1 : Int32) (v4 : Int32) (v6 : Int32) (s0 : Int32)  (hf : fX7_receive_j124 M v1 v4 v6 s0 = some z0) : xG Y l X (wR Y ad fr) M 124 [(0, .ref (ad 0)), (1, .int v1), (4, .int v4), (6, .int v6)] [.int s0] := by
  unfold fX7_receive_j124 at hf
  refine x_is 126 C 7 (lv2 := [(7, .int s0), (0, .ref (ad 0)), (1, .int v1), (4, .int v4), (6, .int v6)]) dX7_receive_124 rfl (Nat.le_of_ble_eq_true rfl) rfl ?_
  refine x_il 128 C dX7_receive_126 4 rfl rfl ?_
  refine x_if_eq 131 C 168 dX7_receive_128 (by decide) rfl hf (fun hf => ?_) (fun hf => ?_)
  ·
    refine x_sub [1, 2, 3] rfl ?_
    exact tX7_receive_j168 C HQ _ _ _  hf
  ·
    refine x_alN 132 C dX7_receive_131 1 rfl rfl rfl ?_
    refine xgX7_0 135 C mq_668 dX7_receive_132 rfl ?_
    refine x_bipush 137 C (nI 117) dX7_receive_135 kb_117 rfl ?_
    refine x_il 139 C dX7_receive_137 0 rfl rfl ?_
    refine x_iadd 140 C dX7_receive_139 rfl ?_
    refine xrR_1 141 C dX7_receive_140 rfl hf (fun x13 hf => ?_)
    refine x_iconst 142 C (nI 4) dX7_receive_141 ki_4 rfl ?_
    refine x_icmp_ne 145 C 168 dX7_receive_142 (by decide) rfl hf (fun hf => ?_) (fun hf => ?_)
    ·
      refine x_sub [1, 2, 3] rfl ?_
      exact tX7_receive_j168 C HQ _ _ _  hf
    ·
      refine x_il 147 C dX7_receive_145 0 rfl rfl ?_
      refine x_ilN 148 C dX7_receive_147 2 rfl rfl rfl ?_
      refine x_icmp_eq 151 C 167 dX7_receive_148 (by decide) rfl hf (fun hf => ?_) (fun hf => ?_)
      ·
        exact x_vret C HQ rfl dX7_receive_167 hf
      ·
        refine x_alN 152 C dX7_receive_151 1 rfl rfl rfl ?_
        refine x_alN 153 C dX7_receive_152 1 rfl rfl rfl ?_
        refine xgX7_0 156 C mq_668 dX7_receive_153 rfl ?_
        refine x_bipush 158 C (nI 45) dX7_receive_156 kb_45 rfl ?_
        refine x_il 160 C dX7_receive_158 0 rfl rfl ?_
        refine x_iadd 161 C dX7_receive_160 rfl ?_
        refine xrR_1 162 C dX7_receive_161 rfl hf (fun x14 hf => ?_)
        refine x_il 164 C dX7_receive_162 0 rfl rfl ?_
        refine x_cvVM 167 C [.int x14, .int s0] hwX7_transmit mq_928 dX7_receive_164 rfl ⟨Nat.le_of_ble_eq_true rfl, Nat.le_of_ble_eq_true rfl⟩ 0 wR_at_0 rfl rfl rfl (Nat.le_of_ble_eq_true rfl) (fun z hz => tX7_transmit hz) hf (fun z15 hf => ?_)
        exact x_vret C HQ rfl dX7_receive_167 hf
set_option maxRecDepth 20000 in
set_option maxHeartbeats 1000000 in
theorem tX7_receive_j97 {l : Launch} {Y : xY} {X : xE} {ad : Nat → Nat} {fr : va_W} {z0 : xM} (C : xC Y X cX7_receive RX7 none 9 1 22) (HQ : xRV Y X (wR Y ad fr) z0) (M : xM) (v1 : Int32) (v3 : Int32) (v4 : Int32) (s0 : Int32)  (hf : fX7_receive_j97 M v1 v3 v4 s0 = some z0) : xG Y l X (wR Y ad fr) M 97 [(0, .ref (ad 0)), (1, .int v1), (3, .int v3), (4, .int v4)] [.int s0] := by
  unfold fX7_receive_j97 at hf
  refine x_is 99 C 6 (lv2 := [(6, .int s0), (0, .ref (ad 0)), (1, .int v1), (3, .int v3), (4, .int v4)]) dX7_receive_97 rfl (Nat.le_of_ble_eq_true rfl) rfl ?_
  refine x_il 101 C dX7_receive_99 0 rfl rfl ?_
  refine x_if_eq 104 C 122 dX7_receive_101 (by decide) rfl hf (fun hf => ?_) (fun hf => ?_)
  ·
    refine x_bipush 124 C (-9) dX7_receive_122 kb_m9 rfl ?_
    refine x_sub [1, 2, 4, 0] rfl ?_
    exact tX7_receive_j124 C HQ _ _ _ _ _  hf
  ·
    refine x_alN 105 C dX7_receive_104 1 rfl rfl rfl ?_
    refine xgX7_0 108 C mq_668 dX7_receive_105 rfl ?_
    refine x_sipush 111 C (nI 293) dX7_receive_108 ks_293 rfl ?_
    refine x_il 113 C dX7_receive_111 4 rfl rfl ?_
    refine x_ilN 114 C dX7_receive_113 3 rfl rfl rfl ?_
    refine x_csIP 117 C [.int v4, .int v3] hwX7_cell mq_936 dX7_receive_114 rfl ⟨Nat.le_of_ble_eq_true rfl, Nat.le_of_ble_eq_true rfl⟩ rfl rfl (Nat.le_of_ble_eq_true rfl) (fun z hz => tX7_cell hz) hf (fun z16 hf => ?_)
    refine x_iadd 118 C dX7_receive_117 rfl ?_
    refine xrR_1 119 C dX7_receive_118 rfl hf (fun x17 hf => ?_)
    refine x_goto 124 C dX7_receive_119 (by decide) ?_
    refine x_sub [1, 2, 4, 0] rfl ?_
    exact tX7_receive_j124 C HQ _ _ _ _ _  hf
set_option maxRecDepth 20000 in
set_option maxHeartbeats 1000000 in
theorem tX7_receive_j63 {l : Launch} {Y : xY} {X : xE} {ad : Nat → Nat} {fr : va_W} {z0 : xM} (C : xC Y X cX7_receive RX7 none 9 1 22) (HQ : xRV Y X (wR Y ad fr) z0) (M : xM) (v1 : Int32) (v3 : Int32) (v4 : Int32) (v5 : Int32)  (hf : fX7_receive_j63 M v1 v3 v4 v5 = some z0) : xG Y l X (wR Y ad fr) M 63 [(0, .ref (ad 0)), (1, .int v1), (3, .int v3), (4, .int v4), (5, .int v5)] [] := by
  unfold fX7_receive_j63 at hf
  refine x_il 65 C dX7_receive_63 4 rfl rfl ?_
  refine x_iconst 66 C (nI 4) dX7_receive_65 ki_4 rfl ?_
  refine x_icmp_eq 69 C 70 dX7_receive_66 (by decide) rfl hf (fun hf => ?_) (fun hf => ?_)
  ·
    refine x_ilN 71 C dX7_receive_70 2 rfl rfl rfl ?_
    refine x_if_lt 74 C 96 dX7_receive_71 (by decide) rfl hf (fun hf => ?_) (fun hf => ?_)
    ·
      refine x_iconst 97 C (nI 0) dX7_receive_96 ki_0 rfl ?_
      refine x_sub [0, 1, 2, 3] rfl ?_
      exact tX7_receive_j97 C HQ _ _ _ _ _  hf
    ·
      refine x_alN 75 C dX7_receive_74 0 rfl rfl rfl ?_
      refine xgX7_0 78 C mq_668 dX7_receive_75 rfl ?_
      refine x_sipush 81 C (nI 357) dX7_receive_78 ks_357 rfl ?_
      refine x_il 83 C dX7_receive_81 3 rfl rfl ?_
      refine x_ilN 84 C dX7_receive_83 2 rfl rfl rfl ?_
      refine x_csIP 87 C [.int v4, .int v3] hwX7_cell mq_936 dX7_receive_84 rfl ⟨Nat.le_of_ble_eq_true rfl, Nat.le_of_ble_eq_true rfl⟩ rfl rfl (Nat.le_of_ble_eq_true rfl) (fun z hz => tX7_cell hz) hf (fun z18 hf => ?_)
      refine x_iadd 88 C dX7_receive_87 rfl ?_
      refine xrR_1 89 C dX7_receive_88 rfl hf (fun x19 hf => ?_)
      refine x_if_le 92 C 96 dX7_receive_89 (by decide) rfl hf (fun hf => ?_) (fun hf => ?_)
      ·
        refine x_iconst 97 C (nI 0) dX7_receive_96 ki_0 rfl ?_
        refine x_sub [0, 1, 2, 3] rfl ?_
        exact tX7_receive_j97 C HQ _ _ _ _ _  hf
      ·
        refine x_iconst 93 C (nI 1) dX7_receive_92 ki_1 rfl ?_
        refine x_goto 97 C dX7_receive_93 (by decide) ?_
        refine x_sub [0, 1, 2, 3] rfl ?_
        exact tX7_receive_j97 C HQ _ _ _ _ _  hf
  ·
    exact x_vret C HQ rfl dX7_receive_69 hf
set_option maxRecDepth 20000 in
set_option maxHeartbeats 1000000 in
theorem tX7_receive_j30 {l : Launch} {Y : xY} {X : xE} {ad : Nat → Nat} {fr : va_W} {z0 : xM} (C : xC Y X cX7_receive RX7 none 9 1 22) (HQ : xRV Y X (wR Y ad fr) z0) (M : xM) (v1 : Int32) (v2 : Int32) (v3 : Int32) (v4 : Int32) (v5 : Int32)  (hf : fX7_receive_j30 M v1 v2 v3 v4 v5 = some z0) : xG Y l X (wR Y ad fr) M 30 [(0, .ref (ad 0)), (1, .int v1), (2, .int v2), (3, .int v3), (4, .int v4), (5, .int v5)] [] := by
  unfold fX7_receive_j30 at hf
  refine x_alN 31 C dX7_receive_30 0 rfl rfl rfl ?_
  refine xgX7_0 34 C mq_668 dX7_receive_31 rfl ?_
  refine x_sipush 37 C (nI 293) dX7_receive_34 ks_293 rfl ?_
  refine x_il 39 C dX7_receive_37 4 rfl rfl ?_
  refine x_ilN 40 C dX7_receive_39 2 rfl rfl rfl ?_
  refine x_csIP 43 C [.int v4, .int v2] hwX7_cell mq_936 dX7_receive_40 rfl ⟨Nat.le_of_ble_eq_true rfl, Nat.le_of_ble_eq_true rfl⟩ rfl rfl (Nat.le_of_ble_eq_true rfl) (fun z hz => tX7_cell hz) hf (fun z3 hf => ?_)
  refine x_iadd 44 C dX7_receive_43 rfl ?_
  refine x_ilN 45 C dX7_receive_44 1 rfl rfl rfl ?_
  refine xwR_1 46 C dX7_receive_45 rfl hf (fun M4 hf => ?_)
  refine x_alN 47 C dX7_receive_46 0 rfl rfl rfl ?_
  refine xgX7_0 50 C mq_668 dX7_receive_47 rfl ?_
  refine x_sipush 53 C (nI 357) dX7_receive_50 ks_357 rfl ?_
  refine x_il 55 C dX7_receive_53 4 rfl rfl ?_
  refine x_ilN 56 C dX7_receive_55 2 rfl rfl rfl ?_
  refine x_csIP 59 C [.int v4, .int v2] hwX7_cell mq_936 dX7_receive_56 rfl ⟨Nat.le_of_ble_eq_true rfl, Nat.le_of_ble_eq_true rfl⟩ rfl rfl (Nat.le_of_ble_eq_true rfl) (fun z hz => tX7_cell hz) hf (fun z5 hf => ?_)
  refine x_iadd 60 C dX7_receive_59 rfl ?_
  refine x_bipush 62 C (nI 10) dX7_receive_60 kb_10 rfl ?_
  refine xwR_1 63 C dX7_receive_62 rfl hf (fun M6 hf => ?_)
  refine x_sub [0, 1, 3, 4, 5] rfl ?_
  exact tX7_receive_j63 C HQ _ _ _ _ _  hf
set_option maxRecDepth 20000 in
set_option maxHeartbeats 1000000 in
theorem tX7_receive {l : Launch} {Y : xY} {ad : Nat → Nat} {fr : va_W} {M : xM} {p1 : Int32} {p2 : Int32} {p3 : Int32} {z0 : xM} (hf : fX7_receive M p1 p2 p3 = some z0) : xcV l Y (wR Y ad fr) yX7_receive cX7_receive 9 none 1 22 [.ref (ad 0), .int p1, .int p2, .int p3] M z0 := by
  refine x_entryV [(0, .ref (ad 0)), (1, .int p1), (2, .int p2), (3, .int p3)] pnX7 rfl (Nat.le_of_ble_eq_true rfl) rfl (fun X C HQ => ?_)
  unfold fX7_receive at hf
  refine x_alN 1 C dX7_receive_0 0 rfl rfl rfl ?_
  refine x_ilN 2 C dX7_receive_1 1 rfl rfl rfl ?_
  refine x_cvIP 5 C [.int p1] hwX7_bridgeOf mq_749 dX7_receive_2 rfl ⟨Nat.le_of_ble_eq_true rfl, Nat.le_of_ble_eq_true rfl⟩ 0 wR_at_0 rfl rfl rfl (Nat.le_of_ble_eq_true rfl) (fun z hz => tX7_bridgeOf hz) hf (fun z1 hf => ?_)
  refine x_is 7 C 4 (lv2 := [(4, .int z1), (0, .ref (ad 0)), (1, .int p1), (2, .int p2), (3, .int p3)]) dX7_receive_5 rfl (Nat.le_of_ble_eq_true rfl) rfl ?_
  refine x_alN 8 C dX7_receive_7 1 rfl rfl rfl ?_
  refine xgX7_0 11 C mq_668 dX7_receive_8 rfl ?_
  refine x_bipush 13 C (nI 117) dX7_receive_11 kb_117 rfl ?_
  refine x_ilN 14 C dX7_receive_13 2 rfl rfl rfl ?_
  refine x_iadd 15 C dX7_receive_14 rfl ?_
  refine xrR_1 16 C dX7_receive_15 rfl hf (fun x2 hf => ?_)
  refine x_is 18 C 5 (lv2 := [(5, .int x2), (4, .int z1), (0, .ref (ad 0)), (1, .int p1), (2, .int p2), (3, .int p3)]) dX7_receive_16 rfl (Nat.le_of_ble_eq_true rfl) rfl ?_
  refine x_il 20 C dX7_receive_18 0 rfl rfl ?_
  refine x_iconst 21 C (nI 3) dX7_receive_20 ki_3 rfl ?_
  refine x_icmp_eq 24 C 30 dX7_receive_21 (by decide) rfl hf (fun hf => ?_) (fun hf => ?_)
  ·
    refine x_sub [2, 3, 4, 5, 1, 0] rfl ?_
    exact tX7_receive_j30 C HQ _ _ _ _ _ _  hf
  ·
    refine x_il 26 C dX7_receive_24 0 rfl rfl ?_
    refine x_iconst 27 C (nI 4) dX7_receive_26 ki_4 rfl ?_
    refine x_icmp_ne 30 C 63 dX7_receive_27 (by decide) rfl hf (fun hf => ?_) (fun hf => ?_)
    ·
      refine x_sub [2, 3, 5, 1, 0] rfl ?_
      exact tX7_receive_j63 C HQ _ _ _ _ _  hf
    ·
      refine x_sub [2, 3, 4, 5, 1, 0] rfl ?_
      exact tX7_receive_j30 C HQ _ _ _ _ _ _  hf
set_option maxRecDepth 20000 in
set_option maxHeartbeats 1000000 in
theorem tX7_send_B26 {l : Launch} {Y : xY} {X : xE} {ad : Nat → Nat} {fr : va_W} {z0 : Int32 × xM} (C : xC Y X cX7_send RX7 (some .int) 5 2 50) (HQ : xRI Y X (wR Y ad fr) z0.1 z0.2)  (v1 : Int32) (v2 : Int32) (k49 : xM → Option (Int32 × xM)) (Hk49 : ∀ (M : xM), k49 M = some z0 → xG Y l X (wR Y ad fr) M 49 [(0, .ref (ad 0)), (1, .int v1), (2, .int v2)] []) (M : xM) (v3 : Int32) (b26 : xM → Int32 → Option (Int32 × xM)) (Hb26 : ∀ (M : xM) (v3 : Int32), b26 M v3 = some z0 → xG Y l X (wR Y ad fr) M 26 [(0, .ref (ad 0)), (1, .int v1), (2, .int v2), (3, .int v3)] []) (hf : fX7_send_B26 v1 v2 k49 M v3 b26 = some z0) : xG Y l X (wR Y ad fr) M 26 [(0, .ref (ad 0)), (1, .int v1), (2, .int v2), (3, .int v3)] [] := by
  unfold fX7_send_B26 at hf
  refine x_ilN 27 C dX7_send_26 3 rfl rfl rfl ?_
  refine x_bipush 29 C (nI 10) dX7_send_27 kb_10 rfl ?_
  refine x_icmp_ge 32 C 49 dX7_send_29 (by decide) rfl hf (fun hf => ?_) (fun hf => ?_)
  ·
    refine x_sub [0, 1, 2] rfl ?_
    exact Hk49 _ hf
  ·
    refine x_alN 33 C dX7_send_32 0 rfl rfl rfl ?_
    refine xgX7_0 36 C mq_668 dX7_send_33 rfl ?_
    refine x_sipush 39 C (nI 421) dX7_send_36 ks_421 rfl ?_
    refine x_ilN 40 C dX7_send_39 3 rfl rfl rfl ?_
    refine x_iadd 41 C dX7_send_40 rfl ?_
    refine x_iconst 42 C (nI 0) dX7_send_41 ki_0 rfl ?_
    refine xwR_1 43 C dX7_send_42 rfl hf (fun M2 hf => ?_)
    refine x_iinc 46 C (v3 + (nI 1)) (lv2 := [(3, .int (v3 + (nI 1))), (0, .ref (ad 0)), (1, .int v1), (2, .int v2)]) dX7_send_43 3 rfl rfl rfl (Nat.le_of_ble_eq_true rfl) rfl ?_
    refine x_goto 26 C dX7_send_46 (by decide) ?_
    refine x_sub [1, 2, 3, 0] rfl ?_
    exact Hb26 _ _ hf
set_option maxRecDepth 20000 in
set_option maxHeartbeats 1000000 in
theorem tX7_send_L26 {l : Launch} {Y : xY} {X : xE} {ad : Nat → Nat} {fr : va_W} {z0 : Int32 × xM} (C : xC Y X cX7_send RX7 (some .int) 5 2 50) (HQ : xRI Y X (wR Y ad fr) z0.1 z0.2)  (v1 : Int32) (v2 : Int32) (k49 : xM → Option (Int32 × xM)) (Hk49 : ∀ (M : xM), k49 M = some z0 → xG Y l X (wR Y ad fr) M 49 [(0, .ref (ad 0)), (1, .int v1), (2, .int v2)] []) : ∀ (n : Nat) (M : xM) (v3 : Int32), fX7_send_L26 v1 v2 k49 n M v3 = some z0 → xG Y l X (wR Y ad fr) M 26 [(0, .ref (ad 0)), (1, .int v1), (2, .int v2), (3, .int v3)] [] := by
  intro n
  induction n with
  | zero =>
    intro M v3 hf
    cases hf
  | succ n ih =>
    intro M v3 hf
    exact tX7_send_B26 C HQ  v1 v2 _ Hk49 M v3 _ (fun M v3 hf => ih M v3 hf) hf
set_option maxRecDepth 20000 in
set_option maxHeartbeats 1000000 in
theorem tX7_send_B83 {l : Launch} {Y : xY} {X : xE} {ad : Nat → Nat} {fr : va_W} {z0 : Int32 × xM} (C : xC Y X cX7_send RX7 (some .int) 5 2 50) (HQ : xRI Y X (wR Y ad fr) z0.1 z0.2)  (v1 : Int32) (v2 : Int32) (v3 : Int32) (k145 : xM → Option (Int32 × xM)) (Hk145 : ∀ (M : xM), k145 M = some z0 → xG Y l X (wR Y ad fr) M 145 [(0, .ref (ad 0)), (1, .int v1), (2, .int v2), (3, .int v3)] []) (M : xM) (v4 : Int32) (b83 : xM → Int32 → Option (Int32 × xM)) (Hb83 : ∀ (M : xM) (v4 : Int32), b83 M v4 = some z0 → xG Y l X (wR Y ad fr) M 83 [(0, .ref (ad 0)), (1, .int v1), (2, .int v2), (3, .int v3), (4, .int v4)] []) (hf : fX7_send_B83 v1 v2 v3 k145 M v4 b83 = some z0) : xG Y l X (wR Y ad fr) M 83 [(0, .ref (ad 0)), (1, .int v1), (2, .int v2), (3, .int v3), (4, .int v4)] [] := by
  unfold fX7_send_B83 at hf
  refine x_il 85 C dX7_send_83 4 rfl rfl ?_
  refine x_alN 86 C dX7_send_85 0 rfl rfl rfl ?_
  refine x_cvIP 89 C [] hwX7_ports mq_741 dX7_send_86 rfl ⟨Nat.le_of_ble_eq_true rfl, Nat.le_of_ble_eq_true rfl⟩ 0 wR_at_0 rfl rfl rfl (Nat.le_of_ble_eq_true rfl) (fun z hz => tX7_ports hz) hf (fun z7 hf => ?_)
  refine x_icmp_ge 92 C 145 dX7_send_89 (by decide) rfl hf (fun hf => ?_) (fun hf => ?_)
  ·
    refine x_sub [0, 1, 2, 3] rfl ?_
    exact Hk145 _ hf
  ·
    refine x_il 94 C dX7_send_92 4 rfl rfl ?_
    refine x_alN 95 C dX7_send_94 0 rfl rfl rfl ?_
    refine xgX7_14 98 C mq_682 dX7_send_95 rfl ?_
    refine x_ilN 99 C dX7_send_98 3 rfl rfl rfl ?_
    refine xrR_15 100 C dX7_send_99 rfl hf (fun x8 hf => ?_)
    refine x_icmp_eq 103 C 139 dX7_send_100 (by decide) rfl hf (fun hf => ?_) (fun hf => ?_)
    ·
      refine x_iinc 142 C (v4 + (nI 1)) (lv2 := [(4, .int (v4 + (nI 1))), (0, .ref (ad 0)), (1, .int v1), (2, .int v2), (3, .int v3)]) dX7_send_139 4 rfl rfl rfl (Nat.le_of_ble_eq_true rfl) rfl ?_
      refine x_goto 83 C dX7_send_142 (by decide) ?_
      refine x_sub [1, 2, 3, 4, 0] rfl ?_
      exact Hb83 _ _ hf
    ·
      refine x_alN 104 C dX7_send_103 0 rfl rfl rfl ?_
      refine xgX7_0 107 C mq_668 dX7_send_104 rfl ?_
      refine x_bipush 109 C (nI 45) dX7_send_107 kb_45 rfl ?_
      refine x_il 111 C dX7_send_109 4 rfl rfl ?_
      refine x_iadd 112 C dX7_send_111 rfl ?_
      refine xrR_1 113 C dX7_send_112 rfl hf (fun x9 hf => ?_)
      refine x_alN 114 C dX7_send_113 0 rfl rfl rfl ?_
      refine xgX7_13 117 C mq_681 dX7_send_114 rfl ?_
      refine x_ilN 118 C dX7_send_117 3 rfl rfl rfl ?_
      refine xrR_14 119 C dX7_send_118 rfl hf (fun x10 hf => ?_)
      refine x_icmp_ne 122 C 139 dX7_send_119 (by decide) rfl hf (fun hf => ?_) (fun hf => ?_)
      ·
        refine x_iinc 142 C (v4 + (nI 1)) (lv2 := [(4, .int (v4 + (nI 1))), (0, .ref (ad 0)), (1, .int v1), (2, .int v2), (3, .int v3)]) dX7_send_139 4 rfl rfl rfl (Nat.le_of_ble_eq_true rfl) rfl ?_
        refine x_goto 83 C dX7_send_142 (by decide) ?_
        refine x_sub [1, 2, 3, 4, 0] rfl ?_
        exact Hb83 _ _ hf
      ·
        refine x_alN 123 C dX7_send_122 0 rfl rfl rfl ?_
        refine x_il 125 C dX7_send_123 4 rfl rfl ?_
        refine x_cvIP 128 C [.int v4] hwX7_isActive mq_745 dX7_send_125 rfl ⟨Nat.le_of_ble_eq_true rfl, Nat.le_of_ble_eq_true rfl⟩ 0 wR_at_0 rfl rfl rfl (Nat.le_of_ble_eq_true rfl) (fun z hz => tX7_isActive hz) hf (fun z11 hf => ?_)
        refine x_if_eq 131 C 139 dX7_send_128 (by decide) rfl hf (fun hf => ?_) (fun hf => ?_)
        ·
          refine x_iinc 142 C (v4 + (nI 1)) (lv2 := [(4, .int (v4 + (nI 1))), (0, .ref (ad 0)), (1, .int v1), (2, .int v2), (3, .int v3)]) dX7_send_139 4 rfl rfl rfl (Nat.le_of_ble_eq_true rfl) rfl ?_
          refine x_goto 83 C dX7_send_142 (by decide) ?_
          refine x_sub [1, 2, 3, 4, 0] rfl ?_
          exact Hb83 _ _ hf
        ·
          refine x_alN 132 C dX7_send_131 0 rfl rfl rfl ?_
          refine x_il 134 C dX7_send_132 4 rfl rfl ?_
          refine x_ilN 135 C dX7_send_134 1 rfl rfl rfl ?_
          refine x_ilN 136 C dX7_send_135 2 rfl rfl rfl ?_
          refine x_cvVM 139 C [.int v4, .int v1, .int v2] hwX7_receive mq_932 dX7_send_136 rfl ⟨Nat.le_of_ble_eq_true rfl, Nat.le_of_ble_eq_true rfl⟩ 0 wR_at_0 rfl rfl rfl (Nat.le_of_ble_eq_true rfl) (fun z hz => tX7_receive hz) hf (fun z12 hf => ?_)
          refine x_iinc 142 C (v4 + (nI 1)) (lv2 := [(4, .int (v4 + (nI 1))), (0, .ref (ad 0)), (1, .int v1), (2, .int v2), (3, .int v3)]) dX7_send_139 4 rfl rfl rfl (Nat.le_of_ble_eq_true rfl) rfl ?_
          refine x_goto 83 C dX7_send_142 (by decide) ?_
          refine x_sub [1, 2, 3, 4, 0] rfl ?_
          exact Hb83 _ _ hf
set_option maxRecDepth 20000 in
set_option maxHeartbeats 1000000 in
theorem tX7_send_L83 {l : Launch} {Y : xY} {X : xE} {ad : Nat → Nat} {fr : va_W} {z0 : Int32 × xM} (C : xC Y X cX7_send RX7 (some .int) 5 2 50) (HQ : xRI Y X (wR Y ad fr) z0.1 z0.2)  (v1 : Int32) (v2 : Int32) (v3 : Int32) (k145 : xM → Option (Int32 × xM)) (Hk145 : ∀ (M : xM), k145 M = some z0 → xG Y l X (wR Y ad fr) M 145 [(0, .ref (ad 0)), (1, .int v1), (2, .int v2), (3, .int v3)] []) : ∀ (n : Nat) (M : xM) (v4 : Int32), fX7_send_L83 v1 v2 v3 k145 n M v4 = some z0 → xG Y l X (wR Y ad fr) M 83 [(0, .ref (ad 0)), (1, .int v1), (2, .int v2), (3, .int v3), (4, .int v4)] [] := by
  intro n
  induction n with
  | zero =>
    intro M v4 hf
    cases hf
  | succ n ih =>
    intro M v4 hf
    exact tX7_send_B83 C HQ  v1 v2 v3 _ Hk145 M v4 _ (fun M v4 hf => ih M v4 hf) hf
set_option maxRecDepth 20000 in
set_option maxHeartbeats 1000000 in
theorem tX7_send_B72 {l : Launch} {Y : xY} {X : xE} {ad : Nat → Nat} {fr : va_W} {z0 : Int32 × xM} (C : xC Y X cX7_send RX7 (some .int) 5 2 50) (HQ : xRI Y X (wR Y ad fr) z0.1 z0.2)  (v1 : Int32) (v2 : Int32) (k151 : xM → Option (Int32 × xM)) (Hk151 : ∀ (M : xM), k151 M = some z0 → xG Y l X (wR Y ad fr) M 151 [(0, .ref (ad 0))] []) (M : xM) (v3 : Int32) (b72 : xM → Int32 → Option (Int32 × xM)) (Hb72 : ∀ (M : xM) (v3 : Int32), b72 M v3 = some z0 → xG Y l X (wR Y ad fr) M 72 [(0, .ref (ad 0)), (1, .int v1), (2, .int v2), (3, .int v3)] []) (hf : fX7_send_B72 v1 v2 k151 M v3 b72 = some z0) : xG Y l X (wR Y ad fr) M 72 [(0, .ref (ad 0)), (1, .int v1), (2, .int v2), (3, .int v3)] [] := by
  unfold fX7_send_B72 at hf
  refine x_ilN 73 C dX7_send_72 3 rfl rfl rfl ?_
  refine x_alN 74 C dX7_send_73 0 rfl rfl rfl ?_
  refine xgX7_15 77 C mq_683 dX7_send_74 rfl ?_
  refine x_icmp_ge 80 C 151 dX7_send_77 (by decide) rfl hf (fun hf => ?_) (fun hf => ?_)
  ·
    refine x_sub [0] rfl ?_
    exact Hk151 _ hf
  ·
    refine x_iconst 81 C (nI 0) dX7_send_80 ki_0 rfl ?_
    refine x_is 83 C 4 (lv2 := [(4, .int (nI 0)), (0, .ref (ad 0)), (1, .int v1), (2, .int v2), (3, .int v3)]) dX7_send_81 rfl (Nat.le_of_ble_eq_true rfl) rfl ?_
    refine x_sub [1, 2, 3, 4, 0] rfl ?_
    refine tX7_send_L83 C HQ _ _ _ _ (fun M13 hf => ?_) 512 _ _ hf
    refine x_iinc 148 C (v3 + (nI 1)) (lv2 := [(3, .int (v3 + (nI 1))), (0, .ref (ad 0)), (1, .int v1), (2, .int v2)]) dX7_send_145 3 rfl rfl rfl (Nat.le_of_ble_eq_true rfl) rfl ?_
    refine x_goto 72 C dX7_send_148 (by decide) ?_
    refine x_sub [1, 2, 3, 0] rfl ?_
    exact Hb72 _ _ hf
set_option maxRecDepth 20000 in
set_option maxHeartbeats 1000000 in
theorem tX7_send_L72 {l : Launch} {Y : xY} {X : xE} {ad : Nat → Nat} {fr : va_W} {z0 : Int32 × xM} (C : xC Y X cX7_send RX7 (some .int) 5 2 50) (HQ : xRI Y X (wR Y ad fr) z0.1 z0.2)  (v1 : Int32) (v2 : Int32) (k151 : xM → Option (Int32 × xM)) (Hk151 : ∀ (M : xM), k151 M = some z0 → xG Y l X (wR Y ad fr) M 151 [(0, .ref (ad 0))] []) : ∀ (n : Nat) (M : xM) (v3 : Int32), fX7_send_L72 v1 v2 k151 n M v3 = some z0 → xG Y l X (wR Y ad fr) M 72 [(0, .ref (ad 0)), (1, .int v1), (2, .int v2), (3, .int v3)] [] := by
  intro n
  induction n with
  | zero =>
    intro M v3 hf
    cases hf
  | succ n ih =>
    intro M v3 hf
    exact tX7_send_B72 C HQ  v1 v2 _ Hk151 M v3 _ (fun M v3 hf => ih M v3 hf) hf
set_option maxRecDepth 20000 in
set_option maxHeartbeats 1000000 in
theorem tX7_send_j24 {l : Launch} {Y : xY} {X : xE} {ad : Nat → Nat} {fr : va_W} {z0 : Int32 × xM} (C : xC Y X cX7_send RX7 (some .int) 5 2 50) (HQ : xRI Y X (wR Y ad fr) z0.1 z0.2) (M : xM) (v1 : Int32) (v2 : Int32)  (hf : fX7_send_j24 M v1 v2 = some z0) : xG Y l X (wR Y ad fr) M 24 [(0, .ref (ad 0)), (1, .int v1), (2, .int v2)] [] := by
  unfold fX7_send_j24 at hf
  refine x_iconst 25 C (nI 0) dX7_send_24 ki_0 rfl ?_
  refine x_isN 26 C 3 (lv2 := [(3, .int (nI 0)), (0, .ref (ad 0)), (1, .int v1), (2, .int v2)]) dX7_send_25 rfl rfl (Nat.le_of_ble_eq_true rfl) rfl ?_
  refine x_sub [1, 2, 3, 0] rfl ?_
  refine tX7_send_L26 C HQ _ _ _ (fun M3 hf => ?_) 512 _ _ hf
  refine x_alN 50 C dX7_send_49 0 rfl rfl rfl ?_
  refine x_iconst 51 C (nI 0) dX7_send_50 ki_0 rfl ?_
  refine xpX7_15 54 C mq_683 dX7_send_51 rfl hf (fun M4 hf => ?_)
  refine x_alN 55 C dX7_send_54 0 rfl rfl rfl ?_
  refine x_alN 56 C dX7_send_55 0 rfl rfl rfl ?_
  refine xgX7_0 59 C mq_668 dX7_send_56 rfl ?_
  refine x_sipush 62 C (nI 285) dX7_send_59 ks_285 rfl ?_
  refine x_ilN 63 C dX7_send_62 1 rfl rfl rfl ?_
  refine x_iadd 64 C dX7_send_63 rfl ?_
  refine xrR_1 65 C dX7_send_64 rfl hf (fun x5 hf => ?_)
  refine x_bipush 67 C (-9) dX7_send_65 kb_m9 rfl ?_
  refine x_cvVM 70 C [.int x5, .int (-9)] hwX7_transmit mq_928 dX7_send_67 rfl ⟨Nat.le_of_ble_eq_true rfl, Nat.le_of_ble_eq_true rfl⟩ 0 wR_at_0 rfl rfl rfl (Nat.le_of_ble_eq_true rfl) (fun z hz => tX7_transmit hz) hf (fun z6 hf => ?_)
  refine x_iconst 71 C (nI 0) dX7_send_70 ki_0 rfl ?_
  refine x_isN 72 C 3 (lv2 := [(3, .int (nI 0)), (0, .ref (ad 0)), (1, .int v1), (2, .int v2)]) dX7_send_71 rfl rfl (Nat.le_of_ble_eq_true rfl) rfl ?_
  refine x_sub [1, 2, 3, 0] rfl ?_
  refine tX7_send_L72 C HQ _ _ _ (fun M14 hf => ?_) 512 _ _ hf
  refine x_alN 152 C dX7_send_151 0 rfl rfl rfl ?_
  refine xgX7_15 155 C mq_683 dX7_send_152 rfl ?_
  exact x_iretM C HQ rfl (vp_nar_int _) dX7_send_155 hf
set_option maxRecDepth 20000 in
set_option maxHeartbeats 1000000 in
theorem tX7_send {l : Launch} {Y : xY} {ad : Nat → Nat} {fr : va_W} {M : xM} {p1 : Int32} {p2 : Int32} {z0 : Int32 × xM} (hf : fX7_send M p1 p2 = some z0) : xcI l Y (wR Y ad fr) yX7_send cX7_send 5 (some .int) 2 50 [.ref (ad 0), .int p1, .int p2] M z0.1 z0.2 := by
  refine x_entryI [(0, .ref (ad 0)), (1, .int p1), (2, .int p2)] pnX7 rfl (Nat.le_of_ble_eq_true rfl) rfl (fun X C HQ => ?_)
  unfold fX7_send at hf
  refine x_alN 1 C dX7_send_0 0 rfl rfl rfl ?_
  refine x_ilN 2 C dX7_send_1 1 rfl rfl rfl ?_
  refine x_cvIP 5 C [.int p1] hwX7_isStation mq_793 dX7_send_2 rfl ⟨Nat.le_of_ble_eq_true rfl, Nat.le_of_ble_eq_true rfl⟩ 0 wR_at_0 rfl rfl rfl (Nat.le_of_ble_eq_true rfl) (fun z hz => tX7_isStation hz) hf (fun z1 hf => ?_)
  refine x_if_eq 8 C 21 dX7_send_5 (by decide) rfl hf (fun hf => ?_) (fun hf => ?_)
  ·
    refine x_bipush 23 C (-4) dX7_send_21 kb_m4 rfl ?_
    exact x_iretM C HQ rfl (vp_nar_int _) dX7_send_23 hf
  ·
    refine x_ilN 9 C dX7_send_8 2 rfl rfl rfl ?_
    refine x_iconst 10 C (-1) dX7_send_9 ki_m1 rfl ?_
    refine x_icmp_eq 13 C 24 dX7_send_10 (by decide) rfl hf (fun hf => ?_) (fun hf => ?_)
    ·
      exact tX7_send_j24 C HQ _ _ _  hf
    ·
      refine x_alN 14 C dX7_send_13 0 rfl rfl rfl ?_
      refine x_ilN 15 C dX7_send_14 2 rfl rfl rfl ?_
      refine x_cvIP 18 C [.int p2] hwX7_isStation mq_793 dX7_send_15 rfl ⟨Nat.le_of_ble_eq_true rfl, Nat.le_of_ble_eq_true rfl⟩ 0 wR_at_0 rfl rfl rfl (Nat.le_of_ble_eq_true rfl) (fun z hz => tX7_isStation hz) hf (fun z15 hf => ?_)
      refine x_if_ne 21 C 24 dX7_send_18 (by decide) rfl hf (fun hf => ?_) (fun hf => ?_)
      ·
        exact tX7_send_j24 C HQ _ _ _  hf
      ·
        refine x_bipush 23 C (-4) dX7_send_21 kb_m4 rfl ?_
        exact x_iretM C HQ rfl (vp_nar_int _) dX7_send_23 hf
set_option maxRecDepth 20000 in
set_option maxHeartbeats 1000000 in
theorem tX7_transmissions {l : Launch} {Y : xY} {ad : Nat → Nat} {fr : va_W} {M : xM} {p1 : Int32} {z0 : Int32} (hf : fX7_transmissions M p1 = some z0) : xcI l Y (wR Y ad fr) yX7_transmissions cX7_transmissions 2 (some .int) 2 43 [.ref (ad 0), .int p1] M z0 M := by
  refine x_entryI [(0, .ref (ad 0)), (1, .int p1)] pnX7 rfl (Nat.le_of_ble_eq_true rfl) rfl (fun X C HQ => ?_)
  unfold fX7_transmissions at hf
  refine x_alN 1 C dX7_transmissions_0 0 rfl rfl rfl ?_
  refine x_ilN 2 C dX7_transmissions_1 1 rfl rfl rfl ?_
  refine x_cvIP 5 C [.int p1] hwX7_isSegment mq_737 dX7_transmissions_2 rfl ⟨Nat.le_of_ble_eq_true rfl, Nat.le_of_ble_eq_true rfl⟩ 0 wR_at_0 rfl rfl rfl (Nat.le_of_ble_eq_true rfl) (fun z hz => tX7_isSegment hz) hf (fun z1 hf => ?_)
  refine x_if_eq 8 C 21 dX7_transmissions_5 (by decide) rfl hf (fun hf => ?_) (fun hf => ?_)
  ·
    refine x_bipush 23 C (-2) dX7_transmissions_21 kb_m2 rfl ?_
    exact x_iretP C HQ rfl (vp_nar_int _) dX7_transmissions_23 hf
  ·
    refine x_alN 9 C dX7_transmissions_8 0 rfl rfl rfl ?_
    refine xgX7_0 12 C mq_668 dX7_transmissions_9 rfl ?_
    refine x_sipush 15 C (nI 421) dX7_transmissions_12 ks_421 rfl ?_
    refine x_ilN 16 C dX7_transmissions_15 1 rfl rfl rfl ?_
    refine x_iadd 17 C dX7_transmissions_16 rfl ?_
    refine xrR_1 18 C dX7_transmissions_17 rfl hf (fun x2 hf => ?_)
    refine x_goto 23 C dX7_transmissions_18 (by decide) ?_
    exact x_iretP C HQ rfl (vp_nar_int _) dX7_transmissions_23 hf
set_option maxRecDepth 20000 in
set_option maxHeartbeats 1000000 in
theorem tX7_entry {l : Launch} {Y : xY} {ad : Nat → Nat} {fr : va_W} {M : xM} {p1 : Int32} {p2 : Int32} {z0 : Int32} (hf : fX7_entry M p1 p2 = some z0) : xcI l Y (wR Y ad fr) yX7_entry cX7_entry 3 (some .int) 2 43 [.ref (ad 0), .int p1, .int p2] M z0 M := by
  refine x_entryI [(0, .ref (ad 0)), (1, .int p1), (2, .int p2)] pnX7 rfl (Nat.le_of_ble_eq_true rfl) rfl (fun X C HQ => ?_)
  unfold fX7_entry at hf
  refine x_alN 1 C dX7_entry_0 0 rfl rfl rfl ?_
  refine x_ilN 2 C dX7_entry_1 1 rfl rfl rfl ?_
  refine x_cvIP 5 C [.int p1] hwX7_isBridge mq_733 dX7_entry_2 rfl ⟨Nat.le_of_ble_eq_true rfl, Nat.le_of_ble_eq_true rfl⟩ 0 wR_at_0 rfl rfl rfl (Nat.le_of_ble_eq_true rfl) (fun z hz => tX7_isBridge hz) hf (fun z1 hf => ?_)
  refine x_if_ne 8 C 10 dX7_entry_5 (by decide) rfl hf (fun hf => ?_) (fun hf => ?_)
  ·
    refine x_alN 11 C dX7_entry_10 0 rfl rfl rfl ?_
    refine x_ilN 12 C dX7_entry_11 2 rfl rfl rfl ?_
    refine x_cvIP 15 C [.int p2] hwX7_isStation mq_793 dX7_entry_12 rfl ⟨Nat.le_of_ble_eq_true rfl, Nat.le_of_ble_eq_true rfl⟩ 0 wR_at_0 rfl rfl rfl (Nat.le_of_ble_eq_true rfl) (fun z hz => tX7_isStation hz) hf (fun z2 hf => ?_)
    refine x_if_ne 18 C 21 dX7_entry_15 (by decide) rfl hf (fun hf => ?_) (fun hf => ?_)
    ·
      refine x_alN 22 C dX7_entry_21 0 rfl rfl rfl ?_
      refine xgX7_0 25 C mq_668 dX7_entry_22 rfl ?_
      refine x_sipush 28 C (nI 357) dX7_entry_25 ks_357 rfl ?_
      refine x_ilN 29 C dX7_entry_28 1 rfl rfl rfl ?_
      refine x_ilN 30 C dX7_entry_29 2 rfl rfl rfl ?_
      refine x_csIP 33 C [.int p1, .int p2] hwX7_cell mq_936 dX7_entry_30 rfl ⟨Nat.le_of_ble_eq_true rfl, Nat.le_of_ble_eq_true rfl⟩ rfl rfl (Nat.le_of_ble_eq_true rfl) (fun z hz => tX7_cell hz) hf (fun z3 hf => ?_)
      refine x_iadd 34 C dX7_entry_33 rfl ?_
      refine xrR_1 35 C dX7_entry_34 rfl hf (fun x4 hf => ?_)
      refine x_if_le 38 C 55 dX7_entry_35 (by decide) rfl hf (fun hf => ?_) (fun hf => ?_)
      ·
        refine x_bipush 57 C (-9) dX7_entry_55 kb_m9 rfl ?_
        exact x_iretP C HQ rfl (vp_nar_int _) dX7_entry_57 hf
      ·
        refine x_alN 39 C dX7_entry_38 0 rfl rfl rfl ?_
        refine xgX7_0 42 C mq_668 dX7_entry_39 rfl ?_
        refine x_sipush 45 C (nI 293) dX7_entry_42 ks_293 rfl ?_
        refine x_ilN 46 C dX7_entry_45 1 rfl rfl rfl ?_
        refine x_ilN 47 C dX7_entry_46 2 rfl rfl rfl ?_
        refine x_csIP 50 C [.int p1, .int p2] hwX7_cell mq_936 dX7_entry_47 rfl ⟨Nat.le_of_ble_eq_true rfl, Nat.le_of_ble_eq_true rfl⟩ rfl rfl (Nat.le_of_ble_eq_true rfl) (fun z hz => tX7_cell hz) hf (fun z5 hf => ?_)
        refine x_iadd 51 C dX7_entry_50 rfl ?_
        refine xrR_1 52 C dX7_entry_51 rfl hf (fun x6 hf => ?_)
        refine x_goto 57 C dX7_entry_52 (by decide) ?_
        exact x_iretP C HQ rfl (vp_nar_int _) dX7_entry_57 hf
    ·
      refine x_bipush 20 C (-4) dX7_entry_18 kb_m4 rfl ?_
      exact x_iretP C HQ rfl (vp_nar_int _) dX7_entry_20 hf
  ·
    refine x_iconst 9 C (-1) dX7_entry_8 ki_m1 rfl ?_
    exact x_iretP C HQ rfl (vp_nar_int _) dX7_entry_9 hf
set_option maxRecDepth 20000 in
set_option maxHeartbeats 1000000 in
theorem tX7_count {l : Launch} {Y : xY} {ad : Nat → Nat} {fr : va_W} {M : xM} {p1 : Int32} {z0 : Int32} (hf : fX7_count M p1 = some z0) : xcI l Y (wR Y ad fr) yX7_count cX7_count 2 (some .int) 1 22 [.ref (ad 0), .int p1] M z0 M := by
  refine x_entryI [(0, .ref (ad 0)), (1, .int p1)] pnX7 rfl (Nat.le_of_ble_eq_true rfl) rfl (fun X C HQ => ?_)
  unfold fX7_count at hf
  refine x_ilN 1 C dX7_count_0 1 rfl rfl rfl ?_
  refine x_iconst 2 C (nI 0) dX7_count_1 ki_0 rfl ?_
  refine x_iconst 3 C (nI 4) dX7_count_2 ki_4 rfl ?_
  refine x_csIP 6 C [.int p1, .int (nI 0), .int (nI 4)] hwX7_in mq_722 dX7_count_3 rfl ⟨Nat.le_of_ble_eq_true rfl, Nat.le_of_ble_eq_true rfl⟩ rfl rfl (Nat.le_of_ble_eq_true rfl) (fun z hz => tX7_in hz) hf (fun z1 hf => ?_)
  refine x_if_eq 9 C 18 dX7_count_6 (by decide) rfl hf (fun hf => ?_) (fun hf => ?_)
  ·
    refine x_bipush 20 C (-5) dX7_count_18 kb_m5 rfl ?_
    exact x_iretP C HQ rfl (vp_nar_int _) dX7_count_20 hf
  ·
    refine x_alN 10 C dX7_count_9 0 rfl rfl rfl ?_
    refine xgX7_0 13 C mq_668 dX7_count_10 rfl ?_
    refine x_ilN 14 C dX7_count_13 1 rfl rfl rfl ?_
    refine xrR_1 15 C dX7_count_14 rfl hf (fun x2 hf => ?_)
    refine x_goto 20 C dX7_count_15 (by decide) ?_
    exact x_iretP C HQ rfl (vp_nar_int _) dX7_count_20 hf
set_option maxRecDepth 20000 in
set_option maxHeartbeats 1000000 in
theorem tX7_save_B14 {l : Launch} {Y : xY} {X : xE} {ad : Nat → Nat} {fr : va_W} {z0 : Int32 × xM} (C : xC Y X cX7_save RX7 (some .int) 3 1 22) (HQ : xRI Y X (wR Y ad fr) z0.1 z0.2)  (v1 : Int32) (k45 : xM → Option (Int32 × xM)) (Hk45 : ∀ (M : xM), k45 M = some z0 → xG Y l X (wR Y ad fr) M 45 [(0, .ref (ad 0)), (1, .int v1)] []) (M : xM) (v2 : Int32) (b14 : xM → Int32 → Option (Int32 × xM)) (Hb14 : ∀ (M : xM) (v2 : Int32), b14 M v2 = some z0 → xG Y l X (wR Y ad fr) M 14 [(0, .ref (ad 0)), (1, .int v1), (2, .int v2)] []) (hf : fX7_save_B14 v1 k45 M v2 b14 = some z0) : xG Y l X (wR Y ad fr) M 14 [(0, .ref (ad 0)), (1, .int v1), (2, .int v2)] [] := by
  unfold fX7_save_B14 at hf
  refine x_ilN 15 C dX7_save_14 2 rfl rfl rfl ?_
  refine x_sipush 18 C (nI 431) dX7_save_15 ks_431 rfl ?_
  refine x_icmp_ge 21 C 45 dX7_save_18 (by decide) rfl hf (fun hf => ?_) (fun hf => ?_)
  ·
    refine x_sub [0, 1] rfl ?_
    exact Hk45 _ hf
  ·
    refine x_alN 22 C dX7_save_21 0 rfl rfl rfl ?_
    refine xgX7_1 25 C mq_669 dX7_save_22 rfl ?_
    refine x_sipush 28 C (nI 431) dX7_save_25 ks_431 rfl ?_
    refine x_ilN 29 C dX7_save_28 1 rfl rfl rfl ?_
    refine x_imul 30 C dX7_save_29 rfl ?_
    refine x_ilN 31 C dX7_save_30 2 rfl rfl rfl ?_
    refine x_iadd 32 C dX7_save_31 rfl ?_
    refine x_alN 33 C dX7_save_32 0 rfl rfl rfl ?_
    refine xgX7_0 36 C mq_668 dX7_save_33 rfl ?_
    refine x_ilN 37 C dX7_save_36 2 rfl rfl rfl ?_
    refine xrR_1 38 C dX7_save_37 rfl hf (fun x2 hf => ?_)
    refine xwR_2 39 C dX7_save_38 rfl hf (fun M3 hf => ?_)
    refine x_iinc 42 C (v2 + (nI 1)) (lv2 := [(2, .int (v2 + (nI 1))), (0, .ref (ad 0)), (1, .int v1)]) dX7_save_39 2 rfl rfl rfl (Nat.le_of_ble_eq_true rfl) rfl ?_
    refine x_goto 14 C dX7_save_42 (by decide) ?_
    refine x_sub [1, 2, 0] rfl ?_
    exact Hb14 _ _ hf
set_option maxRecDepth 20000 in
set_option maxHeartbeats 1000000 in
theorem tX7_save_L14 {l : Launch} {Y : xY} {X : xE} {ad : Nat → Nat} {fr : va_W} {z0 : Int32 × xM} (C : xC Y X cX7_save RX7 (some .int) 3 1 22) (HQ : xRI Y X (wR Y ad fr) z0.1 z0.2)  (v1 : Int32) (k45 : xM → Option (Int32 × xM)) (Hk45 : ∀ (M : xM), k45 M = some z0 → xG Y l X (wR Y ad fr) M 45 [(0, .ref (ad 0)), (1, .int v1)] []) : ∀ (n : Nat) (M : xM) (v2 : Int32), fX7_save_L14 v1 k45 n M v2 = some z0 → xG Y l X (wR Y ad fr) M 14 [(0, .ref (ad 0)), (1, .int v1), (2, .int v2)] [] := by
  intro n
  induction n with
  | zero =>
    intro M v2 hf
    cases hf
  | succ n ih =>
    intro M v2 hf
    exact tX7_save_B14 C HQ  v1 _ Hk45 M v2 _ (fun M v2 hf => ih M v2 hf) hf
set_option maxRecDepth 20000 in
set_option maxHeartbeats 1000000 in
theorem tX7_save {l : Launch} {Y : xY} {ad : Nat → Nat} {fr : va_W} {M : xM} {p1 : Int32} {z0 : Int32 × xM} (hf : fX7_save M p1 = some z0) : xcI l Y (wR Y ad fr) yX7_save cX7_save 3 (some .int) 1 22 [.ref (ad 0), .int p1] M z0.1 z0.2 := by
  refine x_entryI [(0, .ref (ad 0)), (1, .int p1)] pnX7 rfl (Nat.le_of_ble_eq_true rfl) rfl (fun X C HQ => ?_)
  unfold fX7_save at hf
  refine x_ilN 1 C dX7_save_0 1 rfl rfl rfl ?_
  refine x_iconst 2 C (nI 0) dX7_save_1 ki_0 rfl ?_
  refine x_iconst 3 C (nI 1) dX7_save_2 ki_1 rfl ?_
  refine x_csIP 6 C [.int p1, .int (nI 0), .int (nI 1)] hwX7_in mq_722 dX7_save_3 rfl ⟨Nat.le_of_ble_eq_true rfl, Nat.le_of_ble_eq_true rfl⟩ rfl rfl (Nat.le_of_ble_eq_true rfl) (fun z hz => tX7_in hz) hf (fun z1 hf => ?_)
  refine x_if_ne 9 C 12 dX7_save_6 (by decide) rfl hf (fun hf => ?_) (fun hf => ?_)
  ·
    refine x_iconst 13 C (nI 0) dX7_save_12 ki_0 rfl ?_
    refine x_isN 14 C 2 (lv2 := [(2, .int (nI 0)), (0, .ref (ad 0)), (1, .int p1)]) dX7_save_13 rfl rfl (Nat.le_of_ble_eq_true rfl) rfl ?_
    refine x_sub [1, 2, 0] rfl ?_
    refine tX7_save_L14 C HQ _ _ (fun M4 hf => ?_) 512 _ _ hf
    refine x_alN 46 C dX7_save_45 0 rfl rfl rfl ?_
    refine xgX7_2 49 C mq_670 dX7_save_46 rfl ?_
    refine x_ilN 50 C dX7_save_49 1 rfl rfl rfl ?_
    refine x_iconst 51 C (nI 1) dX7_save_50 ki_1 rfl ?_
    refine xwR_3 52 C dX7_save_51 rfl hf (fun M5 hf => ?_)
    refine x_alN 53 C dX7_save_52 0 rfl rfl rfl ?_
    refine xgX7_0 56 C mq_668 dX7_save_53 rfl ?_
    refine x_iconst 57 C (nI 0) dX7_save_56 ki_0 rfl ?_
    refine xrR_1 58 C dX7_save_57 rfl hf (fun x6 hf => ?_)
    exact x_iretM C HQ rfl (vp_nar_int _) dX7_save_58 hf
  ·
    refine x_bipush 11 C (-5) dX7_save_9 kb_m5 rfl ?_
    exact x_iretM C HQ rfl (vp_nar_int _) dX7_save_11 hf
set_option maxRecDepth 20000 in
set_option maxHeartbeats 1000000 in
theorem tX7_restore_B26 {l : Launch} {Y : xY} {X : xE} {ad : Nat → Nat} {fr : va_W} {z0 : Int32 × xM} (C : xC Y X cX7_restore RX7 (some .int) 3 1 22) (HQ : xRI Y X (wR Y ad fr) z0.1 z0.2)  (v1 : Int32) (k57 : xM → Option (Int32 × xM)) (Hk57 : ∀ (M : xM), k57 M = some z0 → xG Y l X (wR Y ad fr) M 57 [(0, .ref (ad 0))] []) (M : xM) (v2 : Int32) (b26 : xM → Int32 → Option (Int32 × xM)) (Hb26 : ∀ (M : xM) (v2 : Int32), b26 M v2 = some z0 → xG Y l X (wR Y ad fr) M 26 [(0, .ref (ad 0)), (1, .int v1), (2, .int v2)] []) (hf : fX7_restore_B26 v1 k57 M v2 b26 = some z0) : xG Y l X (wR Y ad fr) M 26 [(0, .ref (ad 0)), (1, .int v1), (2, .int v2)] [] := by
  unfold fX7_restore_B26 at hf
  refine x_ilN 27 C dX7_restore_26 2 rfl rfl rfl ?_
  refine x_sipush 30 C (nI 431) dX7_restore_27 ks_431 rfl ?_
  refine x_icmp_ge 33 C 57 dX7_restore_30 (by decide) rfl hf (fun hf => ?_) (fun hf => ?_)
  ·
    refine x_sub [0] rfl ?_
    exact Hk57 _ hf
  ·
    refine x_alN 34 C dX7_restore_33 0 rfl rfl rfl ?_
    refine xgX7_0 37 C mq_668 dX7_restore_34 rfl ?_
    refine x_ilN 38 C dX7_restore_37 2 rfl rfl rfl ?_
    refine x_alN 39 C dX7_restore_38 0 rfl rfl rfl ?_
    refine xgX7_1 42 C mq_669 dX7_restore_39 rfl ?_
    refine x_sipush 45 C (nI 431) dX7_restore_42 ks_431 rfl ?_
    refine x_ilN 46 C dX7_restore_45 1 rfl rfl rfl ?_
    refine x_imul 47 C dX7_restore_46 rfl ?_
    refine x_ilN 48 C dX7_restore_47 2 rfl rfl rfl ?_
    refine x_iadd 49 C dX7_restore_48 rfl ?_
    refine xrR_2 50 C dX7_restore_49 rfl hf (fun x3 hf => ?_)
    refine xwR_1 51 C dX7_restore_50 rfl hf (fun M4 hf => ?_)
    refine x_iinc 54 C (v2 + (nI 1)) (lv2 := [(2, .int (v2 + (nI 1))), (0, .ref (ad 0)), (1, .int v1)]) dX7_restore_51 2 rfl rfl rfl (Nat.le_of_ble_eq_true rfl) rfl ?_
    refine x_goto 26 C dX7_restore_54 (by decide) ?_
    refine x_sub [1, 2, 0] rfl ?_
    exact Hb26 _ _ hf
set_option maxRecDepth 20000 in
set_option maxHeartbeats 1000000 in
theorem tX7_restore_L26 {l : Launch} {Y : xY} {X : xE} {ad : Nat → Nat} {fr : va_W} {z0 : Int32 × xM} (C : xC Y X cX7_restore RX7 (some .int) 3 1 22) (HQ : xRI Y X (wR Y ad fr) z0.1 z0.2)  (v1 : Int32) (k57 : xM → Option (Int32 × xM)) (Hk57 : ∀ (M : xM), k57 M = some z0 → xG Y l X (wR Y ad fr) M 57 [(0, .ref (ad 0))] []) : ∀ (n : Nat) (M : xM) (v2 : Int32), fX7_restore_L26 v1 k57 n M v2 = some z0 → xG Y l X (wR Y ad fr) M 26 [(0, .ref (ad 0)), (1, .int v1), (2, .int v2)] [] := by
  intro n
  induction n with
  | zero =>
    intro M v2 hf
    cases hf
  | succ n ih =>
    intro M v2 hf
    exact tX7_restore_B26 C HQ  v1 _ Hk57 M v2 _ (fun M v2 hf => ih M v2 hf) hf
set_option maxRecDepth 20000 in
set_option maxHeartbeats 1000000 in
theorem tX7_restore {l : Launch} {Y : xY} {ad : Nat → Nat} {fr : va_W} {M : xM} {p1 : Int32} {z0 : Int32 × xM} (hf : fX7_restore M p1 = some z0) : xcI l Y (wR Y ad fr) yX7_restore cX7_restore 3 (some .int) 1 22 [.ref (ad 0), .int p1] M z0.1 z0.2 := by
  refine x_entryI [(0, .ref (ad 0)), (1, .int p1)] pnX7 rfl (Nat.le_of_ble_eq_true rfl) rfl (fun X C HQ => ?_)
  unfold fX7_restore at hf
  refine x_ilN 1 C dX7_restore_0 1 rfl rfl rfl ?_
  refine x_iconst 2 C (nI 0) dX7_restore_1 ki_0 rfl ?_
  refine x_iconst 3 C (nI 1) dX7_restore_2 ki_1 rfl ?_
  refine x_csIP 6 C [.int p1, .int (nI 0), .int (nI 1)] hwX7_in mq_722 dX7_restore_3 rfl ⟨Nat.le_of_ble_eq_true rfl, Nat.le_of_ble_eq_true rfl⟩ rfl rfl (Nat.le_of_ble_eq_true rfl) (fun z hz => tX7_in hz) hf (fun z1 hf => ?_)
  refine x_if_ne 9 C 12 dX7_restore_6 (by decide) rfl hf (fun hf => ?_) (fun hf => ?_)
  ·
    refine x_alN 13 C dX7_restore_12 0 rfl rfl rfl ?_
    refine xgX7_2 16 C mq_670 dX7_restore_13 rfl ?_
    refine x_ilN 17 C dX7_restore_16 1 rfl rfl rfl ?_
    refine xrR_3 18 C dX7_restore_17 rfl hf (fun x2 hf => ?_)
    refine x_if_ne 21 C 24 dX7_restore_18 (by decide) rfl hf (fun hf => ?_) (fun hf => ?_)
    ·
      refine x_iconst 25 C (nI 0) dX7_restore_24 ki_0 rfl ?_
      refine x_isN 26 C 2 (lv2 := [(2, .int (nI 0)), (0, .ref (ad 0)), (1, .int p1)]) dX7_restore_25 rfl rfl (Nat.le_of_ble_eq_true rfl) rfl ?_
      refine x_sub [1, 2, 0] rfl ?_
      refine tX7_restore_L26 C HQ _ _ (fun M5 hf => ?_) 512 _ _ hf
      refine x_alN 58 C dX7_restore_57 0 rfl rfl rfl ?_
      refine xgX7_0 61 C mq_668 dX7_restore_58 rfl ?_
      refine x_iconst 62 C (nI 0) dX7_restore_61 ki_0 rfl ?_
      refine xrR_1 63 C dX7_restore_62 rfl hf (fun x6 hf => ?_)
      exact x_iretM C HQ rfl (vp_nar_int _) dX7_restore_63 hf
    ·
      refine x_bipush 23 C (-8) dX7_restore_21 kb_m8 rfl ?_
      exact x_iretM C HQ rfl (vp_nar_int _) dX7_restore_23 hf
  ·
    refine x_bipush 11 C (-5) dX7_restore_9 kb_m5 rfl ?_
    exact x_iretM C HQ rfl (vp_nar_int _) dX7_restore_11 hf
