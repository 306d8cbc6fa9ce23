set_option maxRecDepth 20000 in
set_option maxHeartbeats 1000000 in
theorem tX6_isPriority {l : Launch} {Y : xY} {ad : Nat → Nat} {fr : va_W} {M : xM} {p1 : Int32} {z0 : Int32} (hf : fX6_isPriority M p1 = some z0) : xcI l Y (wC Y ad fr) yX6_isPriority cX6_isPriority 1 (some .boolean) 0 0 [.int p1] M z0 M := by
  refine x_entryI [(0, .int p1)] pnX6 rfl (Nat.le_of_ble_eq_true rfl) rfl (fun X C HQ => ?_)
  unfold fX6_isPriority at hf
  refine x_ilN 1 C dX6_isPriority_0 0 rfl rfl rfl ?_
  refine x_if_lt 4 C 14 dX6_isPriority_1 (by decide) rfl hf (fun hf => ?_) (fun hf => ?_)
  ·
    refine x_iconst 15 C (nI 0) dX6_isPriority_14 ki_0 rfl ?_
    exact x_iretP C HQ rfl rfl dX6_isPriority_15 hf
  ·
    refine x_ilN 5 C dX6_isPriority_4 0 rfl rfl rfl ?_
    refine x_bipush 7 C (nI 15) dX6_isPriority_5 kb_15 rfl ?_
    refine x_icmp_gt 10 C 14 dX6_isPriority_7 (by decide) rfl hf (fun hf => ?_) (fun hf => ?_)
    ·
      refine x_iconst 15 C (nI 0) dX6_isPriority_14 ki_0 rfl ?_
      exact x_iretP C HQ rfl rfl dX6_isPriority_15 hf
    ·
      refine x_iconst 11 C (nI 1) dX6_isPriority_10 ki_1 rfl ?_
      refine x_goto 15 C dX6_isPriority_11 (by decide) ?_
      exact x_iretP C HQ rfl rfl dX6_isPriority_15 hf
set_option maxRecDepth 20000 in
set_option maxHeartbeats 1000000 in
theorem tX6_addBridge {l : Launch} {Y : xY} {ad : Nat → Nat} {fr : va_W} {M : xM} {p1 : Int32} {z0 : Int32 × xM} (hf : fX6_addBridge M p1 = some z0) : xcI l Y (wC Y ad fr) yX6_addBridge cX6_addBridge 2 (some .int) 1 22 [.ref (ad 32), .int p1] M z0.1 z0.2 := by
  refine x_entryI [(0, .ref (ad 32)), (1, .int p1)] pnX6 rfl (Nat.le_of_ble_eq_true rfl) rfl (fun X C HQ => ?_)
  unfold fX6_addBridge at hf
  refine x_ilN 1 C dX6_addBridge_0 1 rfl rfl rfl ?_
  refine x_csIP 4 C [.int p1] hwX6_isPriority mq_293 dX6_addBridge_1 rfl ⟨Nat.le_of_ble_eq_true rfl, Nat.le_of_ble_eq_true rfl⟩ rfl rfl (Nat.le_of_ble_eq_true rfl) (fun z hz => tX6_isPriority hz) hf (fun z1 hf => ?_)
  refine x_if_ne 7 C 10 dX6_addBridge_4 (by decide) rfl hf (fun hf => ?_) (fun hf => ?_)
  ·
    refine x_alN 11 C dX6_addBridge_10 0 rfl rfl rfl ?_
    refine xgX6_0 14 C mq_270 dX6_addBridge_11 rfl ?_
    refine xgX3_0 17 C mq_83 dX6_addBridge_14 rfl ?_
    refine x_bipush 19 C (nI 8) dX6_addBridge_17 kb_8 rfl ?_
    refine x_icmp_lt 22 C 25 dX6_addBridge_19 (by decide) rfl hf (fun hf => ?_) (fun hf => ?_)
    ·
      refine x_alN 26 C dX6_addBridge_25 0 rfl rfl rfl ?_
      refine xgX6_0 29 C mq_270 dX6_addBridge_26 rfl ?_
      refine x_ilN 30 C dX6_addBridge_29 1 rfl rfl rfl ?_
      refine x_cvIM 33 C [.int p1] hwX3_appendBridge mq_296 dX6_addBridge_30 rfl ⟨Nat.le_of_ble_eq_true rfl, Nat.le_of_ble_eq_true rfl⟩ 0 wC_at_0 rfl rfl rfl (Nat.le_of_ble_eq_true rfl) (fun z hz => tX3_appendBridge hz) hf (fun z2 hf => ?_)
      exact x_iretM C HQ rfl (vp_nar_int _) dX6_addBridge_33 hf
    ·
      refine x_bipush 24 C (-6) dX6_addBridge_22 kb_m6 rfl ?_
      exact x_iretM C HQ rfl (vp_nar_int _) dX6_addBridge_24 hf
  ·
    refine x_bipush 9 C (-5) dX6_addBridge_7 kb_m5 rfl ?_
    exact x_iretM C HQ rfl (vp_nar_int _) dX6_addBridge_9 hf
set_option maxRecDepth 20000 in
set_option maxHeartbeats 1000000 in
theorem tX6_addSegment {l : Launch} {Y : xY} {ad : Nat → Nat} {fr : va_W} {M : xM}  {z0 : Int32 × xM} (hf : fX6_addSegment M = some z0) : xcI l Y (wC Y ad fr) yX6_addSegment cX6_addSegment 1 (some .int) 1 21 [.ref (ad 32)] M z0.1 z0.2 := by
  refine x_entryI [(0, .ref (ad 32))] pnX6 rfl (Nat.le_of_ble_eq_true rfl) rfl (fun X C HQ => ?_)
  unfold fX6_addSegment at hf
  refine x_alN 1 C dX6_addSegment_0 0 rfl rfl rfl ?_
  refine xgX6_0 4 C mq_270 dX6_addSegment_1 rfl ?_
  refine xgX3_1 7 C mq_86 dX6_addSegment_4 rfl ?_
  refine x_bipush 9 C (nI 10) dX6_addSegment_7 kb_10 rfl ?_
  refine x_icmp_lt 12 C 15 dX6_addSegment_9 (by decide) rfl hf (fun hf => ?_) (fun hf => ?_)
  ·
    refine x_alN 16 C dX6_addSegment_15 0 rfl rfl rfl ?_
    refine xgX6_0 19 C mq_270 dX6_addSegment_16 rfl ?_
    refine x_cvIM 22 C [] hwX3_appendSegment mq_304 dX6_addSegment_19 rfl ⟨Nat.le_of_ble_eq_true rfl, Nat.le_of_ble_eq_true rfl⟩ 0 wC_at_0 rfl rfl rfl (Nat.le_of_ble_eq_true rfl) (fun z hz => tX3_appendSegment hz) hf (fun z1 hf => ?_)
    exact x_iretM C HQ rfl (vp_nar_int _) dX6_addSegment_22 hf
  ·
    refine x_bipush 14 C (-6) dX6_addSegment_12 kb_m6 rfl ?_
    exact x_iretM C HQ rfl (vp_nar_int _) dX6_addSegment_14 hf
set_option maxRecDepth 20000 in
set_option maxHeartbeats 1000000 in
theorem tX6_isCost {l : Launch} {Y : xY} {ad : Nat → Nat} {fr : va_W} {M : xM} {p1 : Int32} {z0 : Int32} (hf : fX6_isCost M p1 = some z0) : xcI l Y (wC Y ad fr) yX6_isCost cX6_isCost 1 (some .boolean) 0 0 [.int p1] M z0 M := by
  refine x_entryI [(0, .int p1)] pnX6 rfl (Nat.le_of_ble_eq_true rfl) rfl (fun X C HQ => ?_)
  unfold fX6_isCost at hf
  refine x_ilN 1 C dX6_isCost_0 0 rfl rfl rfl ?_
  refine x_iconst 2 C (nI 1) dX6_isCost_1 ki_1 rfl ?_
  refine x_icmp_lt 5 C 15 dX6_isCost_2 (by decide) rfl hf (fun hf => ?_) (fun hf => ?_)
  ·
    refine x_iconst 16 C (nI 0) dX6_isCost_15 ki_0 rfl ?_
    exact x_iretP C HQ rfl rfl dX6_isCost_16 hf
  ·
    refine x_ilN 6 C dX6_isCost_5 0 rfl rfl rfl ?_
    refine x_bipush 8 C (nI 100) dX6_isCost_6 kb_100 rfl ?_
    refine x_icmp_gt 11 C 15 dX6_isCost_8 (by decide) rfl hf (fun hf => ?_) (fun hf => ?_)
    ·
      refine x_iconst 16 C (nI 0) dX6_isCost_15 ki_0 rfl ?_
      exact x_iretP C HQ rfl rfl dX6_isCost_16 hf
    ·
      refine x_iconst 12 C (nI 1) dX6_isCost_11 ki_1 rfl ?_
      refine x_goto 16 C dX6_isCost_12 (by decide) ?_
      exact x_iretP C HQ rfl rfl dX6_isCost_16 hf
set_option maxRecDepth 20000 in
set_option maxHeartbeats 1000000 in
theorem tX6_addPort {l : Launch} {Y : xY} {ad : Nat → Nat} {fr : va_W} {M : xM} {p1 : Int32} {p2 : Int32} {p3 : Int32} {z0 : Int32 × xM} (hf : fX6_addPort M p1 p2 p3 = some z0) : xcI l Y (wC Y ad fr) yX6_addPort cX6_addPort 4 (some .int) 2 45 [.ref (ad 32), .int p1, .int p2, .int p3] M z0.1 z0.2 := by
  refine x_entryI [(0, .ref (ad 32)), (1, .int p1), (2, .int p2), (3, .int p3)] pnX6 rfl (Nat.le_of_ble_eq_true rfl) rfl (fun X C HQ => ?_)
  unfold fX6_addPort at hf
  refine x_alN 1 C dX6_addPort_0 0 rfl rfl rfl ?_
  refine xgX6_0 4 C mq_270 dX6_addPort_1 rfl ?_
  refine x_ilN 5 C dX6_addPort_4 1 rfl rfl rfl ?_
  refine x_cvIP 8 C [.int p1] hwX3_hasBridge mq_312 dX6_addPort_5 rfl ⟨Nat.le_of_ble_eq_true rfl, Nat.le_of_ble_eq_true rfl⟩ 0 wC_at_0 rfl rfl rfl (Nat.le_of_ble_eq_true rfl) (fun z hz => tX3_hasBridge hz) hf (fun z1 hf => ?_)
  refine x_if_ne 11 C 13 dX6_addPort_8 (by decide) rfl hf (fun hf => ?_) (fun hf => ?_)
  ·
    refine x_alN 14 C dX6_addPort_13 0 rfl rfl rfl ?_
    refine xgX6_0 17 C mq_270 dX6_addPort_14 rfl ?_
    refine x_ilN 18 C dX6_addPort_17 2 rfl rfl rfl ?_
    refine x_cvIP 21 C [.int p2] hwX3_hasSegment mq_316 dX6_addPort_18 rfl ⟨Nat.le_of_ble_eq_true rfl, Nat.le_of_ble_eq_true rfl⟩ 0 wC_at_0 rfl rfl rfl (Nat.le_of_ble_eq_true rfl) (fun z hz => tX3_hasSegment hz) hf (fun z2 hf => ?_)
    refine x_if_ne 24 C 27 dX6_addPort_21 (by decide) rfl hf (fun hf => ?_) (fun hf => ?_)
    ·
      refine x_ilN 28 C dX6_addPort_27 3 rfl rfl rfl ?_
      refine x_csIP 31 C [.int p3] hwX6_isCost mq_320 dX6_addPort_28 rfl ⟨Nat.le_of_ble_eq_true rfl, Nat.le_of_ble_eq_true rfl⟩ rfl rfl (Nat.le_of_ble_eq_true rfl) (fun z hz => tX6_isCost hz) hf (fun z3 hf => ?_)
      refine x_if_ne 34 C 37 dX6_addPort_31 (by decide) rfl hf (fun hf => ?_) (fun hf => ?_)
      ·
        refine x_alN 38 C dX6_addPort_37 0 rfl rfl rfl ?_
        refine xgX6_0 41 C mq_270 dX6_addPort_38 rfl ?_
        refine xgX3_2 44 C mq_94 dX6_addPort_41 rfl ?_
        refine x_bipush 46 C (nI 24) dX6_addPort_44 kb_24 rfl ?_
        refine x_icmp_lt 49 C 52 dX6_addPort_46 (by decide) rfl hf (fun hf => ?_) (fun hf => ?_)
        ·
          refine x_alN 53 C dX6_addPort_52 0 rfl rfl rfl ?_
          refine xgX6_0 56 C mq_270 dX6_addPort_53 rfl ?_
          refine x_ilN 57 C dX6_addPort_56 1 rfl rfl rfl ?_
          refine x_ilN 58 C dX6_addPort_57 2 rfl rfl rfl ?_
          refine x_ilN 59 C dX6_addPort_58 3 rfl rfl rfl ?_
          refine x_cvIM 62 C [.int p1, .int p2, .int p3] hwX3_appendPort mq_323 dX6_addPort_59 rfl ⟨Nat.le_of_ble_eq_true rfl, Nat.le_of_ble_eq_true rfl⟩ 0 wC_at_0 rfl rfl rfl (Nat.le_of_ble_eq_true rfl) (fun z hz => tX3_appendPort hz) hf (fun z4 hf => ?_)
          exact x_iretM C HQ rfl (vp_nar_int _) dX6_addPort_62 hf
        ·
          refine x_bipush 51 C (-6) dX6_addPort_49 kb_m6 rfl ?_
          exact x_iretM C HQ rfl (vp_nar_int _) dX6_addPort_51 hf
      ·
        refine x_bipush 36 C (-5) dX6_addPort_34 kb_m5 rfl ?_
        exact x_iretM C HQ rfl (vp_nar_int _) dX6_addPort_36 hf
    ·
      refine x_bipush 26 C (-2) dX6_addPort_24 kb_m2 rfl ?_
      exact x_iretM C HQ rfl (vp_nar_int _) dX6_addPort_26 hf
  ·
    refine x_iconst 12 C (-1) dX6_addPort_11 ki_m1 rfl ?_
    exact x_iretM C HQ rfl (vp_nar_int _) dX6_addPort_12 hf
set_option maxRecDepth 20000 in
set_option maxHeartbeats 1000000 in
theorem tX6_addStation {l : Launch} {Y : xY} {ad : Nat → Nat} {fr : va_W} {M : xM} {p1 : Int32} {z0 : Int32 × xM} (hf : fX6_addStation M p1 = some z0) : xcI l Y (wC Y ad fr) yX6_addStation cX6_addStation 2 (some .int) 1 22 [.ref (ad 32), .int p1] M z0.1 z0.2 := by
  refine x_entryI [(0, .ref (ad 32)), (1, .int p1)] pnX6 rfl (Nat.le_of_ble_eq_true rfl) rfl (fun X C HQ => ?_)
  unfold fX6_addStation at hf
  refine x_alN 1 C dX6_addStation_0 0 rfl rfl rfl ?_
  refine xgX6_0 4 C mq_270 dX6_addStation_1 rfl ?_
  refine x_ilN 5 C dX6_addStation_4 1 rfl rfl rfl ?_
  refine x_cvIP 8 C [.int p1] hwX3_hasSegment mq_316 dX6_addStation_5 rfl ⟨Nat.le_of_ble_eq_true rfl, Nat.le_of_ble_eq_true rfl⟩ 0 wC_at_0 rfl rfl rfl (Nat.le_of_ble_eq_true rfl) (fun z hz => tX3_hasSegment hz) hf (fun z1 hf => ?_)
  refine x_if_ne 11 C 14 dX6_addStation_8 (by decide) rfl hf (fun hf => ?_) (fun hf => ?_)
  ·
    refine x_alN 15 C dX6_addStation_14 0 rfl rfl rfl ?_
    refine xgX6_0 18 C mq_270 dX6_addStation_15 rfl ?_
    refine xgX3_3 21 C mq_96 dX6_addStation_18 rfl ?_
    refine x_bipush 23 C (nI 8) dX6_addStation_21 kb_8 rfl ?_
    refine x_icmp_lt 26 C 29 dX6_addStation_23 (by decide) rfl hf (fun hf => ?_) (fun hf => ?_)
    ·
      refine x_alN 30 C dX6_addStation_29 0 rfl rfl rfl ?_
      refine xgX6_0 33 C mq_270 dX6_addStation_30 rfl ?_
      refine x_ilN 34 C dX6_addStation_33 1 rfl rfl rfl ?_
      refine x_cvIM 37 C [.int p1] hwX3_appendStation mq_335 dX6_addStation_34 rfl ⟨Nat.le_of_ble_eq_true rfl, Nat.le_of_ble_eq_true rfl⟩ 0 wC_at_0 rfl rfl rfl (Nat.le_of_ble_eq_true rfl) (fun z hz => tX3_appendStation hz) hf (fun z2 hf => ?_)
      exact x_iretM C HQ rfl (vp_nar_int _) dX6_addStation_37 hf
    ·
      refine x_bipush 28 C (-6) dX6_addStation_26 kb_m6 rfl ?_
      exact x_iretM C HQ rfl (vp_nar_int _) dX6_addStation_28 hf
  ·
    refine x_bipush 13 C (-2) dX6_addStation_11 kb_m2 rfl ?_
    exact x_iretM C HQ rfl (vp_nar_int _) dX6_addStation_13 hf
set_option maxRecDepth 20000 in
set_option maxHeartbeats 1000000 in
theorem tX6_setPriority {l : Launch} {Y : xY} {ad : Nat → Nat} {fr : va_W} {M : xM} {p1 : Int32} {p2 : Int32} {z0 : Int32 × xM} (hf : fX6_setPriority M p1 p2 = some z0) : xcI l Y (wC Y ad fr) yX6_setPriority cX6_setPriority 4 (some .int) 1 21 [.ref (ad 32), .int p1, .int p2] M z0.1 z0.2 := by
  refine x_entryI [(0, .ref (ad 32)), (1, .int p1), (2, .int p2)] pnX6 rfl (Nat.le_of_ble_eq_true rfl) rfl (fun X C HQ => ?_)
  unfold fX6_setPriority at hf
  refine x_alN 1 C dX6_setPriority_0 0 rfl rfl rfl ?_
  refine xgX6_0 4 C mq_270 dX6_setPriority_1 rfl ?_
  refine x_ilN 5 C dX6_setPriority_4 1 rfl rfl rfl ?_
  refine x_cvIP 8 C [.int p1] hwX3_hasBridge mq_312 dX6_setPriority_5 rfl ⟨Nat.le_of_ble_eq_true rfl, Nat.le_of_ble_eq_true rfl⟩ 0 wC_at_0 rfl rfl rfl (Nat.le_of_ble_eq_true rfl) (fun z hz => tX3_hasBridge hz) hf (fun z1 hf => ?_)
  refine x_if_ne 11 C 13 dX6_setPriority_8 (by decide) rfl hf (fun hf => ?_) (fun hf => ?_)
  ·
    refine x_ilN 14 C dX6_setPriority_13 2 rfl rfl rfl ?_
    refine x_csIP 17 C [.int p2] hwX6_isPriority mq_293 dX6_setPriority_14 rfl ⟨Nat.le_of_ble_eq_true rfl, Nat.le_of_ble_eq_true rfl⟩ rfl rfl (Nat.le_of_ble_eq_true rfl) (fun z hz => tX6_isPriority hz) hf (fun z2 hf => ?_)
    refine x_if_ne 20 C 23 dX6_setPriority_17 (by decide) rfl hf (fun hf => ?_) (fun hf => ?_)
    ·
      refine x_alN 24 C dX6_setPriority_23 0 rfl rfl rfl ?_
      refine xgX6_0 27 C mq_270 dX6_setPriority_24 rfl ?_
      refine xgX3_5 30 C mq_101 dX6_setPriority_27 rfl ?_
      refine x_ilN 31 C dX6_setPriority_30 1 rfl rfl rfl ?_
      refine xrC_1 32 C dX6_setPriority_31 rfl hf (fun x3 hf => ?_)
      refine x_isN 33 C 3 (lv2 := [(3, .int x3), (0, .ref (ad 32)), (1, .int p1), (2, .int p2)]) dX6_setPriority_32 rfl rfl (Nat.le_of_ble_eq_true rfl) rfl ?_
      refine x_alN 34 C dX6_setPriority_33 1 rfl rfl rfl ?_
      refine xgX6_0 37 C mq_270 dX6_setPriority_34 rfl ?_
      refine xgX3_5 40 C mq_101 dX6_setPriority_37 rfl ?_
      refine x_ilN 41 C dX6_setPriority_40 2 rfl rfl rfl ?_
      refine x_ilN 42 C dX6_setPriority_41 3 rfl rfl rfl ?_
      refine xwC_1 43 C dX6_setPriority_42 rfl hf (fun M4 hf => ?_)
      refine x_ilN 44 C dX6_setPriority_43 0 rfl rfl rfl ?_
      exact x_iretM C HQ rfl (vp_nar_int _) dX6_setPriority_44 hf
    ·
      refine x_bipush 22 C (-5) dX6_setPriority_20 kb_m5 rfl ?_
      exact x_iretM C HQ rfl (vp_nar_int _) dX6_setPriority_22 hf
  ·
    refine x_iconst 12 C (-1) dX6_setPriority_11 ki_m1 rfl ?_
    exact x_iretM C HQ rfl (vp_nar_int _) dX6_setPriority_12 hf
set_option maxRecDepth 20000 in
set_option maxHeartbeats 1000000 in
theorem tX6_setCost {l : Launch} {Y : xY} {ad : Nat → Nat} {fr : va_W} {M : xM} {p1 : Int32} {p2 : Int32} {z0 : Int32 × xM} (hf : fX6_setCost M p1 p2 = some z0) : xcI l Y (wC Y ad fr) yX6_setCost cX6_setCost 4 (some .int) 1 21 [.ref (ad 32), .int p1, .int p2] M z0.1 z0.2 := by
  refine x_entryI [(0, .ref (ad 32)), (1, .int p1), (2, .int p2)] pnX6 rfl (Nat.le_of_ble_eq_true rfl) rfl (fun X C HQ => ?_)
  unfold fX6_setCost at hf
  refine x_alN 1 C dX6_setCost_0 0 rfl rfl rfl ?_
  refine xgX6_0 4 C mq_270 dX6_setCost_1 rfl ?_
  refine x_ilN 5 C dX6_setCost_4 1 rfl rfl rfl ?_
  refine x_cvIP 8 C [.int p1] hwX3_hasPort mq_347 dX6_setCost_5 rfl ⟨Nat.le_of_ble_eq_true rfl, Nat.le_of_ble_eq_true rfl⟩ 0 wC_at_0 rfl rfl rfl (Nat.le_of_ble_eq_true rfl) (fun z hz => tX3_hasPort hz) hf (fun z1 hf => ?_)
  refine x_if_ne 11 C 14 dX6_setCost_8 (by decide) rfl hf (fun hf => ?_) (fun hf => ?_)
  ·
    refine x_ilN 15 C dX6_setCost_14 2 rfl rfl rfl ?_
    refine x_csIP 18 C [.int p2] hwX6_isCost mq_320 dX6_setCost_15 rfl ⟨Nat.le_of_ble_eq_true rfl, Nat.le_of_ble_eq_true rfl⟩ rfl rfl (Nat.le_of_ble_eq_true rfl) (fun z hz => tX6_isCost hz) hf (fun z2 hf => ?_)
    refine x_if_ne 21 C 24 dX6_setCost_18 (by decide) rfl hf (fun hf => ?_) (fun hf => ?_)
    ·
      refine x_alN 25 C dX6_setCost_24 0 rfl rfl rfl ?_
      refine xgX6_0 28 C mq_270 dX6_setCost_25 rfl ?_
      refine xgX3_9 31 C mq_114 dX6_setCost_28 rfl ?_
      refine x_ilN 32 C dX6_setCost_31 1 rfl rfl rfl ?_
      refine xrC_5 33 C dX6_setCost_32 rfl hf (fun x3 hf => ?_)
      refine x_isN 34 C 3 (lv2 := [(3, .int x3), (0, .ref (ad 32)), (1, .int p1), (2, .int p2)]) dX6_setCost_33 rfl rfl (Nat.le_of_ble_eq_true rfl) rfl ?_
      refine x_alN 35 C dX6_setCost_34 1 rfl rfl rfl ?_
      refine xgX6_0 38 C mq_270 dX6_setCost_35 rfl ?_
      refine xgX3_9 41 C mq_114 dX6_setCost_38 rfl ?_
      refine x_ilN 42 C dX6_setCost_41 2 rfl rfl rfl ?_
      refine x_ilN 43 C dX6_setCost_42 3 rfl rfl rfl ?_
      refine xwC_5 44 C dX6_setCost_43 rfl hf (fun M4 hf => ?_)
      refine x_ilN 45 C dX6_setCost_44 0 rfl rfl rfl ?_
      exact x_iretM C HQ rfl (vp_nar_int _) dX6_setCost_45 hf
    ·
      refine x_bipush 23 C (-5) dX6_setCost_21 kb_m5 rfl ?_
      exact x_iretM C HQ rfl (vp_nar_int _) dX6_setCost_23 hf
  ·
    refine x_bipush 13 C (-3) dX6_setCost_11 kb_m3 rfl ?_
    exact x_iretM C HQ rfl (vp_nar_int _) dX6_setCost_13 hf
set_option maxRecDepth 20000 in
set_option maxHeartbeats 1000000 in
theorem tX6_setBridge_j27 {l : Launch} {Y : xY} {X : xE} {ad : Nat → Nat} {fr : va_W} {z0 : Int32 × xM} (C : xC Y X cX6_setBridge RX6 (some .int) 3 4 87) (HQ : xRI Y X (wC Y ad fr) z0.1 z0.2) (M : xM) (s0 : Int32) (s1 : Int32)  (hf : fX6_setBridge_j27 M s0 s1 = some z0) : xG Y l X (wC Y ad fr) M 27 [] [.int s0, .int s1, .ref (ad 0)] := by
  unfold fX6_setBridge_j27 at hf
  refine x_cvIM 30 C [.int s1, .int s0] hwX3_switchBridge mq_355 dX6_setBridge_27 rfl ⟨Nat.le_of_ble_eq_true rfl, Nat.le_of_ble_eq_true rfl⟩ 0 wC_at_0 rfl rfl rfl (Nat.le_of_ble_eq_true rfl) (fun z hz => tX3_switchBridge hz) hf (fun z2 hf => ?_)
  exact x_iretM C HQ rfl (vp_nar_int _) dX6_setBridge_30 hf
set_option maxRecDepth 20000 in
set_option maxHeartbeats 1000000 in
theorem tX6_setBridge {l : Launch} {Y : xY} {ad : Nat → Nat} {fr : va_W} {M : xM} {p1 : Int32} {p2 : Int32} {z0 : Int32 × xM} (hf : fX6_setBridge M p1 p2 = some z0) : xcI l Y (wC Y ad fr) yX6_setBridge cX6_setBridge 3 (some .int) 4 87 [.ref (ad 32), .int p1, .int p2] M z0.1 z0.2 := by
  refine x_entryI [(0, .ref (ad 32)), (1, .int p1), (2, .int p2)] pnX6 rfl (Nat.le_of_ble_eq_true rfl) rfl (fun X C HQ => ?_)
  unfold fX6_setBridge at hf
  refine x_alN 1 C dX6_setBridge_0 0 rfl rfl rfl ?_
  refine xgX6_0 4 C mq_270 dX6_setBridge_1 rfl ?_
  refine x_ilN 5 C dX6_setBridge_4 1 rfl rfl rfl ?_
  refine x_cvIP 8 C [.int p1] hwX3_hasBridge mq_312 dX6_setBridge_5 rfl ⟨Nat.le_of_ble_eq_true rfl, Nat.le_of_ble_eq_true rfl⟩ 0 wC_at_0 rfl rfl rfl (Nat.le_of_ble_eq_true rfl) (fun z hz => tX3_hasBridge hz) hf (fun z1 hf => ?_)
  refine x_if_ne 11 C 13 dX6_setBridge_8 (by decide) rfl hf (fun hf => ?_) (fun hf => ?_)
  ·
    refine x_alN 14 C dX6_setBridge_13 0 rfl rfl rfl ?_
    refine xgX6_0 17 C mq_270 dX6_setBridge_14 rfl ?_
    refine x_ilN 18 C dX6_setBridge_17 1 rfl rfl rfl ?_
    refine x_ilN 19 C dX6_setBridge_18 2 rfl rfl rfl ?_
    refine x_if_eq 22 C 26 dX6_setBridge_19 (by decide) rfl hf (fun hf => ?_) (fun hf => ?_)
    ·
      refine x_iconst 27 C (nI 0) dX6_setBridge_26 ki_0 rfl ?_
      refine x_sub [] rfl ?_
      exact tX6_setBridge_j27 C HQ _ _ _  hf
    ·
      refine x_iconst 23 C (nI 1) dX6_setBridge_22 ki_1 rfl ?_
      refine x_goto 27 C dX6_setBridge_23 (by decide) ?_
      refine x_sub [] rfl ?_
      exact tX6_setBridge_j27 C HQ _ _ _  hf
  ·
    refine x_iconst 12 C (-1) dX6_setBridge_11 ki_m1 rfl ?_
    exact x_iretM C HQ rfl (vp_nar_int _) dX6_setBridge_12 hf
set_option maxRecDepth 20000 in
set_option maxHeartbeats 1000000 in
theorem tX6_setPort_j28 {l : Launch} {Y : xY} {X : xE} {ad : Nat → Nat} {fr : va_W} {z0 : Int32 × xM} (C : xC Y X cX6_setPort RX6 (some .int) 3 4 86) (HQ : xRI Y X (wC Y ad fr) z0.1 z0.2) (M : xM) (s0 : Int32) (s1 : Int32)  (hf : fX6_setPort_j28 M s0 s1 = some z0) : xG Y l X (wC Y ad fr) M 28 [] [.int s0, .int s1, .ref (ad 0)] := by
  unfold fX6_setPort_j28 at hf
  refine x_cvIM 31 C [.int s1, .int s0] hwX3_switchPort mq_375 dX6_setPort_28 rfl ⟨Nat.le_of_ble_eq_true rfl, Nat.le_of_ble_eq_true rfl⟩ 0 wC_at_0 rfl rfl rfl (Nat.le_of_ble_eq_true rfl) (fun z hz => tX3_switchPort hz) hf (fun z2 hf => ?_)
  exact x_iretM C HQ rfl (vp_nar_int _) dX6_setPort_31 hf
set_option maxRecDepth 20000 in
set_option maxHeartbeats 1000000 in
theorem tX6_setPort {l : Launch} {Y : xY} {ad : Nat → Nat} {fr : va_W} {M : xM} {p1 : Int32} {p2 : Int32} {z0 : Int32 × xM} (hf : fX6_setPort M p1 p2 = some z0) : xcI l Y (wC Y ad fr) yX6_setPort cX6_setPort 3 (some .int) 4 86 [.ref (ad 32), .int p1, .int p2] M z0.1 z0.2 := by
  refine x_entryI [(0, .ref (ad 32)), (1, .int p1), (2, .int p2)] pnX6 rfl (Nat.le_of_ble_eq_true rfl) rfl (fun X C HQ => ?_)
  unfold fX6_setPort at hf
  refine x_alN 1 C dX6_setPort_0 0 rfl rfl rfl ?_
  refine xgX6_0 4 C mq_270 dX6_setPort_1 rfl ?_
  refine x_ilN 5 C dX6_setPort_4 1 rfl rfl rfl ?_
  refine x_cvIP 8 C [.int p1] hwX3_hasPort mq_347 dX6_setPort_5 rfl ⟨Nat.le_of_ble_eq_true rfl, Nat.le_of_ble_eq_true rfl⟩ 0 wC_at_0 rfl rfl rfl (Nat.le_of_ble_eq_true rfl) (fun z hz => tX3_hasPort hz) hf (fun z1 hf => ?_)
  refine x_if_ne 11 C 14 dX6_setPort_8 (by decide) rfl hf (fun hf => ?_) (fun hf => ?_)
  ·
    refine x_alN 15 C dX6_setPort_14 0 rfl rfl rfl ?_
    refine xgX6_0 18 C mq_270 dX6_setPort_15 rfl ?_
    refine x_ilN 19 C dX6_setPort_18 1 rfl rfl rfl ?_
    refine x_ilN 20 C dX6_setPort_19 2 rfl rfl rfl ?_
    refine x_if_eq 23 C 27 dX6_setPort_20 (by decide) rfl hf (fun hf => ?_) (fun hf => ?_)
    ·
      refine x_iconst 28 C (nI 0) dX6_setPort_27 ki_0 rfl ?_
      refine x_sub [] rfl ?_
      exact tX6_setPort_j28 C HQ _ _ _  hf
    ·
      refine x_iconst 24 C (nI 1) dX6_setPort_23 ki_1 rfl ?_
      refine x_goto 28 C dX6_setPort_24 (by decide) ?_
      refine x_sub [] rfl ?_
      exact tX6_setPort_j28 C HQ _ _ _  hf
  ·
    refine x_bipush 13 C (-3) dX6_setPort_11 kb_m3 rfl ?_
    exact x_iretM C HQ rfl (vp_nar_int _) dX6_setPort_13 hf
set_option maxRecDepth 20000 in
set_option maxHeartbeats 1000000 in
theorem tX6_moveStation {l : Launch} {Y : xY} {ad : Nat → Nat} {fr : va_W} {M : xM} {p1 : Int32} {p2 : Int32} {z0 : Int32 × xM} (hf : fX6_moveStation M p1 p2 = some z0) : xcI l Y (wC Y ad fr) yX6_moveStation cX6_moveStation 4 (some .int) 1 21 [.ref (ad 32), .int p1, .int p2] M z0.1 z0.2 := by
  refine x_entryI [(0, .ref (ad 32)), (1, .int p1), (2, .int p2)] pnX6 rfl (Nat.le_of_ble_eq_true rfl) rfl (fun X C HQ => ?_)
  unfold fX6_moveStation at hf
  refine x_alN 1 C dX6_moveStation_0 0 rfl rfl rfl ?_
  refine xgX6_0 4 C mq_270 dX6_moveStation_1 rfl ?_
  refine x_ilN 5 C dX6_moveStation_4 1 rfl rfl rfl ?_
  refine x_cvIP 8 C [.int p1] hwX3_hasStation mq_383 dX6_moveStation_5 rfl ⟨Nat.le_of_ble_eq_true rfl, Nat.le_of_ble_eq_true rfl⟩ 0 wC_at_0 rfl rfl rfl (Nat.le_of_ble_eq_true rfl) (fun z hz => tX3_hasStation hz) hf (fun z1 hf => ?_)
  refine x_if_ne 11 C 14 dX6_moveStation_8 (by decide) rfl hf (fun hf => ?_) (fun hf => ?_)
  ·
    refine x_alN 15 C dX6_moveStation_14 0 rfl rfl rfl ?_
    refine xgX6_0 18 C mq_270 dX6_moveStation_15 rfl ?_
    refine x_ilN 19 C dX6_moveStation_18 2 rfl rfl rfl ?_
    refine x_cvIP 22 C [.int p2] hwX3_hasSegment mq_316 dX6_moveStation_19 rfl ⟨Nat.le_of_ble_eq_true rfl, Nat.le_of_ble_eq_true rfl⟩ 0 wC_at_0 rfl rfl rfl (Nat.le_of_ble_eq_true rfl) (fun z hz => tX3_hasSegment hz) hf (fun z2 hf => ?_)
    refine x_if_ne 25 C 28 dX6_moveStation_22 (by decide) rfl hf (fun hf => ?_) (fun hf => ?_)
    ·
      refine x_alN 29 C dX6_moveStation_28 0 rfl rfl rfl ?_
      refine xgX6_0 32 C mq_270 dX6_moveStation_29 rfl ?_
      refine xgX3_15 35 C mq_131 dX6_moveStation_32 rfl ?_
      refine x_ilN 36 C dX6_moveStation_35 1 rfl rfl rfl ?_
      refine xrC_11 37 C dX6_moveStation_36 rfl hf (fun x3 hf => ?_)
      refine x_isN 38 C 3 (lv2 := [(3, .int x3), (0, .ref (ad 32)), (1, .int p1), (2, .int p2)]) dX6_moveStation_37 rfl rfl (Nat.le_of_ble_eq_true rfl) rfl ?_
      refine x_alN 39 C dX6_moveStation_38 1 rfl rfl rfl ?_
      refine xgX6_0 42 C mq_270 dX6_moveStation_39 rfl ?_
      refine xgX3_15 45 C mq_131 dX6_moveStation_42 rfl ?_
      refine x_ilN 46 C dX6_moveStation_45 2 rfl rfl rfl ?_
      refine x_ilN 47 C dX6_moveStation_46 3 rfl rfl rfl ?_
      refine xwC_11 48 C dX6_moveStation_47 rfl hf (fun M4 hf => ?_)
      refine x_ilN 49 C dX6_moveStation_48 0 rfl rfl rfl ?_
      exact x_iretM C HQ rfl (vp_nar_int _) dX6_moveStation_49 hf
    ·
      refine x_bipush 27 C (-2) dX6_moveStation_25 kb_m2 rfl ?_
      exact x_iretM C HQ rfl (vp_nar_int _) dX6_moveStation_27 hf
  ·
    refine x_bipush 13 C (-4) dX6_moveStation_11 kb_m4 rfl ?_
    exact x_iretM C HQ rfl (vp_nar_int _) dX6_moveStation_13 hf
set_option maxRecDepth 20000 in
set_option maxHeartbeats 1000000 in
theorem tX6_tick_B24 {l : Launch} {Y : xY} {X : xE} {ad : Nat → Nat} {fr : va_W} {z0 : Int32 × xM} (C : xC Y X cX6_tick RX6 (some .int) 3 6 129) (HQ : xRI Y X (wC Y ad fr) z0.1 z0.2)  (v1 : Int32) (k43 : xM → Option (Int32 × xM)) (Hk43 : ∀ (M : xM), k43 M = some z0 → xG Y l X (wC Y ad fr) M 43 [(0, .ref (ad 32))] []) (M : xM) (v2 : Int32) (b24 : xM → Int32 → Option (Int32 × xM)) (Hb24 : ∀ (M : xM) (v2 : Int32), b24 M v2 = some z0 → xG Y l X (wC Y ad fr) M 24 [(0, .ref (ad 32)), (1, .int v1), (2, .int v2)] []) (hf : fX6_tick_B24 v1 k43 M v2 b24 = some z0) : xG Y l X (wC Y ad fr) M 24 [(0, .ref (ad 32)), (1, .int v1), (2, .int v2)] [] := by
  unfold fX6_tick_B24 at hf
  refine x_ilN 25 C dX6_tick_24 2 rfl rfl rfl ?_
  refine x_ilN 26 C dX6_tick_25 1 rfl rfl rfl ?_
  refine x_icmp_ge 29 C 43 dX6_tick_26 (by decide) rfl hf (fun hf => ?_) (fun hf => ?_)
  ·
    refine x_sub [0] rfl ?_
    exact Hk43 _ hf
  ·
    refine x_alN 30 C dX6_tick_29 0 rfl rfl rfl ?_
    refine xgX6_2 33 C mq_272 dX6_tick_30 rfl ?_
    refine x_cvIM 36 C [] hwX4_makeTick mq_449 dX6_tick_33 rfl ⟨Nat.le_of_ble_eq_true rfl, Nat.le_of_ble_eq_true rfl⟩ 22 wC_at_22 rfl rfl rfl (Nat.le_of_ble_eq_true rfl) (fun z hz => tX4_makeTick hz) hf (fun z2 hf => ?_)
    refine x_pop 37 C dX6_tick_36 rfl rfl ?_
    refine x_iinc 40 C (v2 + (nI 1)) (lv2 := [(2, .int (v2 + (nI 1))), (0, .ref (ad 32)), (1, .int v1)]) dX6_tick_37 2 rfl rfl rfl (Nat.le_of_ble_eq_true rfl) rfl ?_
    refine x_goto 24 C dX6_tick_40 (by decide) ?_
    refine x_sub [1, 2, 0] rfl ?_
    exact Hb24 _ _ hf
set_option maxRecDepth 20000 in
set_option maxHeartbeats 1000000 in
theorem tX6_tick_L24 {l : Launch} {Y : xY} {X : xE} {ad : Nat → Nat} {fr : va_W} {z0 : Int32 × xM} (C : xC Y X cX6_tick RX6 (some .int) 3 6 129) (HQ : xRI Y X (wC Y ad fr) z0.1 z0.2)  (v1 : Int32) (k43 : xM → Option (Int32 × xM)) (Hk43 : ∀ (M : xM), k43 M = some z0 → xG Y l X (wC Y ad fr) M 43 [(0, .ref (ad 32))] []) : ∀ (n : Nat) (M : xM) (v2 : Int32), fX6_tick_L24 v1 k43 n M v2 = some z0 → xG Y l X (wC Y ad fr) M 24 [(0, .ref (ad 32)), (1, .int v1), (2, .int v2)] [] := by
  intro n
  induction n with
  | zero =>
    intro M v2 hf
    cases hf
  | succ n ih =>
    intro M v2 hf
    exact tX6_tick_B24 C HQ  v1 _ Hk43 M v2 _ (fun M v2 hf => ih M v2 hf) hf
set_option maxRecDepth 20000 in
set_option maxHeartbeats 1000000 in
theorem tX6_tick {l : Launch} {Y : xY} {ad : Nat → Nat} {fr : va_W} {M : xM} {p1 : Int32} {z0 : Int32 × xM} (hf : fX6_tick M p1 = some z0) : xcI l Y (wC Y ad fr) yX6_tick cX6_tick 3 (some .int) 6 129 [.ref (ad 32), .int p1] M z0.1 z0.2 := by
  refine x_entryI [(0, .ref (ad 32)), (1, .int p1)] pnX6 rfl (Nat.le_of_ble_eq_true rfl) rfl (fun X C HQ => ?_)
  unfold fX6_tick at hf
  refine x_ilN 1 C dX6_tick_0 1 rfl rfl rfl ?_
  refine x_iconst 2 C (nI 1) dX6_tick_1 ki_1 rfl ?_
  refine x_icmp_lt 5 C 11 dX6_tick_2 (by decide) rfl hf (fun hf => ?_) (fun hf => ?_)
  ·
    refine x_bipush 13 C (-5) dX6_tick_11 kb_m5 rfl ?_
    exact x_iretM C HQ rfl (vp_nar_int _) dX6_tick_13 hf
  ·
    refine x_ilN 6 C dX6_tick_5 1 rfl rfl rfl ?_
    refine x_bipush 8 C (nI 50) dX6_tick_6 kb_50 rfl ?_
    refine x_icmp_le 11 C 14 dX6_tick_8 (by decide) rfl hf (fun hf => ?_) (fun hf => ?_)
    ·
      refine x_alN 15 C dX6_tick_14 0 rfl rfl rfl ?_
      refine xgX6_1 18 C mq_271 dX6_tick_15 rfl ?_
      refine x_cvIM 21 C [] hwX0_elect mq_391 dX6_tick_18 rfl ⟨Nat.le_of_ble_eq_true rfl, Nat.le_of_ble_eq_true rfl⟩ 15 wC_at_15 rfl rfl rfl (Nat.le_of_ble_eq_true rfl) (fun z hz => tX0_elect hz) hf (fun z1 hf => ?_)
      refine x_pop 22 C dX6_tick_21 rfl rfl ?_
      refine x_iconst 23 C (nI 0) dX6_tick_22 ki_0 rfl ?_
      refine x_isN 24 C 2 (lv2 := [(2, .int (nI 0)), (0, .ref (ad 32)), (1, .int p1)]) dX6_tick_23 rfl rfl (Nat.le_of_ble_eq_true rfl) rfl ?_
      refine x_sub [1, 2, 0] rfl ?_
      refine tX6_tick_L24 C HQ _ _ (fun M3 hf => ?_) 512 _ _ hf
      refine x_alN 44 C dX6_tick_43 0 rfl rfl rfl ?_
      refine xgX6_0 47 C mq_270 dX6_tick_44 rfl ?_
      refine xgX3_4 50 C mq_99 dX6_tick_47 rfl ?_
      exact x_iretM C HQ rfl (vp_nar_int _) dX6_tick_50 hf
    ·
      refine x_bipush 13 C (-5) dX6_tick_11 kb_m5 rfl ?_
      exact x_iretM C HQ rfl (vp_nar_int _) dX6_tick_13 hf
set_option maxRecDepth 20000 in
set_option maxHeartbeats 1000000 in
theorem tX6_settle_j54 {l : Launch} {Y : xY} {X : xE} {ad : Nat → Nat} {fr : va_W} {z0 : Int32 × xM} (C : xC Y X cX6_settle RX6 (some .int) 5 6 129) (HQ : xRI Y X (wC Y ad fr) z0.1 z0.2) (M : xM) (v1 : Int32) (v3 : Int32) (s0 : Int32) (b28 : xM → Int32 → Int32 → Option (Int32 × xM)) (Hb28 : ∀ (M : xM) (v2 : Int32) (v3 : Int32), b28 M v2 v3 = some z0 → xG Y l X (wC Y ad fr) M 28 [(0, .ref (ad 32)), (1, .int v1), (2, .int v2), (3, .int v3)] []) (hf : fX6_settle_j54 M v1 v3 s0 b28 = some z0) : xG Y l X (wC Y ad fr) M 54 [(0, .ref (ad 32)), (1, .int v1), (3, .int v3)] [.int s0] := by
  unfold fX6_settle_j54 at hf
  refine x_isN 55 C 2 (lv2 := [(2, .int s0), (0, .ref (ad 32)), (1, .int v1), (3, .int v3)]) dX6_settle_54 rfl rfl (Nat.le_of_ble_eq_true rfl) rfl ?_
  refine x_ilN 56 C dX6_settle_55 0 rfl rfl rfl ?_
  refine x_bipush 58 C (nI 8) dX6_settle_56 kb_8 rfl ?_
  refine x_icmp_lt 61 C 63 dX6_settle_58 (by decide) rfl hf (fun hf => ?_) (fun hf => ?_)
  ·
    refine x_iinc 66 C (v3 + (nI 1)) (lv2 := [(3, .int (v3 + (nI 1))), (2, .int s0), (0, .ref (ad 32)), (1, .int v1)]) dX6_settle_63 3 rfl rfl rfl (Nat.le_of_ble_eq_true rfl) rfl ?_
    refine x_goto 28 C dX6_settle_66 (by decide) ?_
    refine x_sub [2, 3, 1, 0] rfl ?_
    exact Hb28 _ _ _ hf
  ·
    refine x_ilN 62 C dX6_settle_61 3 rfl rfl rfl ?_
    exact x_iretM C HQ rfl (vp_nar_int _) dX6_settle_62 hf
set_option maxRecDepth 20000 in
set_option maxHeartbeats 1000000 in
theorem tX6_settle_B28 {l : Launch} {Y : xY} {X : xE} {ad : Nat → Nat} {fr : va_W} {z0 : Int32 × xM} (C : xC Y X cX6_settle RX6 (some .int) 5 6 129) (HQ : xRI Y X (wC Y ad fr) z0.1 z0.2)  (v1 : Int32) (k69 : xM → Option (Int32 × xM)) (Hk69 : ∀ (M : xM), k69 M = some z0 → xG Y l X (wC Y ad fr) M 69 [] []) (M : xM) (v2 : Int32) (v3 : Int32) (b28 : xM → Int32 → Int32 → Option (Int32 × xM)) (Hb28 : ∀ (M : xM) (v2 : Int32) (v3 : Int32), b28 M v2 v3 = some z0 → xG Y l X (wC Y ad fr) M 28 [(0, .ref (ad 32)), (1, .int v1), (2, .int v2), (3, .int v3)] []) (hf : fX6_settle_B28 v1 k69 M v2 v3 b28 = some z0) : xG Y l X (wC Y ad fr) M 28 [(0, .ref (ad 32)), (1, .int v1), (2, .int v2), (3, .int v3)] [] := by
  unfold fX6_settle_B28 at hf
  refine x_ilN 29 C dX6_settle_28 3 rfl rfl rfl ?_
  refine x_ilN 30 C dX6_settle_29 1 rfl rfl rfl ?_
  refine x_icmp_gt 33 C 69 dX6_settle_30 (by decide) rfl hf (fun hf => ?_) (fun hf => ?_)
  ·
    refine x_sub [] rfl ?_
    exact Hk69 _ hf
  ·
    refine x_alN 34 C dX6_settle_33 0 rfl rfl rfl ?_
    refine xgX6_2 37 C mq_272 dX6_settle_34 rfl ?_
    refine x_cvIM 40 C [] hwX4_makeTick mq_449 dX6_settle_37 rfl ⟨Nat.le_of_ble_eq_true rfl, Nat.le_of_ble_eq_true rfl⟩ 22 wC_at_22 rfl rfl rfl (Nat.le_of_ble_eq_true rfl) (fun z hz => tX4_makeTick hz) hf (fun z2 hf => ?_)
    refine x_is 42 C 4 (lv2 := [(4, .int z2.1), (0, .ref (ad 32)), (1, .int v1), (2, .int v2), (3, .int v3)]) dX6_settle_40 rfl (Nat.le_of_ble_eq_true rfl) rfl ?_
    refine x_il 44 C dX6_settle_42 0 rfl rfl ?_
    refine x_if_eq 47 C 51 dX6_settle_44 (by decide) rfl hf (fun hf => ?_) (fun hf => ?_)
    ·
      refine x_ilN 52 C dX6_settle_51 3 rfl rfl rfl ?_
      refine x_iconst 53 C (nI 1) dX6_settle_52 ki_1 rfl ?_
      refine x_iadd 54 C dX6_settle_53 rfl ?_
      refine x_sub [1, 2, 4] rfl ?_
      exact tX6_settle_j54 C HQ _ _ _ _ _ Hb28 hf
    ·
      refine x_iconst 48 C (nI 0) dX6_settle_47 ki_0 rfl ?_
      refine x_goto 54 C dX6_settle_48 (by decide) ?_
      refine x_sub [1, 2, 4] rfl ?_
      exact tX6_settle_j54 C HQ _ _ _ _ _ Hb28 hf
set_option maxRecDepth 20000 in
set_option maxHeartbeats 1000000 in
theorem tX6_settle_L28 {l : Launch} {Y : xY} {X : xE} {ad : Nat → Nat} {fr : va_W} {z0 : Int32 × xM} (C : xC Y X cX6_settle RX6 (some .int) 5 6 129) (HQ : xRI Y X (wC Y ad fr) z0.1 z0.2)  (v1 : Int32) (k69 : xM → Option (Int32 × xM)) (Hk69 : ∀ (M : xM), k69 M = some z0 → xG Y l X (wC Y ad fr) M 69 [] []) : ∀ (n : Nat) (M : xM) (v2 : Int32) (v3 : Int32), fX6_settle_L28 v1 k69 n M v2 v3 = some z0 → xG Y l X (wC Y ad fr) M 28 [(0, .ref (ad 32)), (1, .int v1), (2, .int v2), (3, .int v3)] [] := by
  intro n
  induction n with
  | zero =>
    intro M v2 v3 hf
    cases hf
  | succ n ih =>
    intro M v2 v3 hf
    exact tX6_settle_B28 C HQ  v1 _ Hk69 M v2 v3 _ (fun M v2 v3 hf => ih M v2 v3 hf) hf
set_option maxRecDepth 20000 in
set_option maxHeartbeats 1000000 in
theorem tX6_settle {l : Launch} {Y : xY} {ad : Nat → Nat} {fr : va_W} {M : xM} {p1 : Int32} {z0 : Int32 × xM} (hf : fX6_settle M p1 = some z0) : xcI l Y (wC Y ad fr) yX6_settle cX6_settle 5 (some .int) 6 129 [.ref (ad 32), .int p1] M z0.1 z0.2 := by
  refine x_entryI [(0, .ref (ad 32)), (1, .int p1)] pnX6 rfl (Nat.le_of_ble_eq_true rfl) rfl (fun X C HQ => ?_)
  unfold fX6_settle at hf
  refine x_ilN 1 C dX6_settle_0 1 rfl rfl rfl ?_
  refine x_bipush 3 C (nI 8) dX6_settle_1 kb_8 rfl ?_
  refine x_icmp_lt 6 C 13 dX6_settle_3 (by decide) rfl hf (fun hf => ?_) (fun hf => ?_)
  ·
    refine x_bipush 15 C (-5) dX6_settle_13 kb_m5 rfl ?_
    exact x_iretM C HQ rfl (vp_nar_int _) dX6_settle_15 hf
  ·
    refine x_ilN 7 C dX6_settle_6 1 rfl rfl rfl ?_
    refine x_sipush 10 C (nI 200) dX6_settle_7 ks_200 rfl ?_
    refine x_icmp_le 13 C 16 dX6_settle_10 (by decide) rfl hf (fun hf => ?_) (fun hf => ?_)
    ·
      refine x_alN 17 C dX6_settle_16 0 rfl rfl rfl ?_
      refine xgX6_1 20 C mq_271 dX6_settle_17 rfl ?_
      refine x_cvIM 23 C [] hwX0_elect mq_391 dX6_settle_20 rfl ⟨Nat.le_of_ble_eq_true rfl, Nat.le_of_ble_eq_true rfl⟩ 15 wC_at_15 rfl rfl rfl (Nat.le_of_ble_eq_true rfl) (fun z hz => tX0_elect hz) hf (fun z1 hf => ?_)
      refine x_pop 24 C dX6_settle_23 rfl rfl ?_
      refine x_iconst 25 C (nI 0) dX6_settle_24 ki_0 rfl ?_
      refine x_isN 26 C 2 (lv2 := [(2, .int (nI 0)), (0, .ref (ad 32)), (1, .int p1)]) dX6_settle_25 rfl rfl (Nat.le_of_ble_eq_true rfl) rfl ?_
      refine x_iconst 27 C (nI 1) dX6_settle_26 ki_1 rfl ?_
      refine x_isN 28 C 3 (lv2 := [(3, .int (nI 1)), (2, .int (nI 0)), (0, .ref (ad 32)), (1, .int p1)]) dX6_settle_27 rfl rfl (Nat.le_of_ble_eq_true rfl) rfl ?_
      refine x_sub [2, 3, 1, 0] rfl ?_
      refine tX6_settle_L28 C HQ _ _ (fun M3 hf => ?_) 512 _ _ _ hf
      refine x_bipush 71 C (-7) dX6_settle_69 kb_m7 rfl ?_
      exact x_iretM C HQ rfl (vp_nar_int _) dX6_settle_71 hf
    ·
      refine x_bipush 15 C (-5) dX6_settle_13 kb_m5 rfl ?_
      exact x_iretM C HQ rfl (vp_nar_int _) dX6_settle_15 hf
set_option maxRecDepth 20000 in
set_option maxHeartbeats 1000000 in
theorem tX6_identifier {l : Launch} {Y : xY} {ad : Nat → Nat} {fr : va_W} {M : xM} {p1 : Int32} {z0 : Int32} (hf : fX6_identifier M p1 = some z0) : xcI l Y (wC Y ad fr) yX6_identifier cX6_identifier 2 (some .int) 1 21 [.ref (ad 32), .int p1] M z0 M := by
  refine x_entryI [(0, .ref (ad 32)), (1, .int p1)] pnX6 rfl (Nat.le_of_ble_eq_true rfl) rfl (fun X C HQ => ?_)
  unfold fX6_identifier at hf
  refine x_alN 1 C dX6_identifier_0 0 rfl rfl rfl ?_
  refine xgX6_0 4 C mq_270 dX6_identifier_1 rfl ?_
  refine x_ilN 5 C dX6_identifier_4 1 rfl rfl rfl ?_
  refine x_cvIP 8 C [.int p1] hwX3_hasBridge mq_312 dX6_identifier_5 rfl ⟨Nat.le_of_ble_eq_true rfl, Nat.le_of_ble_eq_true rfl⟩ 0 wC_at_0 rfl rfl rfl (Nat.le_of_ble_eq_true rfl) (fun z hz => tX3_hasBridge hz) hf (fun z1 hf => ?_)
  refine x_if_ne 11 C 13 dX6_identifier_8 (by decide) rfl hf (fun hf => ?_) (fun hf => ?_)
  ·
    refine x_alN 14 C dX6_identifier_13 0 rfl rfl rfl ?_
    refine xgX6_0 17 C mq_270 dX6_identifier_14 rfl ?_
    refine x_ilN 18 C dX6_identifier_17 1 rfl rfl rfl ?_
    refine x_cvIP 21 C [.int p1] hwX3_identifierOf mq_517 dX6_identifier_18 rfl ⟨Nat.le_of_ble_eq_true rfl, Nat.le_of_ble_eq_true rfl⟩ 0 wC_at_0 rfl rfl rfl (Nat.le_of_ble_eq_true rfl) (fun z hz => tX3_identifierOf hz) hf (fun z2 hf => ?_)
    exact x_iretP C HQ rfl (vp_nar_int _) dX6_identifier_21 hf
  ·
    refine x_iconst 12 C (-1) dX6_identifier_11 ki_m1 rfl ?_
    exact x_iretP C HQ rfl (vp_nar_int _) dX6_identifier_12 hf
set_option maxRecDepth 20000 in
set_option maxHeartbeats 1000000 in
theorem tX6_root {l : Launch} {Y : xY} {ad : Nat → Nat} {fr : va_W} {M : xM} {p1 : Int32} {z0 : Int32 × xM} (hf : fX6_root M p1 = some z0) : xcI l Y (wC Y ad fr) yX6_root cX6_root 2 (some .int) 5 107 [.ref (ad 32), .int p1] M z0.1 z0.2 := by
  refine x_entryI [(0, .ref (ad 32)), (1, .int p1)] pnX6 rfl (Nat.le_of_ble_eq_true rfl) rfl (fun X C HQ => ?_)
  unfold fX6_root at hf
  refine x_alN 1 C dX6_root_0 0 rfl rfl rfl ?_
  refine xgX6_0 4 C mq_270 dX6_root_1 rfl ?_
  refine x_ilN 5 C dX6_root_4 1 rfl rfl rfl ?_
  refine x_cvIP 8 C [.int p1] hwX3_hasBridge mq_312 dX6_root_5 rfl ⟨Nat.le_of_ble_eq_true rfl, Nat.le_of_ble_eq_true rfl⟩ 0 wC_at_0 rfl rfl rfl (Nat.le_of_ble_eq_true rfl) (fun z hz => tX3_hasBridge hz) hf (fun z1 hf => ?_)
  refine x_if_ne 11 C 13 dX6_root_8 (by decide) rfl hf (fun hf => ?_) (fun hf => ?_)
  ·
    refine x_alN 14 C dX6_root_13 0 rfl rfl rfl ?_
    refine xgX6_0 17 C mq_270 dX6_root_14 rfl ?_
    refine x_ilN 18 C dX6_root_17 1 rfl rfl rfl ?_
    refine x_cvIP 21 C [.int p1] hwX3_isBridgeUp mq_522 dX6_root_18 rfl ⟨Nat.le_of_ble_eq_true rfl, Nat.le_of_ble_eq_true rfl⟩ 0 wC_at_0 rfl rfl rfl (Nat.le_of_ble_eq_true rfl) (fun z hz => tX3_isBridgeUp hz) hf (fun z2 hf => ?_)
    refine x_if_ne 24 C 27 dX6_root_21 (by decide) rfl hf (fun hf => ?_) (fun hf => ?_)
    ·
      refine x_alN 28 C dX6_root_27 0 rfl rfl rfl ?_
      refine xgX6_1 31 C mq_271 dX6_root_28 rfl ?_
      refine x_cvIM 34 C [] hwX0_elect mq_391 dX6_root_31 rfl ⟨Nat.le_of_ble_eq_true rfl, Nat.le_of_ble_eq_true rfl⟩ 15 wC_at_15 rfl rfl rfl (Nat.le_of_ble_eq_true rfl) (fun z hz => tX0_elect hz) hf (fun z3 hf => ?_)
      refine x_pop 35 C dX6_root_34 rfl rfl ?_
      refine x_alN 36 C dX6_root_35 0 rfl rfl rfl ?_
      refine xgX6_1 39 C mq_271 dX6_root_36 rfl ?_
      refine xgX0_1 42 C mq_186 dX6_root_39 rfl ?_
      refine x_ilN 43 C dX6_root_42 1 rfl rfl rfl ?_
      refine xrC_16 44 C dX6_root_43 rfl hf (fun x4 hf => ?_)
      exact x_iretM C HQ rfl (vp_nar_int _) dX6_root_44 hf
    ·
      refine x_bipush 26 C (-9) dX6_root_24 kb_m9 rfl ?_
      exact x_iretM C HQ rfl (vp_nar_int _) dX6_root_26 hf
  ·
    refine x_iconst 12 C (-1) dX6_root_11 ki_m1 rfl ?_
    exact x_iretM C HQ rfl (vp_nar_int _) dX6_root_12 hf
set_option maxRecDepth 20000 in
set_option maxHeartbeats 1000000 in
theorem tX6_rootCost {l : Launch} {Y : xY} {ad : Nat → Nat} {fr : va_W} {M : xM} {p1 : Int32} {z0 : Int32 × xM} (hf : fX6_rootCost M p1 = some z0) : xcI l Y (wC Y ad fr) yX6_rootCost cX6_rootCost 2 (some .int) 5 107 [.ref (ad 32), .int p1] M z0.1 z0.2 := by
  refine x_entryI [(0, .ref (ad 32)), (1, .int p1)] pnX6 rfl (Nat.le_of_ble_eq_true rfl) rfl (fun X C HQ => ?_)
  unfold fX6_rootCost at hf
  refine x_alN 1 C dX6_rootCost_0 0 rfl rfl rfl ?_
  refine xgX6_0 4 C mq_270 dX6_rootCost_1 rfl ?_
  refine x_ilN 5 C dX6_rootCost_4 1 rfl rfl rfl ?_
  refine x_cvIP 8 C [.int p1] hwX3_hasBridge mq_312 dX6_rootCost_5 rfl ⟨Nat.le_of_ble_eq_true rfl, Nat.le_of_ble_eq_true rfl⟩ 0 wC_at_0 rfl rfl rfl (Nat.le_of_ble_eq_true rfl) (fun z hz => tX3_hasBridge hz) hf (fun z1 hf => ?_)
  refine x_if_ne 11 C 13 dX6_rootCost_8 (by decide) rfl hf (fun hf => ?_) (fun hf => ?_)
  ·
    refine x_alN 14 C dX6_rootCost_13 0 rfl rfl rfl ?_
    refine xgX6_0 17 C mq_270 dX6_rootCost_14 rfl ?_
    refine x_ilN 18 C dX6_rootCost_17 1 rfl rfl rfl ?_
    refine x_cvIP 21 C [.int p1] hwX3_isBridgeUp mq_522 dX6_rootCost_18 rfl ⟨Nat.le_of_ble_eq_true rfl, Nat.le_of_ble_eq_true rfl⟩ 0 wC_at_0 rfl rfl rfl (Nat.le_of_ble_eq_true rfl) (fun z hz => tX3_isBridgeUp hz) hf (fun z2 hf => ?_)
    refine x_if_ne 24 C 27 dX6_rootCost_21 (by decide) rfl hf (fun hf => ?_) (fun hf => ?_)
    ·
      refine x_alN 28 C dX6_rootCost_27 0 rfl rfl rfl ?_
      refine xgX6_1 31 C mq_271 dX6_rootCost_28 rfl ?_
      refine x_cvIM 34 C [] hwX0_elect mq_391 dX6_rootCost_31 rfl ⟨Nat.le_of_ble_eq_true rfl, Nat.le_of_ble_eq_true rfl⟩ 15 wC_at_15 rfl rfl rfl (Nat.le_of_ble_eq_true rfl) (fun z hz => tX0_elect hz) hf (fun z3 hf => ?_)
      refine x_pop 35 C dX6_rootCost_34 rfl rfl ?_
      refine x_alN 36 C dX6_rootCost_35 0 rfl rfl rfl ?_
      refine xgX6_1 39 C mq_271 dX6_rootCost_36 rfl ?_
      refine xgX0_2 42 C mq_188 dX6_rootCost_39 rfl ?_
      refine x_ilN 43 C dX6_rootCost_42 1 rfl rfl rfl ?_
      refine xrC_17 44 C dX6_rootCost_43 rfl hf (fun x4 hf => ?_)
      exact x_iretM C HQ rfl (vp_nar_int _) dX6_rootCost_44 hf
    ·
      refine x_bipush 26 C (-9) dX6_rootCost_24 kb_m9 rfl ?_
      exact x_iretM C HQ rfl (vp_nar_int _) dX6_rootCost_26 hf
  ·
    refine x_iconst 12 C (-1) dX6_rootCost_11 ki_m1 rfl ?_
    exact x_iretM C HQ rfl (vp_nar_int _) dX6_rootCost_12 hf
set_option maxRecDepth 20000 in
set_option maxHeartbeats 1000000 in
theorem tX6_rootPort {l : Launch} {Y : xY} {ad : Nat → Nat} {fr : va_W} {M : xM} {p1 : Int32} {z0 : Int32 × xM} (hf : fX6_rootPort M p1 = some z0) : xcI l Y (wC Y ad fr) yX6_rootPort cX6_rootPort 3 (some .int) 5 107 [.ref (ad 32), .int p1] M z0.1 z0.2 := by
  refine x_entryI [(0, .ref (ad 32)), (1, .int p1)] pnX6 rfl (Nat.le_of_ble_eq_true rfl) rfl (fun X C HQ => ?_)
  unfold fX6_rootPort at hf
  refine x_alN 1 C dX6_rootPort_0 0 rfl rfl rfl ?_
  refine xgX6_0 4 C mq_270 dX6_rootPort_1 rfl ?_
  refine x_ilN 5 C dX6_rootPort_4 1 rfl rfl rfl ?_
  refine x_cvIP 8 C [.int p1] hwX3_hasBridge mq_312 dX6_rootPort_5 rfl ⟨Nat.le_of_ble_eq_true rfl, Nat.le_of_ble_eq_true rfl⟩ 0 wC_at_0 rfl rfl rfl (Nat.le_of_ble_eq_true rfl) (fun z hz => tX3_hasBridge hz) hf (fun z1 hf => ?_)
  refine x_if_ne 11 C 13 dX6_rootPort_8 (by decide) rfl hf (fun hf => ?_) (fun hf => ?_)
  ·
    refine x_alN 14 C dX6_rootPort_13 0 rfl rfl rfl ?_
    refine xgX6_1 17 C mq_271 dX6_rootPort_14 rfl ?_
    refine x_cvIM 20 C [] hwX0_elect mq_391 dX6_rootPort_17 rfl ⟨Nat.le_of_ble_eq_true rfl, Nat.le_of_ble_eq_true rfl⟩ 15 wC_at_15 rfl rfl rfl (Nat.le_of_ble_eq_true rfl) (fun z hz => tX0_elect hz) hf (fun z2 hf => ?_)
    refine x_pop 21 C dX6_rootPort_20 rfl rfl ?_
    refine x_alN 22 C dX6_rootPort_21 0 rfl rfl rfl ?_
    refine xgX6_1 25 C mq_271 dX6_rootPort_22 rfl ?_
    refine xgX0_3 28 C mq_191 dX6_rootPort_25 rfl ?_
    refine x_ilN 29 C dX6_rootPort_28 1 rfl rfl rfl ?_
    refine xrC_18 30 C dX6_rootPort_29 rfl hf (fun x3 hf => ?_)
    refine x_isN 31 C 2 (lv2 := [(2, .int x3), (0, .ref (ad 32)), (1, .int p1)]) dX6_rootPort_30 rfl rfl (Nat.le_of_ble_eq_true rfl) rfl ?_
    refine x_ilN 32 C dX6_rootPort_31 0 rfl rfl rfl ?_
    refine x_iconst 33 C (-1) dX6_rootPort_32 ki_m1 rfl ?_
    refine x_icmp_ne 36 C 41 dX6_rootPort_33 (by decide) rfl hf (fun hf => ?_) (fun hf => ?_)
    ·
      refine x_ilN 42 C dX6_rootPort_41 0 rfl rfl rfl ?_
      exact x_iretM C HQ rfl (vp_nar_int _) dX6_rootPort_42 hf
    ·
      refine x_bipush 38 C (-9) dX6_rootPort_36 kb_m9 rfl ?_
      refine x_goto 42 C dX6_rootPort_38 (by decide) ?_
      exact x_iretM C HQ rfl (vp_nar_int _) dX6_rootPort_42 hf
  ·
    refine x_iconst 12 C (-1) dX6_rootPort_11 ki_m1 rfl ?_
    exact x_iretM C HQ rfl (vp_nar_int _) dX6_rootPort_12 hf
set_option maxRecDepth 20000 in
set_option maxHeartbeats 1000000 in
theorem tX6_role {l : Launch} {Y : xY} {ad : Nat → Nat} {fr : va_W} {M : xM} {p1 : Int32} {z0 : Int32 × xM} (hf : fX6_role M p1 = some z0) : xcI l Y (wC Y ad fr) yX6_role cX6_role 2 (some .int) 5 107 [.ref (ad 32), .int p1] M z0.1 z0.2 := by
  refine x_entryI [(0, .ref (ad 32)), (1, .int p1)] pnX6 rfl (Nat.le_of_ble_eq_true rfl) rfl (fun X C HQ => ?_)
  unfold fX6_role at hf
  refine x_alN 1 C dX6_role_0 0 rfl rfl rfl ?_
  refine xgX6_0 4 C mq_270 dX6_role_1 rfl ?_
  refine x_ilN 5 C dX6_role_4 1 rfl rfl rfl ?_
  refine x_cvIP 8 C [.int p1] hwX3_hasPort mq_347 dX6_role_5 rfl ⟨Nat.le_of_ble_eq_true rfl, Nat.le_of_ble_eq_true rfl⟩ 0 wC_at_0 rfl rfl rfl (Nat.le_of_ble_eq_true rfl) (fun z hz => tX3_hasPort hz) hf (fun z1 hf => ?_)
  refine x_if_ne 11 C 14 dX6_role_8 (by decide) rfl hf (fun hf => ?_) (fun hf => ?_)
  ·
    refine x_alN 15 C dX6_role_14 0 rfl rfl rfl ?_
    refine xgX6_1 18 C mq_271 dX6_role_15 rfl ?_
    refine x_cvIM 21 C [] hwX0_elect mq_391 dX6_role_18 rfl ⟨Nat.le_of_ble_eq_true rfl, Nat.le_of_ble_eq_true rfl⟩ 15 wC_at_15 rfl rfl rfl (Nat.le_of_ble_eq_true rfl) (fun z hz => tX0_elect hz) hf (fun z2 hf => ?_)
    refine x_pop 22 C dX6_role_21 rfl rfl ?_
    refine x_alN 23 C dX6_role_22 0 rfl rfl rfl ?_
    refine xgX6_1 26 C mq_271 dX6_role_23 rfl ?_
    refine xgX0_4 29 C mq_194 dX6_role_26 rfl ?_
    refine x_ilN 30 C dX6_role_29 1 rfl rfl rfl ?_
    refine xrC_19 31 C dX6_role_30 rfl hf (fun x3 hf => ?_)
    exact x_iretM C HQ rfl (vp_nar_int _) dX6_role_31 hf
  ·
    refine x_bipush 13 C (-3) dX6_role_11 kb_m3 rfl ?_
    exact x_iretM C HQ rfl (vp_nar_int _) dX6_role_13 hf
set_option maxRecDepth 20000 in
set_option maxHeartbeats 1000000 in
theorem tX6_state {l : Launch} {Y : xY} {ad : Nat → Nat} {fr : va_W} {M : xM} {p1 : Int32} {z0 : Int32} (hf : fX6_state M p1 = some z0) : xcI l Y (wC Y ad fr) yX6_state cX6_state 2 (some .int) 1 21 [.ref (ad 32), .int p1] M z0 M := by
  refine x_entryI [(0, .ref (ad 32)), (1, .int p1)] pnX6 rfl (Nat.le_of_ble_eq_true rfl) rfl (fun X C HQ => ?_)
  unfold fX6_state at hf
  refine x_alN 1 C dX6_state_0 0 rfl rfl rfl ?_
  refine xgX6_0 4 C mq_270 dX6_state_1 rfl ?_
  refine x_ilN 5 C dX6_state_4 1 rfl rfl rfl ?_
  refine x_cvIP 8 C [.int p1] hwX3_hasPort mq_347 dX6_state_5 rfl ⟨Nat.le_of_ble_eq_true rfl, Nat.le_of_ble_eq_true rfl⟩ 0 wC_at_0 rfl rfl rfl (Nat.le_of_ble_eq_true rfl) (fun z hz => tX3_hasPort hz) hf (fun z1 hf => ?_)
  refine x_if_ne 11 C 14 dX6_state_8 (by decide) rfl hf (fun hf => ?_) (fun hf => ?_)
  ·
    refine x_alN 15 C dX6_state_14 0 rfl rfl rfl ?_
    refine xgX6_0 18 C mq_270 dX6_state_15 rfl ?_
    refine xgX3_11 21 C mq_119 dX6_state_18 rfl ?_
    refine x_ilN 22 C dX6_state_21 1 rfl rfl rfl ?_
    refine xrC_7 23 C dX6_state_22 rfl hf (fun x2 hf => ?_)
    exact x_iretP C HQ rfl (vp_nar_int _) dX6_state_23 hf
  ·
    refine x_bipush 13 C (-3) dX6_state_11 kb_m3 rfl ?_
    exact x_iretP C HQ rfl (vp_nar_int _) dX6_state_13 hf
set_option maxRecDepth 20000 in
set_option maxHeartbeats 1000000 in
theorem tX6_stored {l : Launch} {Y : xY} {ad : Nat → Nat} {fr : va_W} {M : xM} {p1 : Int32} {p2 : Int32} {z0 : Int32} (hf : fX6_stored M p1 p2 = some z0) : xcI l Y (wC Y ad fr) yX6_stored cX6_stored 5 (some .int) 1 21 [.ref (ad 32), .int p1, .int p2] M z0 M := by
  refine x_entryI [(0, .ref (ad 32)), (1, .int p1), (2, .int p2)] pnX6 rfl (Nat.le_of_ble_eq_true rfl) rfl (fun X C HQ => ?_)
  unfold fX6_stored at hf
  refine x_alN 1 C dX6_stored_0 0 rfl rfl rfl ?_
  refine xgX6_0 4 C mq_270 dX6_stored_1 rfl ?_
  refine x_ilN 5 C dX6_stored_4 1 rfl rfl rfl ?_
  refine x_cvIP 8 C [.int p1] hwX3_hasPort mq_347 dX6_stored_5 rfl ⟨Nat.le_of_ble_eq_true rfl, Nat.le_of_ble_eq_true rfl⟩ 0 wC_at_0 rfl rfl rfl (Nat.le_of_ble_eq_true rfl) (fun z hz => tX3_hasPort hz) hf (fun z1 hf => ?_)
  refine x_if_ne 11 C 14 dX6_stored_8 (by decide) rfl hf (fun hf => ?_) (fun hf => ?_)
  ·
    refine x_ilN 15 C dX6_stored_14 2 rfl rfl rfl ?_
    refine x_if_lt 18 C 23 dX6_stored_15 (by decide) rfl hf (fun hf => ?_) (fun hf => ?_)
    ·
      refine x_bipush 25 C (-5) dX6_stored_23 kb_m5 rfl ?_
      exact x_iretP C HQ rfl (vp_nar_int _) dX6_stored_25 hf
    ·
      refine x_ilN 19 C dX6_stored_18 2 rfl rfl rfl ?_
      refine x_iconst 20 C (nI 4) dX6_stored_19 ki_4 rfl ?_
      refine x_icmp_le 23 C 26 dX6_stored_20 (by decide) rfl hf (fun hf => ?_) (fun hf => ?_)
      ·
        refine x_alN 27 C dX6_stored_26 0 rfl rfl rfl ?_
        refine xgX6_0 30 C mq_270 dX6_stored_27 rfl ?_
        refine x_ilN 31 C dX6_stored_30 1 rfl rfl rfl ?_
        refine x_cvIP 34 C [.int p1] hwX3_storesMessage mq_543 dX6_stored_31 rfl ⟨Nat.le_of_ble_eq_true rfl, Nat.le_of_ble_eq_true rfl⟩ 0 wC_at_0 rfl rfl rfl (Nat.le_of_ble_eq_true rfl) (fun z hz => tX3_storesMessage hz) hf (fun z2 hf => ?_)
        refine x_if_ne 37 C 40 dX6_stored_34 (by decide) rfl hf (fun hf => ?_) (fun hf => ?_)
        ·
          refine x_alN 41 C dX6_stored_40 0 rfl rfl rfl ?_
          refine xgX6_0 44 C mq_270 dX6_stored_41 rfl ?_
          refine xgX3_13 47 C mq_125 dX6_stored_44 rfl ?_
          refine x_ilN 48 C dX6_stored_47 1 rfl rfl rfl ?_
          refine xrC_9 49 C dX6_stored_48 rfl hf (fun x3 hf => ?_)
          refine x_lsN 50 C 3 (lv2 := [(3, .long x3), (0, .ref (ad 32)), (1, .int p1), (2, .int p2)]) dX6_stored_49 rfl rfl (Nat.le_of_ble_eq_true rfl) rfl ?_
          refine x_ilN 51 C dX6_stored_50 3 rfl rfl rfl ?_
          by_cases h0 : p2 = nI 0
          · rw [if_pos h0] at hf
            refine x_swIn 80 C dX6_stored_51 (by rw [h0]; decide) (by rw [h0]; decide) (by rw [h0]; rfl) (by decide) ?_
            refine x_llN 81 C dX6_stored_80 0 rfl rfl rfl ?_
            refine x_csIP 84 C [.long x3] hwX2_rootOf mq_544 dX6_stored_81 rfl ⟨Nat.le_of_ble_eq_true rfl, Nat.le_of_ble_eq_true rfl⟩ rfl rfl (Nat.le_of_ble_eq_true rfl) (fun z hz => tX2_rootOf hz) hf (fun z4 hf => ?_)
            exact x_iretP C HQ rfl (vp_nar_int _) dX6_stored_84 hf
          rw [if_neg h0] at hf
          by_cases h1 : p2 = nI 1
          · rw [if_pos h1] at hf
            refine x_swIn 85 C dX6_stored_51 (by rw [h1]; decide) (by rw [h1]; decide) (by rw [h1]; rfl) (by decide) ?_
            refine x_llN 86 C dX6_stored_85 0 rfl rfl rfl ?_
            refine x_csIP 89 C [.long x3] hwX2_costOf mq_545 dX6_stored_86 rfl ⟨Nat.le_of_ble_eq_true rfl, Nat.le_of_ble_eq_true rfl⟩ rfl rfl (Nat.le_of_ble_eq_true rfl) (fun z hz => tX2_costOf hz) hf (fun z5 hf => ?_)
            exact x_iretP C HQ rfl (vp_nar_int _) dX6_stored_89 hf
          rw [if_neg h1] at hf
          by_cases h2 : p2 = nI 2
          · rw [if_pos h2] at hf
            refine x_swIn 90 C dX6_stored_51 (by rw [h2]; decide) (by rw [h2]; decide) (by rw [h2]; rfl) (by decide) ?_
            refine x_llN 91 C dX6_stored_90 0 rfl rfl rfl ?_
            refine x_csIP 94 C [.long x3] hwX2_senderOf mq_546 dX6_stored_91 rfl ⟨Nat.le_of_ble_eq_true rfl, Nat.le_of_ble_eq_true rfl⟩ rfl rfl (Nat.le_of_ble_eq_true rfl) (fun z hz => tX2_senderOf hz) hf (fun z6 hf => ?_)
            exact x_iretP C HQ rfl (vp_nar_int _) dX6_stored_94 hf
          rw [if_neg h2] at hf
          by_cases h3 : p2 = nI 3
          · rw [if_pos h3] at hf
            refine x_swIn 95 C dX6_stored_51 (by rw [h3]; decide) (by rw [h3]; decide) (by rw [h3]; rfl) (by decide) ?_
            refine x_llN 96 C dX6_stored_95 0 rfl rfl rfl ?_
            refine x_csIP 99 C [.long x3] hwX2_senderPortOf mq_547 dX6_stored_96 rfl ⟨Nat.le_of_ble_eq_true rfl, Nat.le_of_ble_eq_true rfl⟩ rfl rfl (Nat.le_of_ble_eq_true rfl) (fun z hz => tX2_senderPortOf hz) hf (fun z7 hf => ?_)
            exact x_iretP C HQ rfl (vp_nar_int _) dX6_stored_99 hf
          rw [if_neg h3] at hf
          refine x_swOut 100 C dX6_stored_51 (x_sw4 h0 h1 h2 h3) (by decide) ?_
          refine x_alN 101 C dX6_stored_100 1 rfl rfl rfl ?_
          refine xgX6_0 104 C mq_270 dX6_stored_101 rfl ?_
          refine xgX3_14 107 C mq_128 dX6_stored_104 rfl ?_
          refine x_ilN 108 C dX6_stored_107 2 rfl rfl rfl ?_
          refine xrC_10 109 C dX6_stored_108 rfl hf (fun x8 hf => ?_)
          exact x_iretP C HQ rfl (vp_nar_int _) dX6_stored_109 hf
        ·
          refine x_bipush 39 C (-9) dX6_stored_37 kb_m9 rfl ?_
          exact x_iretP C HQ rfl (vp_nar_int _) dX6_stored_39 hf
      ·
        refine x_bipush 25 C (-5) dX6_stored_23 kb_m5 rfl ?_
        exact x_iretP C HQ rfl (vp_nar_int _) dX6_stored_25 hf
  ·
    refine x_bipush 13 C (-3) dX6_stored_11 kb_m3 rfl ?_
    exact x_iretP C HQ rfl (vp_nar_int _) dX6_stored_13 hf
set_option maxRecDepth 20000 in
set_option maxHeartbeats 1000000 in
theorem tX6_portsIn_B16 {l : Launch} {Y : xY} {X : xE} {ad : Nat → Nat} {fr : va_W} {M0 : xM} {z0 : Int32} (C : xC Y X cX6_portsIn RX6 (some .int) 4 0 0) (HQ : xRI Y X (wC Y ad fr) z0 M0)  (v1 : Int32) (k52 : Int32 → Option (Int32)) (Hk52 : ∀ (v2 : Int32), k52 v2 = some z0 → xG Y l X (wC Y ad fr) M0 52 [(2, .int v2)] []) (v2 : Int32) (v3 : Int32) (b16 : Int32 → Int32 → Option (Int32)) (Hb16 : ∀ (v2 : Int32) (v3 : Int32), b16 v2 v3 = some z0 → xG Y l X (wC Y ad fr) M0 16 [(0, .ref (ad 32)), (1, .int v1), (2, .int v2), (3, .int v3)] []) (hf : fX6_portsIn_B16 M0 v1 k52 v2 v3 b16 = some z0) : xG Y l X (wC Y ad fr) M0 16 [(0, .ref (ad 32)), (1, .int v1), (2, .int v2), (3, .int v3)] [] := by
  unfold fX6_portsIn_B16 at hf
  refine x_ilN 17 C dX6_portsIn_16 3 rfl rfl rfl ?_
  refine x_alN 18 C dX6_portsIn_17 0 rfl rfl rfl ?_
  refine xgX6_0 21 C mq_270 dX6_portsIn_18 rfl ?_
  refine xgX3_2 24 C mq_94 dX6_portsIn_21 rfl ?_
  refine x_icmp_ge 27 C 52 dX6_portsIn_24 (by decide) rfl hf (fun hf => ?_) (fun hf => ?_)
  ·
    refine x_sub [2] rfl ?_
    exact Hk52 _ hf
  ·
    refine x_alN 28 C dX6_portsIn_27 0 rfl rfl rfl ?_
    refine xgX6_0 31 C mq_270 dX6_portsIn_28 rfl ?_
    refine xgX3_11 34 C mq_119 dX6_portsIn_31 rfl ?_
    refine x_ilN 35 C dX6_portsIn_34 3 rfl rfl rfl ?_
    refine xrC_7 36 C dX6_portsIn_35 rfl hf (fun x1 hf => ?_)
    refine x_ilN 37 C dX6_portsIn_36 1 rfl rfl rfl ?_
    refine x_icmp_ne 40 C 46 dX6_portsIn_37 (by decide) rfl hf (fun hf => ?_) (fun hf => ?_)
    ·
      refine x_iinc 49 C (v3 + (nI 1)) (lv2 := [(3, .int (v3 + (nI 1))), (0, .ref (ad 32)), (1, .int v1), (2, .int v2)]) dX6_portsIn_46 3 rfl rfl rfl (Nat.le_of_ble_eq_true rfl) rfl ?_
      refine x_goto 16 C dX6_portsIn_49 (by decide) ?_
      refine x_sub [1, 2, 3, 0] rfl ?_
      exact Hb16 _ _ hf
    ·
      refine x_ilN 41 C dX6_portsIn_40 2 rfl rfl rfl ?_
      refine x_iconst 42 C (nI 1) dX6_portsIn_41 ki_1 rfl ?_
      refine x_ilN 43 C dX6_portsIn_42 3 rfl rfl rfl ?_
      refine x_ishl 44 C dX6_portsIn_43 rfl ?_
      refine x_ior 45 C dX6_portsIn_44 rfl ?_
      refine x_isN 46 C 2 (lv2 := [(2, .int (v2 ||| ((nI 1) <<< (v3 &&& 31)))), (0, .ref (ad 32)), (1, .int v1), (3, .int v3)]) dX6_portsIn_45 rfl rfl (Nat.le_of_ble_eq_true rfl) rfl ?_
      refine x_iinc 49 C (v3 + (nI 1)) (lv2 := [(3, .int (v3 + (nI 1))), (2, .int (v2 ||| ((nI 1) <<< (v3 &&& 31)))), (0, .ref (ad 32)), (1, .int v1)]) dX6_portsIn_46 3 rfl rfl rfl (Nat.le_of_ble_eq_true rfl) rfl ?_
      refine x_goto 16 C dX6_portsIn_49 (by decide) ?_
      refine x_sub [2, 3, 1, 0] rfl ?_
      exact Hb16 _ _ hf
set_option maxRecDepth 20000 in
set_option maxHeartbeats 1000000 in
theorem tX6_portsIn_L16 {l : Launch} {Y : xY} {X : xE} {ad : Nat → Nat} {fr : va_W} {M0 : xM} {z0 : Int32} (C : xC Y X cX6_portsIn RX6 (some .int) 4 0 0) (HQ : xRI Y X (wC Y ad fr) z0 M0)  (v1 : Int32) (k52 : Int32 → Option (Int32)) (Hk52 : ∀ (v2 : Int32), k52 v2 = some z0 → xG Y l X (wC Y ad fr) M0 52 [(2, .int v2)] []) : ∀ (n : Nat) (v2 : Int32) (v3 : Int32), fX6_portsIn_L16 M0 v1 k52 n v2 v3 = some z0 → xG Y l X (wC Y ad fr) M0 16 [(0, .ref (ad 32)), (1, .int v1), (2, .int v2), (3, .int v3)] [] := by
  intro n
  induction n with
  | zero =>
    intro v2 v3 hf
    cases hf
  | succ n ih =>
    intro v2 v3 hf
    exact tX6_portsIn_B16 C HQ  v1 _ Hk52 v2 v3 _ (fun v2 v3 hf => ih v2 v3 hf) hf
set_option maxRecDepth 20000 in
set_option maxHeartbeats 1000000 in
theorem tX6_portsIn {l : Launch} {Y : xY} {ad : Nat → Nat} {fr : va_W} {M : xM} {p1 : Int32} {z0 : Int32} (hf : fX6_portsIn M p1 = some z0) : xcI l Y (wC Y ad fr) yX6_portsIn cX6_portsIn 4 (some .int) 0 0 [.ref (ad 32), .int p1] M z0 M := by
  refine x_entryI [(0, .ref (ad 32)), (1, .int p1)] pnX6 rfl (Nat.le_of_ble_eq_true rfl) rfl (fun X C HQ => ?_)
  unfold fX6_portsIn at hf
  refine x_ilN 1 C dX6_portsIn_0 1 rfl rfl rfl ?_
  refine x_if_lt 4 C 9 dX6_portsIn_1 (by decide) rfl hf (fun hf => ?_) (fun hf => ?_)
  ·
    refine x_bipush 11 C (-5) dX6_portsIn_9 kb_m5 rfl ?_
    exact x_iretP C HQ rfl (vp_nar_int _) dX6_portsIn_11 hf
  ·
    refine x_ilN 5 C dX6_portsIn_4 1 rfl rfl rfl ?_
    refine x_iconst 6 C (nI 4) dX6_portsIn_5 ki_4 rfl ?_
    refine x_icmp_le 9 C 12 dX6_portsIn_6 (by decide) rfl hf (fun hf => ?_) (fun hf => ?_)
    ·
      refine x_iconst 13 C (nI 0) dX6_portsIn_12 ki_0 rfl ?_
      refine x_isN 14 C 2 (lv2 := [(2, .int (nI 0)), (0, .ref (ad 32)), (1, .int p1)]) dX6_portsIn_13 rfl rfl (Nat.le_of_ble_eq_true rfl) rfl ?_
      refine x_iconst 15 C (nI 0) dX6_portsIn_14 ki_0 rfl ?_
      refine x_isN 16 C 3 (lv2 := [(3, .int (nI 0)), (2, .int (nI 0)), (0, .ref (ad 32)), (1, .int p1)]) dX6_portsIn_15 rfl rfl (Nat.le_of_ble_eq_true rfl) rfl ?_
      refine x_sub [2, 3, 1, 0] rfl ?_
      refine tX6_portsIn_L16 C HQ _ _ (fun v2 hf => ?_) 512 _ _ hf
      refine x_ilN 53 C dX6_portsIn_52 0 rfl rfl rfl ?_
      exact x_iretP C HQ rfl (vp_nar_int _) dX6_portsIn_53 hf
    ·
      refine x_bipush 11 C (-5) dX6_portsIn_9 kb_m5 rfl ?_
      exact x_iretP C HQ rfl (vp_nar_int _) dX6_portsIn_11 hf
set_option maxRecDepth 20000 in
set_option maxHeartbeats 1000000 in
theorem tX6_parts {l : Launch} {Y : xY} {ad : Nat → Nat} {fr : va_W} {M : xM}  {z0 : Int32 × xM} (hf : fX6_parts M = some z0) : xcI l Y (wC Y ad fr) yX6_parts cX6_parts 1 (some .int) 3 65 [.ref (ad 32)] M z0.1 z0.2 := by
  refine x_entryI [(0, .ref (ad 32))] pnX6 rfl (Nat.le_of_ble_eq_true rfl) rfl (fun X C HQ => ?_)
  unfold fX6_parts at hf
  refine x_alN 1 C dX6_parts_0 0 rfl rfl rfl ?_
  refine xgX6_4 4 C mq_274 dX6_parts_1 rfl ?_
  refine x_cvIM 7 C [] hwX5_countParts mq_558 dX6_parts_4 rfl ⟨Nat.le_of_ble_eq_true rfl, Nat.le_of_ble_eq_true rfl⟩ 30 wC_at_30 rfl rfl rfl (Nat.le_of_ble_eq_true rfl) (fun z hz => tX5_countParts hz) hf (fun z1 hf => ?_)
  exact x_iretM C HQ rfl (vp_nar_int _) dX6_parts_7 hf
set_option maxRecDepth 20000 in
set_option maxHeartbeats 1000000 in
theorem tX6_loops {l : Launch} {Y : xY} {ad : Nat → Nat} {fr : va_W} {M : xM}  {z0 : Int32 × xM} (hf : fX6_loops M = some z0) : xcI l Y (wC Y ad fr) yX6_loops cX6_loops 1 (some .int) 4 87 [.ref (ad 32)] M z0.1 z0.2 := by
  refine x_entryI [(0, .ref (ad 32))] pnX6 rfl (Nat.le_of_ble_eq_true rfl) rfl (fun X C HQ => ?_)
  unfold fX6_loops at hf
  refine x_alN 1 C dX6_loops_0 0 rfl rfl rfl ?_
  refine xgX6_4 4 C mq_274 dX6_loops_1 rfl ?_
  refine x_cvIM 7 C [] hwX5_countLoops mq_579 dX6_loops_4 rfl ⟨Nat.le_of_ble_eq_true rfl, Nat.le_of_ble_eq_true rfl⟩ 30 wC_at_30 rfl rfl rfl (Nat.le_of_ble_eq_true rfl) (fun z hz => tX5_countLoops hz) hf (fun z1 hf => ?_)
  exact x_iretM C HQ rfl (vp_nar_int _) dX6_loops_7 hf
set_option maxRecDepth 20000 in
set_option maxHeartbeats 1000000 in
theorem tX6_send_j33 {l : Launch} {Y : xY} {X : xE} {ad : Nat → Nat} {fr : va_W} {z0 : Int32 × xM} (C : xC Y X cX6_send RX6 (some .int) 3 6 141) (HQ : xRI Y X (wC Y ad fr) z0.1 z0.2) (M : xM) (v1 : Int32) (v2 : Int32)  (hf : fX6_send_j33 M v1 v2 = some z0) : xG Y l X (wC Y ad fr) M 33 [(0, .ref (ad 32)), (1, .int v1), (2, .int v2)] [] := by
  unfold fX6_send_j33 at hf
  refine x_alN 34 C dX6_send_33 0 rfl rfl rfl ?_
  refine xgX6_3 37 C mq_273 dX6_send_34 rfl ?_
  refine x_ilN 38 C dX6_send_37 1 rfl rfl rfl ?_
  refine x_ilN 39 C dX6_send_38 2 rfl rfl rfl ?_
  refine x_cvIM 42 C [.int v1, .int v2] hwX1_deliver mq_588 dX6_send_39 rfl ⟨Nat.le_of_ble_eq_true rfl, Nat.le_of_ble_eq_true rfl⟩ 27 wC_at_27 rfl rfl rfl (Nat.le_of_ble_eq_true rfl) (fun z hz => tX1_deliver hz) hf (fun z2 hf => ?_)
  exact x_iretM C HQ rfl (vp_nar_int _) dX6_send_42 hf
set_option maxRecDepth 20000 in
set_option maxHeartbeats 1000000 in
theorem tX6_send {l : Launch} {Y : xY} {ad : Nat → Nat} {fr : va_W} {M : xM} {p1 : Int32} {p2 : Int32} {z0 : Int32 × xM} (hf : fX6_send M p1 p2 = some z0) : xcI l Y (wC Y ad fr) yX6_send cX6_send 3 (some .int) 6 141 [.ref (ad 32), .int p1, .int p2] M z0.1 z0.2 := by
  refine x_entryI [(0, .ref (ad 32)), (1, .int p1), (2, .int p2)] pnX6 rfl (Nat.le_of_ble_eq_true rfl) rfl (fun X C HQ => ?_)
  unfold fX6_send at hf
  refine x_alN 1 C dX6_send_0 0 rfl rfl rfl ?_
  refine xgX6_0 4 C mq_270 dX6_send_1 rfl ?_
  refine x_ilN 5 C dX6_send_4 1 rfl rfl rfl ?_
  refine x_cvIP 8 C [.int p1] hwX3_hasStation mq_383 dX6_send_5 rfl ⟨Nat.le_of_ble_eq_true rfl, Nat.le_of_ble_eq_true rfl⟩ 0 wC_at_0 rfl rfl rfl (Nat.le_of_ble_eq_true rfl) (fun z hz => tX3_hasStation hz) hf (fun z1 hf => ?_)
  refine x_if_ne 11 C 14 dX6_send_8 (by decide) rfl hf (fun hf => ?_) (fun hf => ?_)
  ·
    refine x_ilN 15 C dX6_send_14 2 rfl rfl rfl ?_
    refine x_iconst 16 C (-1) dX6_send_15 ki_m1 rfl ?_
    refine x_icmp_eq 19 C 33 dX6_send_16 (by decide) rfl hf (fun hf => ?_) (fun hf => ?_)
    ·
      exact tX6_send_j33 C HQ _ _ _  hf
    ·
      refine x_alN 20 C dX6_send_19 0 rfl rfl rfl ?_
      refine xgX6_0 23 C mq_270 dX6_send_20 rfl ?_
      refine x_ilN 24 C dX6_send_23 2 rfl rfl rfl ?_
      refine x_cvIP 27 C [.int p2] hwX3_hasStation mq_383 dX6_send_24 rfl ⟨Nat.le_of_ble_eq_true rfl, Nat.le_of_ble_eq_true rfl⟩ 0 wC_at_0 rfl rfl rfl (Nat.le_of_ble_eq_true rfl) (fun z hz => tX3_hasStation hz) hf (fun z3 hf => ?_)
      refine x_if_ne 30 C 33 dX6_send_27 (by decide) rfl hf (fun hf => ?_) (fun hf => ?_)
      ·
        exact tX6_send_j33 C HQ _ _ _  hf
      ·
        refine x_bipush 32 C (-4) dX6_send_30 kb_m4 rfl ?_
        exact x_iretM C HQ rfl (vp_nar_int _) dX6_send_32 hf
  ·
    refine x_bipush 13 C (-4) dX6_send_11 kb_m4 rfl ?_
    exact x_iretM C HQ rfl (vp_nar_int _) dX6_send_13 hf
set_option maxRecDepth 20000 in
set_option maxHeartbeats 1000000 in
theorem tX6_transmissions {l : Launch} {Y : xY} {ad : Nat → Nat} {fr : va_W} {M : xM} {p1 : Int32} {z0 : Int32} (hf : fX6_transmissions M p1 = some z0) : xcI l Y (wC Y ad fr) yX6_transmissions cX6_transmissions 2 (some .int) 1 21 [.ref (ad 32), .int p1] M z0 M := by
  refine x_entryI [(0, .ref (ad 32)), (1, .int p1)] pnX6 rfl (Nat.le_of_ble_eq_true rfl) rfl (fun X C HQ => ?_)
  unfold fX6_transmissions at hf
  refine x_alN 1 C dX6_transmissions_0 0 rfl rfl rfl ?_
  refine xgX6_0 4 C mq_270 dX6_transmissions_1 rfl ?_
  refine x_ilN 5 C dX6_transmissions_4 1 rfl rfl rfl ?_
  refine x_cvIP 8 C [.int p1] hwX3_hasSegment mq_316 dX6_transmissions_5 rfl ⟨Nat.le_of_ble_eq_true rfl, Nat.le_of_ble_eq_true rfl⟩ 0 wC_at_0 rfl rfl rfl (Nat.le_of_ble_eq_true rfl) (fun z hz => tX3_hasSegment hz) hf (fun z1 hf => ?_)
  refine x_if_ne 11 C 14 dX6_transmissions_8 (by decide) rfl hf (fun hf => ?_) (fun hf => ?_)
  ·
    refine x_alN 15 C dX6_transmissions_14 0 rfl rfl rfl ?_
    refine xgX6_0 18 C mq_270 dX6_transmissions_15 rfl ?_
    refine xgX3_18 21 C mq_136 dX6_transmissions_18 rfl ?_
    refine x_ilN 22 C dX6_transmissions_21 1 rfl rfl rfl ?_
    refine xrC_14 23 C dX6_transmissions_22 rfl hf (fun x2 hf => ?_)
    exact x_iretP C HQ rfl (vp_nar_int _) dX6_transmissions_23 hf
  ·
    refine x_bipush 13 C (-2) dX6_transmissions_11 kb_m2 rfl ?_
    exact x_iretP C HQ rfl (vp_nar_int _) dX6_transmissions_13 hf
set_option maxRecDepth 20000 in
set_option maxHeartbeats 1000000 in
theorem tX6_entry {l : Launch} {Y : xY} {ad : Nat → Nat} {fr : va_W} {M : xM} {p1 : Int32} {p2 : Int32} {z0 : Int32} (hf : fX6_entry M p1 p2 = some z0) : xcI l Y (wC Y ad fr) yX6_entry cX6_entry 4 (some .int) 2 44 [.ref (ad 32), .int p1, .int p2] M z0 M := by
  refine x_entryI [(0, .ref (ad 32)), (1, .int p1), (2, .int p2)] pnX6 rfl (Nat.le_of_ble_eq_true rfl) rfl (fun X C HQ => ?_)
  unfold fX6_entry at hf
  refine x_alN 1 C dX6_entry_0 0 rfl rfl rfl ?_
  refine xgX6_0 4 C mq_270 dX6_entry_1 rfl ?_
  refine x_ilN 5 C dX6_entry_4 1 rfl rfl rfl ?_
  refine x_cvIP 8 C [.int p1] hwX3_hasBridge mq_312 dX6_entry_5 rfl ⟨Nat.le_of_ble_eq_true rfl, Nat.le_of_ble_eq_true rfl⟩ 0 wC_at_0 rfl rfl rfl (Nat.le_of_ble_eq_true rfl) (fun z hz => tX3_hasBridge hz) hf (fun z1 hf => ?_)
  refine x_if_ne 11 C 13 dX6_entry_8 (by decide) rfl hf (fun hf => ?_) (fun hf => ?_)
  ·
    refine x_alN 14 C dX6_entry_13 0 rfl rfl rfl ?_
    refine xgX6_0 17 C mq_270 dX6_entry_14 rfl ?_
    refine x_ilN 18 C dX6_entry_17 2 rfl rfl rfl ?_
    refine x_cvIP 21 C [.int p2] hwX3_hasStation mq_383 dX6_entry_18 rfl ⟨Nat.le_of_ble_eq_true rfl, Nat.le_of_ble_eq_true rfl⟩ 0 wC_at_0 rfl rfl rfl (Nat.le_of_ble_eq_true rfl) (fun z hz => tX3_hasStation hz) hf (fun z2 hf => ?_)
    refine x_if_ne 24 C 27 dX6_entry_21 (by decide) rfl hf (fun hf => ?_) (fun hf => ?_)
    ·
      refine x_alN 28 C dX6_entry_27 0 rfl rfl rfl ?_
      refine xgX6_0 31 C mq_270 dX6_entry_28 rfl ?_
      refine x_ilN 32 C dX6_entry_31 1 rfl rfl rfl ?_
      refine x_ilN 33 C dX6_entry_32 2 rfl rfl rfl ?_
      refine x_cvIP 36 C [.int p1, .int p2] hwX3_learnedPort mq_633 dX6_entry_33 rfl ⟨Nat.le_of_ble_eq_true rfl, Nat.le_of_ble_eq_true rfl⟩ 0 wC_at_0 rfl rfl rfl (Nat.le_of_ble_eq_true rfl) (fun z hz => tX3_learnedPort hz) hf (fun z3 hf => ?_)
      refine x_isN 37 C 3 (lv2 := [(3, .int z3), (0, .ref (ad 32)), (1, .int p1), (2, .int p2)]) dX6_entry_36 rfl rfl (Nat.le_of_ble_eq_true rfl) rfl ?_
      refine x_ilN 38 C dX6_entry_37 0 rfl rfl rfl ?_
      refine x_iconst 39 C (-1) dX6_entry_38 ki_m1 rfl ?_
      refine x_icmp_ne 42 C 47 dX6_entry_39 (by decide) rfl hf (fun hf => ?_) (fun hf => ?_)
      ·
        refine x_ilN 48 C dX6_entry_47 0 rfl rfl rfl ?_
        exact x_iretP C HQ rfl (vp_nar_int _) dX6_entry_48 hf
      ·
        refine x_bipush 44 C (-9) dX6_entry_42 kb_m9 rfl ?_
        refine x_goto 48 C dX6_entry_44 (by decide) ?_
        exact x_iretP C HQ rfl (vp_nar_int _) dX6_entry_48 hf
    ·
      refine x_bipush 26 C (-4) dX6_entry_24 kb_m4 rfl ?_
      exact x_iretP C HQ rfl (vp_nar_int _) dX6_entry_26 hf
  ·
    refine x_iconst 12 C (-1) dX6_entry_11 ki_m1 rfl ?_
    exact x_iretP C HQ rfl (vp_nar_int _) dX6_entry_12 hf
set_option maxRecDepth 20000 in
set_option maxHeartbeats 1000000 in
theorem tX6_count {l : Launch} {Y : xY} {ad : Nat → Nat} {fr : va_W} {M : xM} {p1 : Int32} {z0 : Int32} (hf : fX6_count M p1 = some z0) : xcI l Y (wC Y ad fr) yX6_count cX6_count 2 (some .int) 0 0 [.ref (ad 32), .int p1] M z0 M := by
  refine x_entryI [(0, .ref (ad 32)), (1, .int p1)] pnX6 rfl (Nat.le_of_ble_eq_true rfl) rfl (fun X C HQ => ?_)
  unfold fX6_count at hf
  refine x_ilN 1 C dX6_count_0 1 rfl rfl rfl ?_
  by_cases h0 : p1 = nI 0
  · rw [if_pos h0] at hf
    refine x_swIn 36 C dX6_count_1 (by rw [h0]; decide) (by rw [h0]; decide) (by rw [h0]; rfl) (by decide) ?_
    refine x_alN 37 C dX6_count_36 0 rfl rfl rfl ?_
    refine xgX6_0 40 C mq_270 dX6_count_37 rfl ?_
    refine xgX3_0 43 C mq_83 dX6_count_40 rfl ?_
    exact x_iretP C HQ rfl (vp_nar_int _) dX6_count_43 hf
  rw [if_neg h0] at hf
  by_cases h1 : p1 = nI 1
  · rw [if_pos h1] at hf
    refine x_swIn 44 C dX6_count_1 (by rw [h1]; decide) (by rw [h1]; decide) (by rw [h1]; rfl) (by decide) ?_
    refine x_alN 45 C dX6_count_44 0 rfl rfl rfl ?_
    refine xgX6_0 48 C mq_270 dX6_count_45 rfl ?_
    refine xgX3_1 51 C mq_86 dX6_count_48 rfl ?_
    exact x_iretP C HQ rfl (vp_nar_int _) dX6_count_51 hf
  rw [if_neg h1] at hf
  by_cases h2 : p1 = nI 2
  · rw [if_pos h2] at hf
    refine x_swIn 52 C dX6_count_1 (by rw [h2]; decide) (by rw [h2]; decide) (by rw [h2]; rfl) (by decide) ?_
    refine x_alN 53 C dX6_count_52 0 rfl rfl rfl ?_
    refine xgX6_0 56 C mq_270 dX6_count_53 rfl ?_
    refine xgX3_2 59 C mq_94 dX6_count_56 rfl ?_
    exact x_iretP C HQ rfl (vp_nar_int _) dX6_count_59 hf
  rw [if_neg h2] at hf
  by_cases h3 : p1 = nI 3
  · rw [if_pos h3] at hf
    refine x_swIn 60 C dX6_count_1 (by rw [h3]; decide) (by rw [h3]; decide) (by rw [h3]; rfl) (by decide) ?_
    refine x_alN 61 C dX6_count_60 0 rfl rfl rfl ?_
    refine xgX6_0 64 C mq_270 dX6_count_61 rfl ?_
    refine xgX3_3 67 C mq_96 dX6_count_64 rfl ?_
    exact x_iretP C HQ rfl (vp_nar_int _) dX6_count_67 hf
  rw [if_neg h3] at hf
  by_cases h4 : p1 = nI 4
  · rw [if_pos h4] at hf
    refine x_swIn 68 C dX6_count_1 (by rw [h4]; decide) (by rw [h4]; decide) (by rw [h4]; rfl) (by decide) ?_
    refine x_alN 69 C dX6_count_68 0 rfl rfl rfl ?_
    refine xgX6_0 72 C mq_270 dX6_count_69 rfl ?_
    refine xgX3_4 75 C mq_99 dX6_count_72 rfl ?_
    exact x_iretP C HQ rfl (vp_nar_int _) dX6_count_75 hf
  rw [if_neg h4] at hf
  refine x_swOut 76 C dX6_count_1 (x_sw5 h0 h1 h2 h3 h4) (by decide) ?_
  refine x_bipush 78 C (-5) dX6_count_76 kb_m5 rfl ?_
  exact x_iretP C HQ rfl (vp_nar_int _) dX6_count_78 hf
set_option maxRecDepth 20000 in
set_option maxHeartbeats 1000000 in
theorem tX6_isSlot {l : Launch} {Y : xY} {ad : Nat → Nat} {fr : va_W} {M : xM} {p1 : Int32} {z0 : Int32} (hf : fX6_isSlot M p1 = some z0) : xcI l Y (wC Y ad fr) yX6_isSlot cX6_isSlot 1 (some .boolean) 0 0 [.int p1] M z0 M := by
  refine x_entryI [(0, .int p1)] pnX6 rfl (Nat.le_of_ble_eq_true rfl) rfl (fun X C HQ => ?_)
  unfold fX6_isSlot at hf
  refine x_ilN 1 C dX6_isSlot_0 0 rfl rfl rfl ?_
  refine x_if_lt 4 C 13 dX6_isSlot_1 (by decide) rfl hf (fun hf => ?_) (fun hf => ?_)
  ·
    refine x_iconst 14 C (nI 0) dX6_isSlot_13 ki_0 rfl ?_
    exact x_iretP C HQ rfl rfl dX6_isSlot_14 hf
  ·
    refine x_ilN 5 C dX6_isSlot_4 0 rfl rfl rfl ?_
    refine x_iconst 6 C (nI 2) dX6_isSlot_5 ki_2 rfl ?_
    refine x_icmp_ge 9 C 13 dX6_isSlot_6 (by decide) rfl hf (fun hf => ?_) (fun hf => ?_)
    ·
      refine x_iconst 14 C (nI 0) dX6_isSlot_13 ki_0 rfl ?_
      exact x_iretP C HQ rfl rfl dX6_isSlot_14 hf
    ·
      refine x_iconst 10 C (nI 1) dX6_isSlot_9 ki_1 rfl ?_
      refine x_goto 14 C dX6_isSlot_10 (by decide) ?_
      exact x_iretP C HQ rfl rfl dX6_isSlot_14 hf
