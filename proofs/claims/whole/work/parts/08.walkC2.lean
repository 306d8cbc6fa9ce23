set_option maxRecDepth 20000 in
set_option maxHeartbeats 1000000 in
theorem tX0_isFromOwnBridge {l : Launch} {Y : xY} {ad : Nat → Nat} {fr : va_W} {M : xM} {p1 : Int32} {z0 : Int32} (hf : fX0_isFromOwnBridge M p1 = some z0) : xcI l Y (wC Y ad fr) yX0_isFromOwnBridge cX0_isFromOwnBridge 2 (some .boolean) 1 21 [.ref (ad 15), .int p1] M z0 M := by
  refine x_entryI [(0, .ref (ad 15)), (1, .int p1)] pnX0 rfl (Nat.le_of_ble_eq_true rfl) rfl (fun X C HQ => ?_)
  unfold fX0_isFromOwnBridge at hf
  refine x_alN 1 C dX0_isFromOwnBridge_0 0 rfl rfl rfl ?_
  refine xgX0_0 4 C mq_184 dX0_isFromOwnBridge_1 rfl ?_
  refine xgX3_13 7 C mq_123 dX0_isFromOwnBridge_4 rfl ?_
  refine x_ilN 8 C dX0_isFromOwnBridge_7 1 rfl rfl rfl ?_
  refine xrC_9 9 C dX0_isFromOwnBridge_8 rfl hf (fun x1 hf => ?_)
  refine x_csIP 12 C [.long x1] hwX2_senderOf mq_412 dX0_isFromOwnBridge_9 rfl ⟨Nat.le_of_ble_eq_true rfl, Nat.le_of_ble_eq_true rfl⟩ rfl rfl (Nat.le_of_ble_eq_true rfl) (fun z hz => tX2_senderOf hz) hf (fun z2 hf => ?_)
  refine x_alN 13 C dX0_isFromOwnBridge_12 0 rfl rfl rfl ?_
  refine xgX0_0 16 C mq_184 dX0_isFromOwnBridge_13 rfl ?_
  refine x_alN 17 C dX0_isFromOwnBridge_16 0 rfl rfl rfl ?_
  refine xgX0_0 20 C mq_184 dX0_isFromOwnBridge_17 rfl ?_
  refine xgX3_7 23 C mq_105 dX0_isFromOwnBridge_20 rfl ?_
  refine x_ilN 24 C dX0_isFromOwnBridge_23 1 rfl rfl rfl ?_
  refine xrC_3 25 C dX0_isFromOwnBridge_24 rfl hf (fun x3 hf => ?_)
  refine x_cvIP 28 C [.int x3] hwX3_identifierOf mq_416 dX0_isFromOwnBridge_25 rfl ⟨Nat.le_of_ble_eq_true rfl, Nat.le_of_ble_eq_true rfl⟩ 0 wC_at_0 rfl rfl rfl (Nat.le_of_ble_eq_true rfl) (fun z hz => tX3_identifierOf hz) hf (fun z4 hf => ?_)
  refine x_icmp_ne 31 C 35 dX0_isFromOwnBridge_28 (by decide) rfl hf (fun hf => ?_) (fun hf => ?_)
  ·
    refine x_iconst 36 C (nI 0) dX0_isFromOwnBridge_35 ki_0 rfl ?_
    exact x_iretP C HQ rfl rfl dX0_isFromOwnBridge_36 hf
  ·
    refine x_iconst 32 C (nI 1) dX0_isFromOwnBridge_31 ki_1 rfl ?_
    refine x_goto 36 C dX0_isFromOwnBridge_32 (by decide) ?_
    exact x_iretP C HQ rfl rfl dX0_isFromOwnBridge_36 hf
set_option maxRecDepth 20000 in
set_option maxHeartbeats 1000000 in
theorem tX0_hasOffer {l : Launch} {Y : xY} {ad : Nat → Nat} {fr : va_W} {M : xM} {p1 : Int32} {z0 : Int32} (hf : fX0_hasOffer M p1 = some z0) : xcI l Y (wC Y ad fr) yX0_hasOffer cX0_hasOffer 2 (some .boolean) 2 42 [.ref (ad 15), .int p1] M z0 M := by
  refine x_entryI [(0, .ref (ad 15)), (1, .int p1)] pnX0 rfl (Nat.le_of_ble_eq_true rfl) rfl (fun X C HQ => ?_)
  unfold fX0_hasOffer at hf
  refine x_alN 1 C dX0_hasOffer_0 0 rfl rfl rfl ?_
  refine xgX0_0 4 C mq_184 dX0_hasOffer_1 rfl ?_
  refine x_ilN 5 C dX0_hasOffer_4 1 rfl rfl rfl ?_
  refine x_cvIP 8 C [.int p1] hwX3_isActive mq_403 dX0_hasOffer_5 rfl ⟨Nat.le_of_ble_eq_true rfl, Nat.le_of_ble_eq_true rfl⟩ 0 wC_at_0 rfl rfl rfl (Nat.le_of_ble_eq_true rfl) (fun z hz => tX3_isActive hz) hf (fun z1 hf => ?_)
  refine x_if_eq 11 C 34 dX0_hasOffer_8 (by decide) rfl hf (fun hf => ?_) (fun hf => ?_)
  ·
    refine x_iconst 35 C (nI 0) dX0_hasOffer_34 ki_0 rfl ?_
    exact x_iretP C HQ rfl rfl dX0_hasOffer_35 hf
  ·
    refine x_alN 12 C dX0_hasOffer_11 0 rfl rfl rfl ?_
    refine xgX0_0 15 C mq_184 dX0_hasOffer_12 rfl ?_
    refine x_ilN 16 C dX0_hasOffer_15 1 rfl rfl rfl ?_
    refine x_cvIP 19 C [.int p1] hwX3_storesMessage mq_404 dX0_hasOffer_16 rfl ⟨Nat.le_of_ble_eq_true rfl, Nat.le_of_ble_eq_true rfl⟩ 0 wC_at_0 rfl rfl rfl (Nat.le_of_ble_eq_true rfl) (fun z hz => tX3_storesMessage hz) hf (fun z2 hf => ?_)
    refine x_if_eq 22 C 34 dX0_hasOffer_19 (by decide) rfl hf (fun hf => ?_) (fun hf => ?_)
    ·
      refine x_iconst 35 C (nI 0) dX0_hasOffer_34 ki_0 rfl ?_
      exact x_iretP C HQ rfl rfl dX0_hasOffer_35 hf
    ·
      refine x_alN 23 C dX0_hasOffer_22 0 rfl rfl rfl ?_
      refine x_ilN 24 C dX0_hasOffer_23 1 rfl rfl rfl ?_
      refine x_cvIP 27 C [.int p1] hwX0_isFromOwnBridge mq_408 dX0_hasOffer_24 rfl ⟨Nat.le_of_ble_eq_true rfl, Nat.le_of_ble_eq_true rfl⟩ 15 wC_at_15 rfl rfl rfl (Nat.le_of_ble_eq_true rfl) (fun z hz => tX0_isFromOwnBridge hz) hf (fun z3 hf => ?_)
      refine x_if_ne 30 C 34 dX0_hasOffer_27 (by decide) rfl hf (fun hf => ?_) (fun hf => ?_)
      ·
        refine x_iconst 35 C (nI 0) dX0_hasOffer_34 ki_0 rfl ?_
        exact x_iretP C HQ rfl rfl dX0_hasOffer_35 hf
      ·
        refine x_iconst 31 C (nI 1) dX0_hasOffer_30 ki_1 rfl ?_
        refine x_goto 35 C dX0_hasOffer_31 (by decide) ?_
        exact x_iretP C HQ rfl rfl dX0_hasOffer_35 hf
set_option maxRecDepth 20000 in
set_option maxHeartbeats 1000000 in
theorem tX0_considerOffer_j53 {l : Launch} {Y : xY} {X : xE} {ad : Nat → Nat} {fr : va_W} {z0 : xM} (C : xC Y X cX0_considerOffer RX0 none 5 1 22) (HQ : xRV Y X (wC Y ad fr) z0) (M : xM) (v1 : Int32) (v2 : Int32) (v3 : Int64)  (hf : fX0_considerOffer_j53 M v1 v2 v3 = some z0) : xG Y l X (wC Y ad fr) M 53 [(0, .ref (ad 15)), (1, .int v1), (2, .int v2), (3, .long v3)] [] := by
  unfold fX0_considerOffer_j53 at hf
  refine x_alN 54 C dX0_considerOffer_53 0 rfl rfl rfl ?_
  refine xgX0_5 57 C mq_195 dX0_considerOffer_54 rfl ?_
  refine x_ilN 58 C dX0_considerOffer_57 2 rfl rfl rfl ?_
  refine x_llN 59 C dX0_considerOffer_58 3 rfl rfl rfl ?_
  refine xwC_20 60 C dX0_considerOffer_59 rfl hf (fun M6 hf => ?_)
  refine x_alN 61 C dX0_considerOffer_60 0 rfl rfl rfl ?_
  refine xgX0_6 64 C mq_196 dX0_considerOffer_61 rfl ?_
  refine x_ilN 65 C dX0_considerOffer_64 2 rfl rfl rfl ?_
  refine x_ilN 66 C dX0_considerOffer_65 1 rfl rfl rfl ?_
  refine xwC_21 67 C dX0_considerOffer_66 rfl hf (fun M7 hf => ?_)
  exact x_vret C HQ rfl dX0_considerOffer_67 hf
set_option maxRecDepth 20000 in
set_option maxHeartbeats 1000000 in
theorem tX0_considerOffer {l : Launch} {Y : xY} {ad : Nat → Nat} {fr : va_W} {M : xM} {p1 : Int32} {z0 : xM} (hf : fX0_considerOffer M p1 = some z0) : xcV l Y (wC Y ad fr) yX0_considerOffer cX0_considerOffer 5 none 1 22 [.ref (ad 15), .int p1] M z0 := by
  refine x_entryV [(0, .ref (ad 15)), (1, .int p1)] pnX0 rfl (Nat.le_of_ble_eq_true rfl) rfl (fun X C HQ => ?_)
  unfold fX0_considerOffer at hf
  refine x_alN 1 C dX0_considerOffer_0 0 rfl rfl rfl ?_
  refine xgX0_0 4 C mq_184 dX0_considerOffer_1 rfl ?_
  refine xgX3_7 7 C mq_105 dX0_considerOffer_4 rfl ?_
  refine x_ilN 8 C dX0_considerOffer_7 1 rfl rfl rfl ?_
  refine xrC_3 9 C dX0_considerOffer_8 rfl hf (fun x1 hf => ?_)
  refine x_isN 10 C 2 (lv2 := [(2, .int x1), (0, .ref (ad 15)), (1, .int p1)]) dX0_considerOffer_9 rfl rfl (Nat.le_of_ble_eq_true rfl) rfl ?_
  refine x_alN 11 C dX0_considerOffer_10 1 rfl rfl rfl ?_
  refine xgX0_0 14 C mq_184 dX0_considerOffer_11 rfl ?_
  refine xgX3_13 17 C mq_123 dX0_considerOffer_14 rfl ?_
  refine x_ilN 18 C dX0_considerOffer_17 2 rfl rfl rfl ?_
  refine xrC_9 19 C dX0_considerOffer_18 rfl hf (fun x2 hf => ?_)
  refine x_alN 20 C dX0_considerOffer_19 1 rfl rfl rfl ?_
  refine xgX0_0 23 C mq_184 dX0_considerOffer_20 rfl ?_
  refine xgX3_9 26 C mq_113 dX0_considerOffer_23 rfl ?_
  refine x_ilN 27 C dX0_considerOffer_26 2 rfl rfl rfl ?_
  refine xrC_5 28 C dX0_considerOffer_27 rfl hf (fun x3 hf => ?_)
  refine x_csLP 31 C [.long x2, .int x3] hwX2_withCostAdded mq_424 dX0_considerOffer_28 rfl ⟨Nat.le_of_ble_eq_true rfl, Nat.le_of_ble_eq_true rfl⟩ rfl rfl (Nat.le_of_ble_eq_true rfl) (fun z hz => tX2_withCostAdded hz) hf (fun z4 hf => ?_)
  refine x_lsN 32 C 3 (lv2 := [(3, .long z4), (2, .int x1), (0, .ref (ad 15)), (1, .int p1)]) dX0_considerOffer_31 rfl rfl (Nat.le_of_ble_eq_true rfl) rfl ?_
  refine x_alN 33 C dX0_considerOffer_32 2 rfl rfl rfl ?_
  refine xgX0_6 36 C mq_196 dX0_considerOffer_33 rfl ?_
  refine x_ilN 37 C dX0_considerOffer_36 1 rfl rfl rfl ?_
  refine xrC_21 38 C dX0_considerOffer_37 rfl hf (fun x5 hf => ?_)
  refine x_iconst 39 C (-1) dX0_considerOffer_38 ki_m1 rfl ?_
  refine x_icmp_eq 42 C 53 dX0_considerOffer_39 (by decide) rfl hf (fun hf => ?_) (fun hf => ?_)
  ·
    refine x_sub [2, 3, 1, 0] rfl ?_
    exact tX0_considerOffer_j53 C HQ _ _ _ _  hf
  ·
    refine x_llN 43 C dX0_considerOffer_42 0 rfl rfl rfl ?_
    refine x_alN 44 C dX0_considerOffer_43 2 rfl rfl rfl ?_
    refine xgX0_5 47 C mq_195 dX0_considerOffer_44 rfl ?_
    refine x_ilN 48 C dX0_considerOffer_47 1 rfl rfl rfl ?_
    refine xrC_20 49 C dX0_considerOffer_48 rfl hf (fun x8 hf => ?_)
    refine x_lcmp 50 C dX0_considerOffer_49 rfl ?_
    refine x_if_ge 53 C 67 dX0_considerOffer_50 (by decide) rfl hf (fun hf => ?_) (fun hf => ?_)
    ·
      exact x_vret C HQ rfl dX0_considerOffer_67 hf
    ·
      refine x_sub [2, 3, 1, 0] rfl ?_
      exact tX0_considerOffer_j53 C HQ _ _ _ _  hf
set_option maxRecDepth 20000 in
set_option maxHeartbeats 1000000 in
theorem tX0_findBestOffers_B2 {l : Launch} {Y : xY} {X : xE} {ad : Nat → Nat} {fr : va_W} {z0 : xM} (C : xC Y X cX0_findBestOffers RX0 none 2 3 63) (HQ : xRV Y X (wC Y ad fr) z0)   (k26 : xM → Option (xM)) (Hk26 : ∀ (M : xM), k26 M = some z0 → xG Y l X (wC Y ad fr) M 26 [(0, .ref (ad 15))] []) (M : xM) (v1 : Int32) (b2 : xM → Int32 → Option (xM)) (Hb2 : ∀ (M : xM) (v1 : Int32), b2 M v1 = some z0 → xG Y l X (wC Y ad fr) M 2 [(0, .ref (ad 15)), (1, .int v1)] []) (hf : fX0_findBestOffers_B2 k26 M v1 b2 = some z0) : xG Y l X (wC Y ad fr) M 2 [(0, .ref (ad 15)), (1, .int v1)] [] := by
  unfold fX0_findBestOffers_B2 at hf
  refine x_ilN 3 C dX0_findBestOffers_2 1 rfl rfl rfl ?_
  refine x_alN 4 C dX0_findBestOffers_3 0 rfl rfl rfl ?_
  refine xgX0_0 7 C mq_184 dX0_findBestOffers_4 rfl ?_
  refine xgX3_0 10 C mq_82 dX0_findBestOffers_7 rfl ?_
  refine x_icmp_ge 13 C 26 dX0_findBestOffers_10 (by decide) rfl hf (fun hf => ?_) (fun hf => ?_)
  ·
    refine x_sub [0] rfl ?_
    exact Hk26 _ hf
  ·
    refine x_alN 14 C dX0_findBestOffers_13 0 rfl rfl rfl ?_
    refine xgX0_6 17 C mq_196 dX0_findBestOffers_14 rfl ?_
    refine x_ilN 18 C dX0_findBestOffers_17 1 rfl rfl rfl ?_
    refine x_iconst 19 C (-1) dX0_findBestOffers_18 ki_m1 rfl ?_
    refine xwC_21 20 C dX0_findBestOffers_19 rfl hf (fun M1 hf => ?_)
    refine x_iinc 23 C (v1 + (nI 1)) (lv2 := [(1, .int (v1 + (nI 1))), (0, .ref (ad 15))]) dX0_findBestOffers_20 1 rfl rfl rfl (Nat.le_of_ble_eq_true rfl) rfl ?_
    refine x_goto 2 C dX0_findBestOffers_23 (by decide) ?_
    refine x_sub [1, 0] rfl ?_
    exact Hb2 _ _ hf
set_option maxRecDepth 20000 in
set_option maxHeartbeats 1000000 in
theorem tX0_findBestOffers_L2 {l : Launch} {Y : xY} {X : xE} {ad : Nat → Nat} {fr : va_W} {z0 : xM} (C : xC Y X cX0_findBestOffers RX0 none 2 3 63) (HQ : xRV Y X (wC Y ad fr) z0)   (k26 : xM → Option (xM)) (Hk26 : ∀ (M : xM), k26 M = some z0 → xG Y l X (wC Y ad fr) M 26 [(0, .ref (ad 15))] []) : ∀ (n : Nat) (M : xM) (v1 : Int32), fX0_findBestOffers_L2 k26 n M v1 = some z0 → xG Y l X (wC Y ad fr) M 2 [(0, .ref (ad 15)), (1, .int v1)] [] := by
  intro n
  induction n with
  | zero =>
    intro M v1 hf
    cases hf
  | succ n ih =>
    intro M v1 hf
    exact tX0_findBestOffers_B2 C HQ   _ Hk26 M v1 _ (fun M v1 hf => ih M v1 hf) hf
set_option maxRecDepth 20000 in
set_option maxHeartbeats 1000000 in
theorem tX0_findBestOffers_B28 {l : Launch} {Y : xY} {X : xE} {ad : Nat → Nat} {fr : va_W} {z0 : xM} (C : xC Y X cX0_findBestOffers RX0 none 2 3 63) (HQ : xRV Y X (wC Y ad fr) z0)   (k58 : xM → Option (xM)) (Hk58 : ∀ (M : xM), k58 M = some z0 → xG Y l X (wC Y ad fr) M 58 [] []) (M : xM) (v1 : Int32) (b28 : xM → Int32 → Option (xM)) (Hb28 : ∀ (M : xM) (v1 : Int32), b28 M v1 = some z0 → xG Y l X (wC Y ad fr) M 28 [(0, .ref (ad 15)), (1, .int v1)] []) (hf : fX0_findBestOffers_B28 k58 M v1 b28 = some z0) : xG Y l X (wC Y ad fr) M 28 [(0, .ref (ad 15)), (1, .int v1)] [] := by
  unfold fX0_findBestOffers_B28 at hf
  refine x_ilN 29 C dX0_findBestOffers_28 1 rfl rfl rfl ?_
  refine x_alN 30 C dX0_findBestOffers_29 0 rfl rfl rfl ?_
  refine xgX0_0 33 C mq_184 dX0_findBestOffers_30 rfl ?_
  refine xgX3_2 36 C mq_92 dX0_findBestOffers_33 rfl ?_
  refine x_icmp_ge 39 C 58 dX0_findBestOffers_36 (by decide) rfl hf (fun hf => ?_) (fun hf => ?_)
  ·
    refine x_sub [] rfl ?_
    exact Hk58 _ hf
  ·
    refine x_alN 40 C dX0_findBestOffers_39 0 rfl rfl rfl ?_
    refine x_ilN 41 C dX0_findBestOffers_40 1 rfl rfl rfl ?_
    refine x_cvIP 44 C [.int v1] hwX0_hasOffer mq_399 dX0_findBestOffers_41 rfl ⟨Nat.le_of_ble_eq_true rfl, Nat.le_of_ble_eq_true rfl⟩ 15 wC_at_15 rfl rfl rfl (Nat.le_of_ble_eq_true rfl) (fun z hz => tX0_hasOffer hz) hf (fun z3 hf => ?_)
    refine x_if_eq 47 C 52 dX0_findBestOffers_44 (by decide) rfl hf (fun hf => ?_) (fun hf => ?_)
    ·
      refine x_iinc 55 C (v1 + (nI 1)) (lv2 := [(1, .int (v1 + (nI 1))), (0, .ref (ad 15))]) dX0_findBestOffers_52 1 rfl rfl rfl (Nat.le_of_ble_eq_true rfl) rfl ?_
      refine x_goto 28 C dX0_findBestOffers_55 (by decide) ?_
      refine x_sub [1, 0] rfl ?_
      exact Hb28 _ _ hf
    ·
      refine x_alN 48 C dX0_findBestOffers_47 0 rfl rfl rfl ?_
      refine x_ilN 49 C dX0_findBestOffers_48 1 rfl rfl rfl ?_
      refine x_cvVM 52 C [.int v1] hwX0_considerOffer mq_420 dX0_findBestOffers_49 rfl ⟨Nat.le_of_ble_eq_true rfl, Nat.le_of_ble_eq_true rfl⟩ 15 wC_at_15 rfl rfl rfl (Nat.le_of_ble_eq_true rfl) (fun z hz => tX0_considerOffer hz) hf (fun z4 hf => ?_)
      refine x_iinc 55 C (v1 + (nI 1)) (lv2 := [(1, .int (v1 + (nI 1))), (0, .ref (ad 15))]) dX0_findBestOffers_52 1 rfl rfl rfl (Nat.le_of_ble_eq_true rfl) rfl ?_
      refine x_goto 28 C dX0_findBestOffers_55 (by decide) ?_
      refine x_sub [1, 0] rfl ?_
      exact Hb28 _ _ hf
set_option maxRecDepth 20000 in
set_option maxHeartbeats 1000000 in
theorem tX0_findBestOffers_L28 {l : Launch} {Y : xY} {X : xE} {ad : Nat → Nat} {fr : va_W} {z0 : xM} (C : xC Y X cX0_findBestOffers RX0 none 2 3 63) (HQ : xRV Y X (wC Y ad fr) z0)   (k58 : xM → Option (xM)) (Hk58 : ∀ (M : xM), k58 M = some z0 → xG Y l X (wC Y ad fr) M 58 [] []) : ∀ (n : Nat) (M : xM) (v1 : Int32), fX0_findBestOffers_L28 k58 n M v1 = some z0 → xG Y l X (wC Y ad fr) M 28 [(0, .ref (ad 15)), (1, .int v1)] [] := by
  intro n
  induction n with
  | zero =>
    intro M v1 hf
    cases hf
  | succ n ih =>
    intro M v1 hf
    exact tX0_findBestOffers_B28 C HQ   _ Hk58 M v1 _ (fun M v1 hf => ih M v1 hf) hf
set_option maxRecDepth 20000 in
set_option maxHeartbeats 1000000 in
theorem tX0_findBestOffers {l : Launch} {Y : xY} {ad : Nat → Nat} {fr : va_W} {M : xM}  {z0 : xM} (hf : fX0_findBestOffers M = some z0) : xcV l Y (wC Y ad fr) yX0_findBestOffers cX0_findBestOffers 2 none 3 63 [.ref (ad 15)] M z0 := by
  refine x_entryV [(0, .ref (ad 15))] pnX0 rfl (Nat.le_of_ble_eq_true rfl) rfl (fun X C HQ => ?_)
  unfold fX0_findBestOffers at hf
  refine x_iconst 1 C (nI 0) dX0_findBestOffers_0 ki_0 rfl ?_
  refine x_isN 2 C 1 (lv2 := [(1, .int (nI 0)), (0, .ref (ad 15))]) dX0_findBestOffers_1 rfl rfl (Nat.le_of_ble_eq_true rfl) rfl ?_
  refine x_sub [1, 0] rfl ?_
  refine tX0_findBestOffers_L2 C HQ  _ (fun M2 hf => ?_) 512 _ _ hf
  refine x_iconst 27 C (nI 0) dX0_findBestOffers_26 ki_0 rfl ?_
  refine x_isN 28 C 1 (lv2 := [(1, .int (nI 0)), (0, .ref (ad 15))]) dX0_findBestOffers_27 rfl rfl (Nat.le_of_ble_eq_true rfl) rfl ?_
  refine x_sub [1, 0] rfl ?_
  refine tX0_findBestOffers_L28 C HQ  _ (fun M5 hf => ?_) 512 _ _ hf
  exact x_vret C HQ rfl dX0_findBestOffers_58 hf
set_option maxRecDepth 20000 in
set_option maxHeartbeats 1000000 in
theorem tX0_chooseRoot_j74 {l : Launch} {Y : xY} {X : xE} {ad : Nat → Nat} {fr : va_W} {z0 : xM} (C : xC Y X cX0_chooseRoot RX0 none 4 1 21) (HQ : xRV Y X (wC Y ad fr) z0) (M : xM) (v1 : Int32) (v2 : Int32)  (hf : fX0_chooseRoot_j74 M v1 v2 = some z0) : xG Y l X (wC Y ad fr) M 74 [(0, .ref (ad 15)), (1, .int v1), (2, .int v2)] [] := by
  unfold fX0_chooseRoot_j74 at hf
  refine x_alN 75 C dX0_chooseRoot_74 0 rfl rfl rfl ?_
  refine xgX0_1 78 C mq_185 dX0_chooseRoot_75 rfl ?_
  refine x_ilN 79 C dX0_chooseRoot_78 1 rfl rfl rfl ?_
  refine x_ilN 80 C dX0_chooseRoot_79 2 rfl rfl rfl ?_
  refine xwC_16 81 C dX0_chooseRoot_80 rfl hf (fun M3 hf => ?_)
  refine x_alN 82 C dX0_chooseRoot_81 0 rfl rfl rfl ?_
  refine xgX0_2 85 C mq_187 dX0_chooseRoot_82 rfl ?_
  refine x_ilN 86 C dX0_chooseRoot_85 1 rfl rfl rfl ?_
  refine x_iconst 87 C (nI 0) dX0_chooseRoot_86 ki_0 rfl ?_
  refine xwC_17 88 C dX0_chooseRoot_87 rfl hf (fun M4 hf => ?_)
  refine x_alN 89 C dX0_chooseRoot_88 0 rfl rfl rfl ?_
  refine xgX0_3 92 C mq_189 dX0_chooseRoot_89 rfl ?_
  refine x_ilN 93 C dX0_chooseRoot_92 1 rfl rfl rfl ?_
  refine x_iconst 94 C (-1) dX0_chooseRoot_93 ki_m1 rfl ?_
  refine xwC_18 95 C dX0_chooseRoot_94 rfl hf (fun M5 hf => ?_)
  exact x_vret C HQ rfl dX0_chooseRoot_95 hf
set_option maxRecDepth 20000 in
set_option maxHeartbeats 1000000 in
theorem tX0_chooseRoot {l : Launch} {Y : xY} {ad : Nat → Nat} {fr : va_W} {M : xM} {p1 : Int32} {z0 : xM} (hf : fX0_chooseRoot M p1 = some z0) : xcV l Y (wC Y ad fr) yX0_chooseRoot cX0_chooseRoot 4 none 1 21 [.ref (ad 15), .int p1] M z0 := by
  refine x_entryV [(0, .ref (ad 15)), (1, .int p1)] pnX0 rfl (Nat.le_of_ble_eq_true rfl) rfl (fun X C HQ => ?_)
  unfold fX0_chooseRoot at hf
  refine x_alN 1 C dX0_chooseRoot_0 0 rfl rfl rfl ?_
  refine xgX0_0 4 C mq_184 dX0_chooseRoot_1 rfl ?_
  refine x_ilN 5 C dX0_chooseRoot_4 1 rfl rfl rfl ?_
  refine x_cvIP 8 C [.int p1] hwX3_identifierOf mq_416 dX0_chooseRoot_5 rfl ⟨Nat.le_of_ble_eq_true rfl, Nat.le_of_ble_eq_true rfl⟩ 0 wC_at_0 rfl rfl rfl (Nat.le_of_ble_eq_true rfl) (fun z hz => tX3_identifierOf hz) hf (fun z1 hf => ?_)
  refine x_isN 9 C 2 (lv2 := [(2, .int z1), (0, .ref (ad 15)), (1, .int p1)]) dX0_chooseRoot_8 rfl rfl (Nat.le_of_ble_eq_true rfl) rfl ?_
  refine x_alN 10 C dX0_chooseRoot_9 1 rfl rfl rfl ?_
  refine xgX0_6 13 C mq_196 dX0_chooseRoot_10 rfl ?_
  refine x_ilN 14 C dX0_chooseRoot_13 2 rfl rfl rfl ?_
  refine xrC_21 15 C dX0_chooseRoot_14 rfl hf (fun x2 hf => ?_)
  refine x_isN 16 C 3 (lv2 := [(3, .int x2), (2, .int z1), (0, .ref (ad 15)), (1, .int p1)]) dX0_chooseRoot_15 rfl rfl (Nat.le_of_ble_eq_true rfl) rfl ?_
  refine x_ilN 17 C dX0_chooseRoot_16 0 rfl rfl rfl ?_
  refine x_iconst 18 C (-1) dX0_chooseRoot_17 ki_m1 rfl ?_
  refine x_icmp_eq 21 C 74 dX0_chooseRoot_18 (by decide) rfl hf (fun hf => ?_) (fun hf => ?_)
  ·
    refine x_sub [2, 3, 1] rfl ?_
    exact tX0_chooseRoot_j74 C HQ _ _ _  hf
  ·
    refine x_alN 22 C dX0_chooseRoot_21 2 rfl rfl rfl ?_
    refine xgX0_5 25 C mq_195 dX0_chooseRoot_22 rfl ?_
    refine x_ilN 26 C dX0_chooseRoot_25 3 rfl rfl rfl ?_
    refine xrC_20 27 C dX0_chooseRoot_26 rfl hf (fun x6 hf => ?_)
    refine x_csIP 30 C [.long x6] hwX2_rootOf mq_431 dX0_chooseRoot_27 rfl ⟨Nat.le_of_ble_eq_true rfl, Nat.le_of_ble_eq_true rfl⟩ rfl rfl (Nat.le_of_ble_eq_true rfl) (fun z hz => tX2_rootOf hz) hf (fun z7 hf => ?_)
    refine x_ilN 31 C dX0_chooseRoot_30 1 rfl rfl rfl ?_
    refine x_icmp_ge 34 C 74 dX0_chooseRoot_31 (by decide) rfl hf (fun hf => ?_) (fun hf => ?_)
    ·
      refine x_sub [2, 3, 1] rfl ?_
      exact tX0_chooseRoot_j74 C HQ _ _ _  hf
    ·
      refine x_alN 35 C dX0_chooseRoot_34 2 rfl rfl rfl ?_
      refine xgX0_1 38 C mq_185 dX0_chooseRoot_35 rfl ?_
      refine x_ilN 39 C dX0_chooseRoot_38 3 rfl rfl rfl ?_
      refine x_alN 40 C dX0_chooseRoot_39 2 rfl rfl rfl ?_
      refine xgX0_5 43 C mq_195 dX0_chooseRoot_40 rfl ?_
      refine x_ilN 44 C dX0_chooseRoot_43 3 rfl rfl rfl ?_
      refine xrC_20 45 C dX0_chooseRoot_44 rfl hf (fun x8 hf => ?_)
      refine x_csIP 48 C [.long x8] hwX2_rootOf mq_431 dX0_chooseRoot_45 rfl ⟨Nat.le_of_ble_eq_true rfl, Nat.le_of_ble_eq_true rfl⟩ rfl rfl (Nat.le_of_ble_eq_true rfl) (fun z hz => tX2_rootOf hz) hf (fun z9 hf => ?_)
      refine xwC_16 49 C dX0_chooseRoot_48 rfl hf (fun M10 hf => ?_)
      refine x_alN 50 C dX0_chooseRoot_49 2 rfl rfl rfl ?_
      refine xgX0_2 53 C mq_187 dX0_chooseRoot_50 rfl ?_
      refine x_ilN 54 C dX0_chooseRoot_53 3 rfl rfl rfl ?_
      refine x_alN 55 C dX0_chooseRoot_54 2 rfl rfl rfl ?_
      refine xgX0_5 58 C mq_195 dX0_chooseRoot_55 rfl ?_
      refine x_ilN 59 C dX0_chooseRoot_58 3 rfl rfl rfl ?_
      refine xrC_20 60 C dX0_chooseRoot_59 rfl hf (fun x11 hf => ?_)
      refine x_csIP 63 C [.long x11] hwX2_costOf mq_434 dX0_chooseRoot_60 rfl ⟨Nat.le_of_ble_eq_true rfl, Nat.le_of_ble_eq_true rfl⟩ rfl rfl (Nat.le_of_ble_eq_true rfl) (fun z hz => tX2_costOf hz) hf (fun z12 hf => ?_)
      refine xwC_17 64 C dX0_chooseRoot_63 rfl hf (fun M13 hf => ?_)
      refine x_alN 65 C dX0_chooseRoot_64 2 rfl rfl rfl ?_
      refine xgX0_3 68 C mq_189 dX0_chooseRoot_65 rfl ?_
      refine x_ilN 69 C dX0_chooseRoot_68 3 rfl rfl rfl ?_
      refine x_ilN 70 C dX0_chooseRoot_69 0 rfl rfl rfl ?_
      refine xwC_18 71 C dX0_chooseRoot_70 rfl hf (fun M14 hf => ?_)
      refine x_goto 95 C dX0_chooseRoot_71 (by decide) ?_
      exact x_vret C HQ rfl dX0_chooseRoot_95 hf
set_option maxRecDepth 20000 in
set_option maxHeartbeats 1000000 in
theorem tX0_ownMessage {l : Launch} {Y : xY} {ad : Nat → Nat} {fr : va_W} {M : xM} {p1 : Int32} {z0 : Int64} (hf : fX0_ownMessage M p1 = some z0) : xcL l Y (wC Y ad fr) yX0_ownMessage cX0_ownMessage 3 (some .long) 1 23 [.ref (ad 15), .int p1] M z0 M := by
  refine x_entryL [(0, .ref (ad 15)), (1, .int p1)] pnX0 rfl (Nat.le_of_ble_eq_true rfl) rfl (fun X C HQ => ?_)
  unfold fX0_ownMessage at hf
  refine x_alN 1 C dX0_ownMessage_0 0 rfl rfl rfl ?_
  refine xgX0_0 4 C mq_184 dX0_ownMessage_1 rfl ?_
  refine xgX3_7 7 C mq_105 dX0_ownMessage_4 rfl ?_
  refine x_ilN 8 C dX0_ownMessage_7 1 rfl rfl rfl ?_
  refine xrC_3 9 C dX0_ownMessage_8 rfl hf (fun x1 hf => ?_)
  refine x_isN 10 C 2 (lv2 := [(2, .int x1), (0, .ref (ad 15)), (1, .int p1)]) dX0_ownMessage_9 rfl rfl (Nat.le_of_ble_eq_true rfl) rfl ?_
  refine x_alN 11 C dX0_ownMessage_10 1 rfl rfl rfl ?_
  refine xgX0_1 14 C mq_185 dX0_ownMessage_11 rfl ?_
  refine x_ilN 15 C dX0_ownMessage_14 0 rfl rfl rfl ?_
  refine xrC_16 16 C dX0_ownMessage_15 rfl hf (fun x2 hf => ?_)
  refine x_alN 17 C dX0_ownMessage_16 1 rfl rfl rfl ?_
  refine xgX0_2 20 C mq_187 dX0_ownMessage_17 rfl ?_
  refine x_ilN 21 C dX0_ownMessage_20 0 rfl rfl rfl ?_
  refine xrC_17 22 C dX0_ownMessage_21 rfl hf (fun x3 hf => ?_)
  refine x_alN 23 C dX0_ownMessage_22 1 rfl rfl rfl ?_
  refine xgX0_0 26 C mq_184 dX0_ownMessage_23 rfl ?_
  refine x_ilN 27 C dX0_ownMessage_26 0 rfl rfl rfl ?_
  refine x_cvIP 30 C [.int x1] hwX3_identifierOf mq_416 dX0_ownMessage_27 rfl ⟨Nat.le_of_ble_eq_true rfl, Nat.le_of_ble_eq_true rfl⟩ 0 wC_at_0 rfl rfl rfl (Nat.le_of_ble_eq_true rfl) (fun z hz => tX3_identifierOf hz) hf (fun z4 hf => ?_)
  refine x_ilN 31 C dX0_ownMessage_30 2 rfl rfl rfl ?_
  refine x_csLP 34 C [.int x2, .int x3, .int z4, .int p1] hwX2_of mq_446 dX0_ownMessage_31 rfl ⟨Nat.le_of_ble_eq_true rfl, Nat.le_of_ble_eq_true rfl⟩ rfl rfl (Nat.le_of_ble_eq_true rfl) (fun z hz => tX2_of hz) hf (fun z5 hf => ?_)
  exact x_lretP C HQ rfl dX0_ownMessage_34 hf
set_option maxRecDepth 20000 in
set_option maxHeartbeats 1000000 in
theorem tX0_roleFor {l : Launch} {Y : xY} {ad : Nat → Nat} {fr : va_W} {M : xM} {p1 : Int32} {z0 : Int32} (hf : fX0_roleFor M p1 = some z0) : xcI l Y (wC Y ad fr) yX0_roleFor cX0_roleFor 2 (some .int) 2 45 [.ref (ad 15), .int p1] M z0 M := by
  refine x_entryI [(0, .ref (ad 15)), (1, .int p1)] pnX0 rfl (Nat.le_of_ble_eq_true rfl) rfl (fun X C HQ => ?_)
  unfold fX0_roleFor at hf
  refine x_alN 1 C dX0_roleFor_0 0 rfl rfl rfl ?_
  refine xgX0_0 4 C mq_184 dX0_roleFor_1 rfl ?_
  refine x_ilN 5 C dX0_roleFor_4 1 rfl rfl rfl ?_
  refine x_cvIP 8 C [.int p1] hwX3_isActive mq_403 dX0_roleFor_5 rfl ⟨Nat.le_of_ble_eq_true rfl, Nat.le_of_ble_eq_true rfl⟩ 0 wC_at_0 rfl rfl rfl (Nat.le_of_ble_eq_true rfl) (fun z hz => tX3_isActive hz) hf (fun z1 hf => ?_)
  refine x_if_ne 11 C 13 dX0_roleFor_8 (by decide) rfl hf (fun hf => ?_) (fun hf => ?_)
  ·
    refine x_alN 14 C dX0_roleFor_13 0 rfl rfl rfl ?_
    refine xgX0_3 17 C mq_189 dX0_roleFor_14 rfl ?_
    refine x_alN 18 C dX0_roleFor_17 0 rfl rfl rfl ?_
    refine xgX0_0 21 C mq_184 dX0_roleFor_18 rfl ?_
    refine xgX3_7 24 C mq_105 dX0_roleFor_21 rfl ?_
    refine x_ilN 25 C dX0_roleFor_24 1 rfl rfl rfl ?_
    refine xrC_3 26 C dX0_roleFor_25 rfl hf (fun x2 hf => ?_)
    refine xrC_18 27 C dX0_roleFor_26 rfl hf (fun x3 hf => ?_)
    refine x_ilN 28 C dX0_roleFor_27 1 rfl rfl rfl ?_
    refine x_icmp_ne 31 C 33 dX0_roleFor_28 (by decide) rfl hf (fun hf => ?_) (fun hf => ?_)
    ·
      refine x_alN 34 C dX0_roleFor_33 0 rfl rfl rfl ?_
      refine xgX0_0 37 C mq_184 dX0_roleFor_34 rfl ?_
      refine x_ilN 38 C dX0_roleFor_37 1 rfl rfl rfl ?_
      refine x_cvIP 41 C [.int p1] hwX3_storesMessage mq_404 dX0_roleFor_38 rfl ⟨Nat.le_of_ble_eq_true rfl, Nat.le_of_ble_eq_true rfl⟩ 0 wC_at_0 rfl rfl rfl (Nat.le_of_ble_eq_true rfl) (fun z hz => tX3_storesMessage hz) hf (fun z4 hf => ?_)
      refine x_if_eq 44 C 62 dX0_roleFor_41 (by decide) rfl hf (fun hf => ?_) (fun hf => ?_)
      ·
        refine x_iconst 63 C (nI 2) dX0_roleFor_62 ki_2 rfl ?_
        exact x_iretP C HQ rfl (vp_nar_int _) dX0_roleFor_63 hf
      ·
        refine x_alN 45 C dX0_roleFor_44 0 rfl rfl rfl ?_
        refine x_ilN 46 C dX0_roleFor_45 1 rfl rfl rfl ?_
        refine x_cvLP 49 C [.int p1] hwX0_ownMessage mq_442 dX0_roleFor_46 rfl ⟨Nat.le_of_ble_eq_true rfl, Nat.le_of_ble_eq_true rfl⟩ 15 wC_at_15 rfl rfl rfl (Nat.le_of_ble_eq_true rfl) (fun z hz => tX0_ownMessage hz) hf (fun z5 hf => ?_)
        refine x_alN 50 C dX0_roleFor_49 0 rfl rfl rfl ?_
        refine xgX0_0 53 C mq_184 dX0_roleFor_50 rfl ?_
        refine xgX3_13 56 C mq_123 dX0_roleFor_53 rfl ?_
        refine x_ilN 57 C dX0_roleFor_56 1 rfl rfl rfl ?_
        refine xrC_9 58 C dX0_roleFor_57 rfl hf (fun x6 hf => ?_)
        refine x_lcmp 59 C dX0_roleFor_58 rfl ?_
        refine x_if_ge 62 C 64 dX0_roleFor_59 (by decide) rfl hf (fun hf => ?_) (fun hf => ?_)
        ·
          refine x_alN 65 C dX0_roleFor_64 0 rfl rfl rfl ?_
          refine x_ilN 66 C dX0_roleFor_65 1 rfl rfl rfl ?_
          refine x_cvIP 69 C [.int p1] hwX0_isFromOwnBridge mq_408 dX0_roleFor_66 rfl ⟨Nat.le_of_ble_eq_true rfl, Nat.le_of_ble_eq_true rfl⟩ 15 wC_at_15 rfl rfl rfl (Nat.le_of_ble_eq_true rfl) (fun z hz => tX0_isFromOwnBridge hz) hf (fun z7 hf => ?_)
          refine x_if_eq 72 C 76 dX0_roleFor_69 (by decide) rfl hf (fun hf => ?_) (fun hf => ?_)
          ·
            refine x_iconst 77 C (nI 3) dX0_roleFor_76 ki_3 rfl ?_
            exact x_iretP C HQ rfl (vp_nar_int _) dX0_roleFor_77 hf
          ·
            refine x_iconst 73 C (nI 4) dX0_roleFor_72 ki_4 rfl ?_
            refine x_goto 77 C dX0_roleFor_73 (by decide) ?_
            exact x_iretP C HQ rfl (vp_nar_int _) dX0_roleFor_77 hf
        ·
          refine x_iconst 63 C (nI 2) dX0_roleFor_62 ki_2 rfl ?_
          exact x_iretP C HQ rfl (vp_nar_int _) dX0_roleFor_63 hf
    ·
      refine x_iconst 32 C (nI 1) dX0_roleFor_31 ki_1 rfl ?_
      exact x_iretP C HQ rfl (vp_nar_int _) dX0_roleFor_32 hf
  ·
    refine x_iconst 12 C (nI 0) dX0_roleFor_11 ki_0 rfl ?_
    exact x_iretP C HQ rfl (vp_nar_int _) dX0_roleFor_12 hf
set_option maxRecDepth 20000 in
set_option maxHeartbeats 1000000 in
theorem tX0_elect_B6 {l : Launch} {Y : xY} {X : xE} {ad : Nat → Nat} {fr : va_W} {z0 : Int32 × xM} (C : xC Y X cX0_elect RX0 (some .boolean) 4 4 84) (HQ : xRI Y X (wC Y ad fr) z0.1 z0.2)   (k28 : xM → Option (Int32 × xM)) (Hk28 : ∀ (M : xM), k28 M = some z0 → xG Y l X (wC Y ad fr) M 28 [(0, .ref (ad 15))] []) (M : xM) (v1 : Int32) (b6 : xM → Int32 → Option (Int32 × xM)) (Hb6 : ∀ (M : xM) (v1 : Int32), b6 M v1 = some z0 → xG Y l X (wC Y ad fr) M 6 [(0, .ref (ad 15)), (1, .int v1)] []) (hf : fX0_elect_B6 k28 M v1 b6 = some z0) : xG Y l X (wC Y ad fr) M 6 [(0, .ref (ad 15)), (1, .int v1)] [] := by
  unfold fX0_elect_B6 at hf
  refine x_ilN 7 C dX0_elect_6 1 rfl rfl rfl ?_
  refine x_alN 8 C dX0_elect_7 0 rfl rfl rfl ?_
  refine xgX0_0 11 C mq_184 dX0_elect_8 rfl ?_
  refine xgX3_0 14 C mq_82 dX0_elect_11 rfl ?_
  refine x_icmp_ge 17 C 28 dX0_elect_14 (by decide) rfl hf (fun hf => ?_) (fun hf => ?_)
  ·
    refine x_sub [0] rfl ?_
    exact Hk28 _ hf
  ·
    refine x_alN 18 C dX0_elect_17 0 rfl rfl rfl ?_
    refine x_ilN 19 C dX0_elect_18 1 rfl rfl rfl ?_
    refine x_cvVM 22 C [.int v1] hwX0_chooseRoot mq_427 dX0_elect_19 rfl ⟨Nat.le_of_ble_eq_true rfl, Nat.le_of_ble_eq_true rfl⟩ 15 wC_at_15 rfl rfl rfl (Nat.le_of_ble_eq_true rfl) (fun z hz => tX0_chooseRoot hz) hf (fun z2 hf => ?_)
    refine x_iinc 25 C (v1 + (nI 1)) (lv2 := [(1, .int (v1 + (nI 1))), (0, .ref (ad 15))]) dX0_elect_22 1 rfl rfl rfl (Nat.le_of_ble_eq_true rfl) rfl ?_
    refine x_goto 6 C dX0_elect_25 (by decide) ?_
    refine x_sub [1, 0] rfl ?_
    exact Hb6 _ _ hf
set_option maxRecDepth 20000 in
set_option maxHeartbeats 1000000 in
theorem tX0_elect_L6 {l : Launch} {Y : xY} {X : xE} {ad : Nat → Nat} {fr : va_W} {z0 : Int32 × xM} (C : xC Y X cX0_elect RX0 (some .boolean) 4 4 84) (HQ : xRI Y X (wC Y ad fr) z0.1 z0.2)   (k28 : xM → Option (Int32 × xM)) (Hk28 : ∀ (M : xM), k28 M = some z0 → xG Y l X (wC Y ad fr) M 28 [(0, .ref (ad 15))] []) : ∀ (n : Nat) (M : xM) (v1 : Int32), fX0_elect_L6 k28 n M v1 = some z0 → xG Y l X (wC Y ad fr) M 6 [(0, .ref (ad 15)), (1, .int v1)] [] := by
  intro n
  induction n with
  | zero =>
    intro M v1 hf
    cases hf
  | succ n ih =>
    intro M v1 hf
    exact tX0_elect_B6 C HQ   _ Hk28 M v1 _ (fun M v1 hf => ih M v1 hf) hf
set_option maxRecDepth 20000 in
set_option maxHeartbeats 1000000 in
theorem tX0_elect_j68 {l : Launch} {Y : xY} {X : xE} {ad : Nat → Nat} {fr : va_W} {z0 : Int32 × xM} (C : xC Y X cX0_elect RX0 (some .boolean) 4 4 84) (HQ : xRI Y X (wC Y ad fr) z0.1 z0.2) (M : xM) (v2 : Int32) (v3 : Int32) (s0 : Int32) (b32 : xM → Int32 → Int32 → Option (Int32 × xM)) (Hb32 : ∀ (M : xM) (v1 : Int32) (v2 : Int32), b32 M v1 v2 = some z0 → xG Y l X (wC Y ad fr) M 32 [(0, .ref (ad 15)), (1, .int v1), (2, .int v2)] []) (hf : fX0_elect_j68 M v2 v3 s0 b32 = some z0) : xG Y l X (wC Y ad fr) M 68 [(0, .ref (ad 15)), (2, .int v2), (3, .int v3)] [.int s0] := by
  unfold fX0_elect_j68 at hf
  refine x_isN 69 C 1 (lv2 := [(1, .int s0), (0, .ref (ad 15)), (2, .int v2), (3, .int v3)]) dX0_elect_68 rfl rfl (Nat.le_of_ble_eq_true rfl) rfl ?_
  refine x_alN 70 C dX0_elect_69 1 rfl rfl rfl ?_
  refine xgX0_4 73 C mq_192 dX0_elect_70 rfl ?_
  refine x_ilN 74 C dX0_elect_73 2 rfl rfl rfl ?_
  refine x_ilN 75 C dX0_elect_74 3 rfl rfl rfl ?_
  refine xwC_19 76 C dX0_elect_75 rfl hf (fun M5 hf => ?_)
  refine x_iinc 79 C (v2 + (nI 1)) (lv2 := [(2, .int (v2 + (nI 1))), (1, .int s0), (0, .ref (ad 15)), (3, .int v3)]) dX0_elect_76 2 rfl rfl rfl (Nat.le_of_ble_eq_true rfl) rfl ?_
  refine x_goto 32 C dX0_elect_79 (by decide) ?_
  refine x_sub [2, 1, 0] rfl ?_
  exact Hb32 _ _ _ hf
set_option maxRecDepth 20000 in
set_option maxHeartbeats 1000000 in
theorem tX0_elect_B32 {l : Launch} {Y : xY} {X : xE} {ad : Nat → Nat} {fr : va_W} {z0 : Int32 × xM} (C : xC Y X cX0_elect RX0 (some .boolean) 4 4 84) (HQ : xRI Y X (wC Y ad fr) z0.1 z0.2)   (k82 : xM → Int32 → Option (Int32 × xM)) (Hk82 : ∀ (M : xM) (v1 : Int32), k82 M v1 = some z0 → xG Y l X (wC Y ad fr) M 82 [(1, .int v1)] []) (M : xM) (v1 : Int32) (v2 : Int32) (b32 : xM → Int32 → Int32 → Option (Int32 × xM)) (Hb32 : ∀ (M : xM) (v1 : Int32) (v2 : Int32), b32 M v1 v2 = some z0 → xG Y l X (wC Y ad fr) M 32 [(0, .ref (ad 15)), (1, .int v1), (2, .int v2)] []) (hf : fX0_elect_B32 k82 M v1 v2 b32 = some z0) : xG Y l X (wC Y ad fr) M 32 [(0, .ref (ad 15)), (1, .int v1), (2, .int v2)] [] := by
  unfold fX0_elect_B32 at hf
  refine x_ilN 33 C dX0_elect_32 2 rfl rfl rfl ?_
  refine x_alN 34 C dX0_elect_33 0 rfl rfl rfl ?_
  refine xgX0_0 37 C mq_184 dX0_elect_34 rfl ?_
  refine xgX3_2 40 C mq_92 dX0_elect_37 rfl ?_
  refine x_icmp_ge 43 C 82 dX0_elect_40 (by decide) rfl hf (fun hf => ?_) (fun hf => ?_)
  ·
    refine x_sub [1] rfl ?_
    exact Hk82 _ _ hf
  ·
    refine x_alN 44 C dX0_elect_43 0 rfl rfl rfl ?_
    refine x_ilN 45 C dX0_elect_44 2 rfl rfl rfl ?_
    refine x_cvIP 48 C [.int v2] hwX0_roleFor mq_438 dX0_elect_45 rfl ⟨Nat.le_of_ble_eq_true rfl, Nat.le_of_ble_eq_true rfl⟩ 15 wC_at_15 rfl rfl rfl (Nat.le_of_ble_eq_true rfl) (fun z hz => tX0_roleFor hz) hf (fun z4 hf => ?_)
    refine x_isN 49 C 3 (lv2 := [(3, .int z4), (0, .ref (ad 15)), (1, .int v1), (2, .int v2)]) dX0_elect_48 rfl rfl (Nat.le_of_ble_eq_true rfl) rfl ?_
    refine x_ilN 50 C dX0_elect_49 2 rfl rfl rfl ?_
    refine x_if_ne 53 C 63 dX0_elect_50 (by decide) rfl hf (fun hf => ?_) (fun hf => ?_)
    ·
      refine x_iconst 64 C (nI 1) dX0_elect_63 ki_1 rfl ?_
      refine x_goto 68 C dX0_elect_64 (by decide) ?_
      refine x_sub [1, 3, 0] rfl ?_
      exact tX0_elect_j68 C HQ _ _ _ _ _ Hb32 hf
    ·
      refine x_ilN 54 C dX0_elect_53 0 rfl rfl rfl ?_
      refine x_alN 55 C dX0_elect_54 1 rfl rfl rfl ?_
      refine xgX0_4 58 C mq_192 dX0_elect_55 rfl ?_
      refine x_ilN 59 C dX0_elect_58 3 rfl rfl rfl ?_
      refine xrC_19 60 C dX0_elect_59 rfl hf (fun x6 hf => ?_)
      refine x_icmp_eq 63 C 67 dX0_elect_60 (by decide) rfl hf (fun hf => ?_) (fun hf => ?_)
      ·
        refine x_iconst 68 C (nI 0) dX0_elect_67 ki_0 rfl ?_
        refine x_sub [1, 3, 0] rfl ?_
        exact tX0_elect_j68 C HQ _ _ _ _ _ Hb32 hf
      ·
        refine x_iconst 64 C (nI 1) dX0_elect_63 ki_1 rfl ?_
        refine x_goto 68 C dX0_elect_64 (by decide) ?_
        refine x_sub [1, 3, 0] rfl ?_
        exact tX0_elect_j68 C HQ _ _ _ _ _ Hb32 hf
set_option maxRecDepth 20000 in
set_option maxHeartbeats 1000000 in
theorem tX0_elect_L32 {l : Launch} {Y : xY} {X : xE} {ad : Nat → Nat} {fr : va_W} {z0 : Int32 × xM} (C : xC Y X cX0_elect RX0 (some .boolean) 4 4 84) (HQ : xRI Y X (wC Y ad fr) z0.1 z0.2)   (k82 : xM → Int32 → Option (Int32 × xM)) (Hk82 : ∀ (M : xM) (v1 : Int32), k82 M v1 = some z0 → xG Y l X (wC Y ad fr) M 82 [(1, .int v1)] []) : ∀ (n : Nat) (M : xM) (v1 : Int32) (v2 : Int32), fX0_elect_L32 k82 n M v1 v2 = some z0 → xG Y l X (wC Y ad fr) M 32 [(0, .ref (ad 15)), (1, .int v1), (2, .int v2)] [] := by
  intro n
  induction n with
  | zero =>
    intro M v1 v2 hf
    cases hf
  | succ n ih =>
    intro M v1 v2 hf
    exact tX0_elect_B32 C HQ   _ Hk82 M v1 v2 _ (fun M v1 v2 hf => ih M v1 v2 hf) hf
set_option maxRecDepth 20000 in
set_option maxHeartbeats 1000000 in
theorem tX0_elect {l : Launch} {Y : xY} {ad : Nat → Nat} {fr : va_W} {M : xM}  {z0 : Int32 × xM} (hf : fX0_elect M = some z0) : xcI l Y (wC Y ad fr) yX0_elect cX0_elect 4 (some .boolean) 4 84 [.ref (ad 15)] M z0.1 z0.2 := by
  refine x_entryI [(0, .ref (ad 15))] pnX0 rfl (Nat.le_of_ble_eq_true rfl) rfl (fun X C HQ => ?_)
  unfold fX0_elect at hf
  refine x_alN 1 C dX0_elect_0 0 rfl rfl rfl ?_
  refine x_cvVM 4 C [] hwX0_findBestOffers mq_395 dX0_elect_1 rfl ⟨Nat.le_of_ble_eq_true rfl, Nat.le_of_ble_eq_true rfl⟩ 15 wC_at_15 rfl rfl rfl (Nat.le_of_ble_eq_true rfl) (fun z hz => tX0_findBestOffers hz) hf (fun z1 hf => ?_)
  refine x_iconst 5 C (nI 0) dX0_elect_4 ki_0 rfl ?_
  refine x_isN 6 C 1 (lv2 := [(1, .int (nI 0)), (0, .ref (ad 15))]) dX0_elect_5 rfl rfl (Nat.le_of_ble_eq_true rfl) rfl ?_
  refine x_sub [1, 0] rfl ?_
  refine tX0_elect_L6 C HQ  _ (fun M3 hf => ?_) 512 _ _ hf
  refine x_iconst 29 C (nI 0) dX0_elect_28 ki_0 rfl ?_
  refine x_isN 30 C 1 (lv2 := [(1, .int (nI 0)), (0, .ref (ad 15))]) dX0_elect_29 rfl rfl (Nat.le_of_ble_eq_true rfl) rfl ?_
  refine x_iconst 31 C (nI 0) dX0_elect_30 ki_0 rfl ?_
  refine x_isN 32 C 2 (lv2 := [(2, .int (nI 0)), (1, .int (nI 0)), (0, .ref (ad 15))]) dX0_elect_31 rfl rfl (Nat.le_of_ble_eq_true rfl) rfl ?_
  refine x_sub [2, 1, 0] rfl ?_
  refine tX0_elect_L32 C HQ  _ (fun M8 v7 hf => ?_) 512 _ _ _ hf
  refine x_ilN 83 C dX0_elect_82 0 rfl rfl rfl ?_
  obtain ⟨hn, hf⟩ := x_nz hf
  exact x_iretM C HQ rfl hn dX0_elect_83 hf
set_option maxRecDepth 20000 in
set_option maxHeartbeats 1000000 in
theorem tX1_transmit {l : Launch} {Y : xY} {ad : Nat → Nat} {fr : va_W} {M : xM} {p1 : Int32} {p2 : Int32} {z0 : xM} (hf : fX1_transmit M p1 p2 = some z0) : xcV l Y (wC Y ad fr) yX1_transmit cX1_transmit 3 none 0 0 [.ref (ad 27), .int p1, .int p2] M z0 := by
  refine x_entryV [(0, .ref (ad 27)), (1, .int p1), (2, .int p2)] pnX1 rfl (Nat.le_of_ble_eq_true rfl) rfl (fun X C HQ => ?_)
  unfold fX1_transmit at hf
  refine x_alN 1 C dX1_transmit_0 0 rfl rfl rfl ?_
  refine xgX1_3 4 C mq_246 dX1_transmit_1 rfl ?_
  refine x_bipush 6 C (nI 64) dX1_transmit_4 kb_64 rfl ?_
  refine x_icmp_lt 9 C 10 dX1_transmit_6 (by decide) rfl hf (fun hf => ?_) (fun hf => ?_)
  ·
    refine x_alN 11 C dX1_transmit_10 0 rfl rfl rfl ?_
    refine xgX1_1 14 C mq_244 dX1_transmit_11 rfl ?_
    refine x_alN 15 C dX1_transmit_14 0 rfl rfl rfl ?_
    refine xgX1_3 18 C mq_246 dX1_transmit_15 rfl ?_
    refine x_ilN 19 C dX1_transmit_18 1 rfl rfl rfl ?_
    refine xwC_28 20 C dX1_transmit_19 rfl hf (fun M1 hf => ?_)
    refine x_alN 21 C dX1_transmit_20 0 rfl rfl rfl ?_
    refine xgX1_2 24 C mq_245 dX1_transmit_21 rfl ?_
    refine x_alN 25 C dX1_transmit_24 0 rfl rfl rfl ?_
    refine xgX1_3 28 C mq_246 dX1_transmit_25 rfl ?_
    refine x_ilN 29 C dX1_transmit_28 2 rfl rfl rfl ?_
    refine xwC_29 30 C dX1_transmit_29 rfl hf (fun M2 hf => ?_)
    refine x_alN 31 C dX1_transmit_30 0 rfl rfl rfl ?_
    refine x_dup 32 C dX1_transmit_31 rfl rfl ?_
    refine xgX1_3 35 C mq_246 dX1_transmit_32 rfl ?_
    refine x_iconst 36 C (nI 1) dX1_transmit_35 ki_1 rfl ?_
    refine x_iadd 37 C dX1_transmit_36 rfl ?_
    refine xpX1_3 40 C mq_246 dX1_transmit_37 rfl hf (fun M3 hf => ?_)
    refine x_alN 41 C dX1_transmit_40 0 rfl rfl rfl ?_
    refine xgX1_0 44 C mq_243 dX1_transmit_41 rfl ?_
    refine xgX3_18 47 C mq_135 dX1_transmit_44 rfl ?_
    refine x_ilN 48 C dX1_transmit_47 1 rfl rfl rfl ?_
    refine x_dup2 49 C dX1_transmit_48 rfl rfl rfl ?_
    refine xrC_14 50 C dX1_transmit_49 rfl hf (fun x4 hf => ?_)
    refine x_iconst 51 C (nI 1) dX1_transmit_50 ki_1 rfl ?_
    refine x_iadd 52 C dX1_transmit_51 rfl ?_
    refine xwC_14 53 C dX1_transmit_52 rfl hf (fun M5 hf => ?_)
    exact x_vret C HQ rfl dX1_transmit_53 hf
  ·
    exact x_vret C HQ rfl dX1_transmit_9 hf
set_option maxRecDepth 20000 in
set_option maxHeartbeats 1000000 in
theorem tX1_flood_B2 {l : Launch} {Y : xY} {X : xE} {ad : Nat → Nat} {fr : va_W} {z0 : xM} (C : xC Y X cX1_flood RX1 none 4 1 22) (HQ : xRV Y X (wC Y ad fr) z0)  (v1 : Int32) (v2 : Int32) (k62 : xM → Option (xM)) (Hk62 : ∀ (M : xM), k62 M = some z0 → xG Y l X (wC Y ad fr) M 62 [] []) (M : xM) (v3 : Int32) (b2 : xM → Int32 → Option (xM)) (Hb2 : ∀ (M : xM) (v3 : Int32), b2 M v3 = some z0 → xG Y l X (wC Y ad fr) M 2 [(0, .ref (ad 27)), (1, .int v1), (2, .int v2), (3, .int v3)] []) (hf : fX1_flood_B2 v1 v2 k62 M v3 b2 = some z0) : xG Y l X (wC Y ad fr) M 2 [(0, .ref (ad 27)), (1, .int v1), (2, .int v2), (3, .int v3)] [] := by
  unfold fX1_flood_B2 at hf
  refine x_ilN 3 C dX1_flood_2 3 rfl rfl rfl ?_
  refine x_alN 4 C dX1_flood_3 0 rfl rfl rfl ?_
  refine xgX1_0 7 C mq_243 dX1_flood_4 rfl ?_
  refine xgX3_2 10 C mq_93 dX1_flood_7 rfl ?_
  refine x_icmp_ge 13 C 62 dX1_flood_10 (by decide) rfl hf (fun hf => ?_) (fun hf => ?_)
  ·
    refine x_sub [] rfl ?_
    exact Hk62 _ hf
  ·
    refine x_alN 14 C dX1_flood_13 0 rfl rfl rfl ?_
    refine xgX1_0 17 C mq_243 dX1_flood_14 rfl ?_
    refine xgX3_7 20 C mq_107 dX1_flood_17 rfl ?_
    refine x_ilN 21 C dX1_flood_20 3 rfl rfl rfl ?_
    refine xrC_3 22 C dX1_flood_21 rfl hf (fun x1 hf => ?_)
    refine x_ilN 23 C dX1_flood_22 1 rfl rfl rfl ?_
    refine x_icmp_ne 26 C 56 dX1_flood_23 (by decide) rfl hf (fun hf => ?_) (fun hf => ?_)
    ·
      refine x_iinc 59 C (v3 + (nI 1)) (lv2 := [(3, .int (v3 + (nI 1))), (0, .ref (ad 27)), (1, .int v1), (2, .int v2)]) dX1_flood_56 3 rfl rfl rfl (Nat.le_of_ble_eq_true rfl) rfl ?_
      refine x_goto 2 C dX1_flood_59 (by decide) ?_
      refine x_sub [1, 2, 3, 0] rfl ?_
      exact Hb2 _ _ hf
    ·
      refine x_ilN 27 C dX1_flood_26 3 rfl rfl rfl ?_
      refine x_ilN 28 C dX1_flood_27 2 rfl rfl rfl ?_
      refine x_icmp_eq 31 C 56 dX1_flood_28 (by decide) rfl hf (fun hf => ?_) (fun hf => ?_)
      ·
        refine x_iinc 59 C (v3 + (nI 1)) (lv2 := [(3, .int (v3 + (nI 1))), (0, .ref (ad 27)), (1, .int v1), (2, .int v2)]) dX1_flood_56 3 rfl rfl rfl (Nat.le_of_ble_eq_true rfl) rfl ?_
        refine x_goto 2 C dX1_flood_59 (by decide) ?_
        refine x_sub [1, 2, 3, 0] rfl ?_
        exact Hb2 _ _ hf
      ·
        refine x_alN 32 C dX1_flood_31 0 rfl rfl rfl ?_
        refine xgX1_0 35 C mq_243 dX1_flood_32 rfl ?_
        refine x_ilN 36 C dX1_flood_35 3 rfl rfl rfl ?_
        refine x_cvIP 39 C [.int v3] hwX3_isForwarding mq_620 dX1_flood_36 rfl ⟨Nat.le_of_ble_eq_true rfl, Nat.le_of_ble_eq_true rfl⟩ 0 wC_at_0 rfl rfl rfl (Nat.le_of_ble_eq_true rfl) (fun z hz => tX3_isForwarding hz) hf (fun z2 hf => ?_)
        refine x_if_eq 42 C 56 dX1_flood_39 (by decide) rfl hf (fun hf => ?_) (fun hf => ?_)
        ·
          refine x_iinc 59 C (v3 + (nI 1)) (lv2 := [(3, .int (v3 + (nI 1))), (0, .ref (ad 27)), (1, .int v1), (2, .int v2)]) dX1_flood_56 3 rfl rfl rfl (Nat.le_of_ble_eq_true rfl) rfl ?_
          refine x_goto 2 C dX1_flood_59 (by decide) ?_
          refine x_sub [1, 2, 3, 0] rfl ?_
          exact Hb2 _ _ hf
        ·
          refine x_alN 43 C dX1_flood_42 0 rfl rfl rfl ?_
          refine x_alN 44 C dX1_flood_43 0 rfl rfl rfl ?_
          refine xgX1_0 47 C mq_243 dX1_flood_44 rfl ?_
          refine xgX3_8 50 C mq_109 dX1_flood_47 rfl ?_
          refine x_ilN 51 C dX1_flood_50 3 rfl rfl rfl ?_
          refine xrC_4 52 C dX1_flood_51 rfl hf (fun x3 hf => ?_)
          refine x_ilN 53 C dX1_flood_52 3 rfl rfl rfl ?_
          refine x_cvVM 56 C [.int x3, .int v3] hwX1_transmit mq_592 dX1_flood_53 rfl ⟨Nat.le_of_ble_eq_true rfl, Nat.le_of_ble_eq_true rfl⟩ 27 wC_at_27 rfl rfl rfl (Nat.le_of_ble_eq_true rfl) (fun z hz => tX1_transmit hz) hf (fun z4 hf => ?_)
          refine x_iinc 59 C (v3 + (nI 1)) (lv2 := [(3, .int (v3 + (nI 1))), (0, .ref (ad 27)), (1, .int v1), (2, .int v2)]) dX1_flood_56 3 rfl rfl rfl (Nat.le_of_ble_eq_true rfl) rfl ?_
          refine x_goto 2 C dX1_flood_59 (by decide) ?_
          refine x_sub [1, 2, 3, 0] rfl ?_
          exact Hb2 _ _ hf
set_option maxRecDepth 20000 in
set_option maxHeartbeats 1000000 in
theorem tX1_flood_L2 {l : Launch} {Y : xY} {X : xE} {ad : Nat → Nat} {fr : va_W} {z0 : xM} (C : xC Y X cX1_flood RX1 none 4 1 22) (HQ : xRV Y X (wC Y ad fr) z0)  (v1 : Int32) (v2 : Int32) (k62 : xM → Option (xM)) (Hk62 : ∀ (M : xM), k62 M = some z0 → xG Y l X (wC Y ad fr) M 62 [] []) : ∀ (n : Nat) (M : xM) (v3 : Int32), fX1_flood_L2 v1 v2 k62 n M v3 = some z0 → xG Y l X (wC Y ad fr) M 2 [(0, .ref (ad 27)), (1, .int v1), (2, .int v2), (3, .int v3)] [] := by
  intro n
  induction n with
  | zero =>
    intro M v3 hf
    cases hf
  | succ n ih =>
    intro M v3 hf
    exact tX1_flood_B2 C HQ  v1 v2 _ Hk62 M v3 _ (fun M v3 hf => ih M v3 hf) hf
set_option maxRecDepth 20000 in
set_option maxHeartbeats 1000000 in
theorem tX1_flood {l : Launch} {Y : xY} {ad : Nat → Nat} {fr : va_W} {M : xM} {p1 : Int32} {p2 : Int32} {z0 : xM} (hf : fX1_flood M p1 p2 = some z0) : xcV l Y (wC Y ad fr) yX1_flood cX1_flood 4 none 1 22 [.ref (ad 27), .int p1, .int p2] M z0 := by
  refine x_entryV [(0, .ref (ad 27)), (1, .int p1), (2, .int p2)] pnX1 rfl (Nat.le_of_ble_eq_true rfl) rfl (fun X C HQ => ?_)
  unfold fX1_flood at hf
  refine x_iconst 1 C (nI 0) dX1_flood_0 ki_0 rfl ?_
  refine x_isN 2 C 3 (lv2 := [(3, .int (nI 0)), (0, .ref (ad 27)), (1, .int p1), (2, .int p2)]) dX1_flood_1 rfl rfl (Nat.le_of_ble_eq_true rfl) rfl ?_
  refine x_sub [1, 2, 3, 0] rfl ?_
  refine tX1_flood_L2 C HQ _ _ _ (fun M5 hf => ?_) 512 _ _ hf
  exact x_vret C HQ rfl dX1_flood_62 hf
set_option maxRecDepth 20000 in
set_option maxHeartbeats 1000000 in
theorem tX1_passOn_j48 {l : Launch} {Y : xY} {X : xE} {ad : Nat → Nat} {fr : va_W} {z0 : xM} (C : xC Y X cX1_passOn RX1 none 5 2 45) (HQ : xRV Y X (wC Y ad fr) z0) (M : xM) (v1 : Int32) (v3 : Int32)  (hf : fX1_passOn_j48 M v1 v3 = some z0) : xG Y l X (wC Y ad fr) M 48 [(0, .ref (ad 27)), (1, .int v1), (3, .int v3)] [] := by
  unfold fX1_passOn_j48 at hf
  refine x_alN 49 C dX1_passOn_48 0 rfl rfl rfl ?_
  refine x_ilN 50 C dX1_passOn_49 2 rfl rfl rfl ?_
  refine x_ilN 51 C dX1_passOn_50 1 rfl rfl rfl ?_
  refine x_cvVM 54 C [.int v3, .int v1] hwX1_flood mq_621 dX1_passOn_51 rfl ⟨Nat.le_of_ble_eq_true rfl, Nat.le_of_ble_eq_true rfl⟩ 27 wC_at_27 rfl rfl rfl (Nat.le_of_ble_eq_true rfl) (fun z hz => tX1_flood hz) hf (fun z3 hf => ?_)
  refine x_goto 79 C dX1_passOn_54 (by decide) ?_
  exact x_vret C HQ rfl dX1_passOn_79 hf
set_option maxRecDepth 20000 in
set_option maxHeartbeats 1000000 in
theorem tX1_passOn_j28 {l : Launch} {Y : xY} {X : xE} {ad : Nat → Nat} {fr : va_W} {z0 : xM} (C : xC Y X cX1_passOn RX1 none 5 2 45) (HQ : xRV Y X (wC Y ad fr) z0) (M : xM) (v1 : Int32) (v3 : Int32) (s0 : Int32)  (hf : fX1_passOn_j28 M v1 v3 s0 = some z0) : xG Y l X (wC Y ad fr) M 28 [(0, .ref (ad 27)), (1, .int v1), (3, .int v3)] [.int s0] := by
  unfold fX1_passOn_j28 at hf
  refine x_is 30 C 4 (lv2 := [(4, .int s0), (0, .ref (ad 27)), (1, .int v1), (3, .int v3)]) dX1_passOn_28 rfl (Nat.le_of_ble_eq_true rfl) rfl ?_
  refine x_il 32 C dX1_passOn_30 0 rfl rfl ?_
  refine x_iconst 33 C (-1) dX1_passOn_32 ki_m1 rfl ?_
  refine x_icmp_eq 36 C 48 dX1_passOn_33 (by decide) rfl hf (fun hf => ?_) (fun hf => ?_)
  ·
    refine x_sub [1, 2, 3] rfl ?_
    exact tX1_passOn_j48 C HQ _ _ _  hf
  ·
    refine x_alN 37 C dX1_passOn_36 1 rfl rfl rfl ?_
    refine xgX1_0 40 C mq_243 dX1_passOn_37 rfl ?_
    refine x_il 42 C dX1_passOn_40 0 rfl rfl ?_
    refine x_cvIP 45 C [.int s0] hwX3_isForwarding mq_620 dX1_passOn_42 rfl ⟨Nat.le_of_ble_eq_true rfl, Nat.le_of_ble_eq_true rfl⟩ 0 wC_at_0 rfl rfl rfl (Nat.le_of_ble_eq_true rfl) (fun z hz => tX3_isForwarding hz) hf (fun z4 hf => ?_)
    refine x_if_ne 48 C 57 dX1_passOn_45 (by decide) rfl hf (fun hf => ?_) (fun hf => ?_)
    ·
      refine x_il 59 C dX1_passOn_57 0 rfl rfl ?_
      refine x_ilN 60 C dX1_passOn_59 2 rfl rfl rfl ?_
      refine x_icmp_eq 63 C 79 dX1_passOn_60 (by decide) rfl hf (fun hf => ?_) (fun hf => ?_)
      ·
        exact x_vret C HQ rfl dX1_passOn_79 hf
      ·
        refine x_alN 64 C dX1_passOn_63 1 rfl rfl rfl ?_
        refine x_alN 65 C dX1_passOn_64 1 rfl rfl rfl ?_
        refine xgX1_0 68 C mq_243 dX1_passOn_65 rfl ?_
        refine xgX3_8 71 C mq_109 dX1_passOn_68 rfl ?_
        refine x_il 73 C dX1_passOn_71 0 rfl rfl ?_
        refine xrC_4 74 C dX1_passOn_73 rfl hf (fun x5 hf => ?_)
        refine x_il 76 C dX1_passOn_74 0 rfl rfl ?_
        refine x_cvVM 79 C [.int x5, .int s0] hwX1_transmit mq_592 dX1_passOn_76 rfl ⟨Nat.le_of_ble_eq_true rfl, Nat.le_of_ble_eq_true rfl⟩ 27 wC_at_27 rfl rfl rfl (Nat.le_of_ble_eq_true rfl) (fun z hz => tX1_transmit hz) hf (fun z6 hf => ?_)
        exact x_vret C HQ rfl dX1_passOn_79 hf
    ·
      refine x_sub [1, 2, 3] rfl ?_
      exact tX1_passOn_j48 C HQ _ _ _  hf
set_option maxRecDepth 20000 in
set_option maxHeartbeats 1000000 in
theorem tX1_passOn {l : Launch} {Y : xY} {ad : Nat → Nat} {fr : va_W} {M : xM} {p1 : Int32} {p2 : Int32} {z0 : xM} (hf : fX1_passOn M p1 p2 = some z0) : xcV l Y (wC Y ad fr) yX1_passOn cX1_passOn 5 none 2 45 [.ref (ad 27), .int p1, .int p2] M z0 := by
  refine x_entryV [(0, .ref (ad 27)), (1, .int p1), (2, .int p2)] pnX1 rfl (Nat.le_of_ble_eq_true rfl) rfl (fun X C HQ => ?_)
  unfold fX1_passOn at hf
  refine x_alN 1 C dX1_passOn_0 0 rfl rfl rfl ?_
  refine xgX1_0 4 C mq_243 dX1_passOn_1 rfl ?_
  refine xgX3_7 7 C mq_107 dX1_passOn_4 rfl ?_
  refine x_ilN 8 C dX1_passOn_7 1 rfl rfl rfl ?_
  refine xrC_3 9 C dX1_passOn_8 rfl hf (fun x1 hf => ?_)
  refine x_isN 10 C 3 (lv2 := [(3, .int x1), (0, .ref (ad 27)), (1, .int p1), (2, .int p2)]) dX1_passOn_9 rfl rfl (Nat.le_of_ble_eq_true rfl) rfl ?_
  refine x_ilN 11 C dX1_passOn_10 3 rfl rfl rfl ?_
  refine x_iconst 12 C (-1) dX1_passOn_11 ki_m1 rfl ?_
  refine x_icmp_ne 15 C 19 dX1_passOn_12 (by decide) rfl hf (fun hf => ?_) (fun hf => ?_)
  ·
    refine x_alN 20 C dX1_passOn_19 1 rfl rfl rfl ?_
    refine xgX1_0 23 C mq_243 dX1_passOn_20 rfl ?_
    refine x_ilN 24 C dX1_passOn_23 0 rfl rfl rfl ?_
    refine x_ilN 25 C dX1_passOn_24 3 rfl rfl rfl ?_
    refine x_cvIP 28 C [.int x1, .int p2] hwX3_learnedPort mq_616 dX1_passOn_25 rfl ⟨Nat.le_of_ble_eq_true rfl, Nat.le_of_ble_eq_true rfl⟩ 0 wC_at_0 rfl rfl rfl (Nat.le_of_ble_eq_true rfl) (fun z hz => tX3_learnedPort hz) hf (fun z2 hf => ?_)
    refine x_sub [1, 2, 0] rfl ?_
    exact tX1_passOn_j28 C HQ _ _ _ _  hf
  ·
    refine x_iconst 16 C (-1) dX1_passOn_15 ki_m1 rfl ?_
    refine x_goto 28 C dX1_passOn_16 (by decide) ?_
    refine x_sub [1, 2, 0] rfl ?_
    exact tX1_passOn_j28 C HQ _ _ _ _  hf
set_option maxRecDepth 20000 in
set_option maxHeartbeats 1000000 in
theorem tX1_visitPort_j32 {l : Launch} {Y : xY} {X : xE} {ad : Nat → Nat} {fr : va_W} {z0 : xM} (C : xC Y X cX1_visitPort RX1 none 5 3 69) (HQ : xRV Y X (wC Y ad fr) z0) (M : xM) (v1 : Int32) (v3 : Int32) (v4 : Int32)  (hf : fX1_visitPort_j32 M v1 v3 v4 = some z0) : xG Y l X (wC Y ad fr) M 32 [(0, .ref (ad 27)), (1, .int v1), (3, .int v3), (4, .int v4)] [] := by
  unfold fX1_visitPort_j32 at hf
  refine x_il 34 C dX1_visitPort_32 3 rfl rfl ?_
  refine x_iconst 35 C (nI 4) dX1_visitPort_34 ki_4 rfl ?_
  refine x_icmp_ne 38 C 44 dX1_visitPort_35 (by decide) rfl hf (fun hf => ?_) (fun hf => ?_)
  ·
    exact x_vret C HQ rfl dX1_visitPort_44 hf
  ·
    refine x_alN 39 C dX1_visitPort_38 0 rfl rfl rfl ?_
    refine x_ilN 40 C dX1_visitPort_39 1 rfl rfl rfl ?_
    refine x_ilN 41 C dX1_visitPort_40 2 rfl rfl rfl ?_
    refine x_cvVM 44 C [.int v1, .int v3] hwX1_passOn mq_612 dX1_visitPort_41 rfl ⟨Nat.le_of_ble_eq_true rfl, Nat.le_of_ble_eq_true rfl⟩ 27 wC_at_27 rfl rfl rfl (Nat.le_of_ble_eq_true rfl) (fun z hz => tX1_passOn hz) hf (fun z3 hf => ?_)
    exact x_vret C HQ rfl dX1_visitPort_44 hf
set_option maxRecDepth 20000 in
set_option maxHeartbeats 1000000 in
theorem tX1_visitPort_j23 {l : Launch} {Y : xY} {X : xE} {ad : Nat → Nat} {fr : va_W} {z0 : xM} (C : xC Y X cX1_visitPort RX1 none 5 3 69) (HQ : xRV Y X (wC Y ad fr) z0) (M : xM) (v1 : Int32) (v2 : Int32) (v3 : Int32) (v4 : Int32)  (hf : fX1_visitPort_j23 M v1 v2 v3 v4 = some z0) : xG Y l X (wC Y ad fr) M 23 [(0, .ref (ad 27)), (1, .int v1), (2, .int v2), (3, .int v3), (4, .int v4)] [] := by
  unfold fX1_visitPort_j23 at hf
  refine x_alN 24 C dX1_visitPort_23 0 rfl rfl rfl ?_
  refine xgX1_0 27 C mq_243 dX1_visitPort_24 rfl ?_
  refine x_ilN 28 C dX1_visitPort_27 2 rfl rfl rfl ?_
  refine x_ilN 29 C dX1_visitPort_28 1 rfl rfl rfl ?_
  refine x_cvVM 32 C [.int v2, .int v1] hwX3_learn mq_605 dX1_visitPort_29 rfl ⟨Nat.le_of_ble_eq_true rfl, Nat.le_of_ble_eq_true rfl⟩ 0 wC_at_0 rfl rfl rfl (Nat.le_of_ble_eq_true rfl) (fun z hz => tX3_learn hz) hf (fun z2 hf => ?_)
  refine x_sub [0, 1, 3, 4] rfl ?_
  exact tX1_visitPort_j32 C HQ _ _ _ _  hf
set_option maxRecDepth 20000 in
set_option maxHeartbeats 1000000 in
theorem tX1_visitPort {l : Launch} {Y : xY} {ad : Nat → Nat} {fr : va_W} {M : xM} {p1 : Int32} {p2 : Int32} {p3 : Int32} {z0 : xM} (hf : fX1_visitPort M p1 p2 p3 = some z0) : xcV l Y (wC Y ad fr) yX1_visitPort cX1_visitPort 5 none 3 69 [.ref (ad 27), .int p1, .int p2, .int p3] M z0 := by
  refine x_entryV [(0, .ref (ad 27)), (1, .int p1), (2, .int p2), (3, .int p3)] pnX1 rfl (Nat.le_of_ble_eq_true rfl) rfl (fun X C HQ => ?_)
  unfold fX1_visitPort at hf
  refine x_alN 1 C dX1_visitPort_0 0 rfl rfl rfl ?_
  refine xgX1_0 4 C mq_243 dX1_visitPort_1 rfl ?_
  refine xgX3_11 7 C mq_117 dX1_visitPort_4 rfl ?_
  refine x_ilN 8 C dX1_visitPort_7 1 rfl rfl rfl ?_
  refine xrC_7 9 C dX1_visitPort_8 rfl hf (fun x1 hf => ?_)
  refine x_is 11 C 4 (lv2 := [(4, .int x1), (0, .ref (ad 27)), (1, .int p1), (2, .int p2), (3, .int p3)]) dX1_visitPort_9 rfl (Nat.le_of_ble_eq_true rfl) rfl ?_
  refine x_il 13 C dX1_visitPort_11 0 rfl rfl ?_
  refine x_iconst 14 C (nI 3) dX1_visitPort_13 ki_3 rfl ?_
  refine x_icmp_eq 17 C 23 dX1_visitPort_14 (by decide) rfl hf (fun hf => ?_) (fun hf => ?_)
  ·
    refine x_sub [1, 2, 3, 4, 0] rfl ?_
    exact tX1_visitPort_j23 C HQ _ _ _ _ _  hf
  ·
    refine x_il 19 C dX1_visitPort_17 0 rfl rfl ?_
    refine x_iconst 20 C (nI 4) dX1_visitPort_19 ki_4 rfl ?_
    refine x_icmp_ne 23 C 32 dX1_visitPort_20 (by decide) rfl hf (fun hf => ?_) (fun hf => ?_)
    ·
      refine x_sub [1, 2, 4, 0] rfl ?_
      exact tX1_visitPort_j32 C HQ _ _ _ _  hf
    ·
      refine x_sub [1, 2, 3, 4, 0] rfl ?_
      exact tX1_visitPort_j23 C HQ _ _ _ _ _  hf
set_option maxRecDepth 20000 in
set_option maxHeartbeats 1000000 in
theorem tX1_visitPorts_B3 {l : Launch} {Y : xY} {X : xE} {ad : Nat → Nat} {fr : va_W} {z0 : xM} (C : xC Y X cX1_visitPorts RX1 none 6 4 93) (HQ : xRV Y X (wC Y ad fr) z0)  (v1 : Int32) (v2 : Int32) (v3 : Int32) (v4 : Int32) (k62 : xM → Option (xM)) (Hk62 : ∀ (M : xM), k62 M = some z0 → xG Y l X (wC Y ad fr) M 62 [] []) (M : xM) (v5 : Int32) (b3 : xM → Int32 → Option (xM)) (Hb3 : ∀ (M : xM) (v5 : Int32), b3 M v5 = some z0 → xG Y l X (wC Y ad fr) M 3 [(0, .ref (ad 27)), (1, .int v1), (2, .int v2), (3, .int v3), (4, .int v4), (5, .int v5)] []) (hf : fX1_visitPorts_B3 v1 v2 v3 v4 k62 M v5 b3 = some z0) : xG Y l X (wC Y ad fr) M 3 [(0, .ref (ad 27)), (1, .int v1), (2, .int v2), (3, .int v3), (4, .int v4), (5, .int v5)] [] := by
  unfold fX1_visitPorts_B3 at hf
  refine x_il 5 C dX1_visitPorts_3 5 rfl rfl ?_
  refine x_alN 6 C dX1_visitPorts_5 0 rfl rfl rfl ?_
  refine xgX1_0 9 C mq_243 dX1_visitPorts_6 rfl ?_
  refine xgX3_2 12 C mq_93 dX1_visitPorts_9 rfl ?_
  refine x_icmp_ge 15 C 62 dX1_visitPorts_12 (by decide) rfl hf (fun hf => ?_) (fun hf => ?_)
  ·
    refine x_sub [] rfl ?_
    exact Hk62 _ hf
  ·
    refine x_alN 16 C dX1_visitPorts_15 0 rfl rfl rfl ?_
    refine xgX1_0 19 C mq_243 dX1_visitPorts_16 rfl ?_
    refine xgX3_8 22 C mq_109 dX1_visitPorts_19 rfl ?_
    refine x_il 24 C dX1_visitPorts_22 5 rfl rfl ?_
    refine xrC_4 25 C dX1_visitPorts_24 rfl hf (fun x1 hf => ?_)
    refine x_ilN 26 C dX1_visitPorts_25 1 rfl rfl rfl ?_
    refine x_icmp_ne 29 C 56 dX1_visitPorts_26 (by decide) rfl hf (fun hf => ?_) (fun hf => ?_)
    ·
      refine x_iinc 59 C (v5 + (nI 1)) (lv2 := [(5, .int (v5 + (nI 1))), (0, .ref (ad 27)), (1, .int v1), (2, .int v2), (3, .int v3), (4, .int v4)]) dX1_visitPorts_56 5 rfl rfl rfl (Nat.le_of_ble_eq_true rfl) rfl ?_
      refine x_goto 3 C dX1_visitPorts_59 (by decide) ?_
      refine x_sub [1, 2, 3, 4, 5, 0] rfl ?_
      exact Hb3 _ _ hf
    ·
      refine x_il 31 C dX1_visitPorts_29 5 rfl rfl ?_
      refine x_ilN 32 C dX1_visitPorts_31 2 rfl rfl rfl ?_
      refine x_icmp_eq 35 C 56 dX1_visitPorts_32 (by decide) rfl hf (fun hf => ?_) (fun hf => ?_)
      ·
        refine x_iinc 59 C (v5 + (nI 1)) (lv2 := [(5, .int (v5 + (nI 1))), (0, .ref (ad 27)), (1, .int v1), (2, .int v2), (3, .int v3), (4, .int v4)]) dX1_visitPorts_56 5 rfl rfl rfl (Nat.le_of_ble_eq_true rfl) rfl ?_
        refine x_goto 3 C dX1_visitPorts_59 (by decide) ?_
        refine x_sub [1, 2, 3, 4, 5, 0] rfl ?_
        exact Hb3 _ _ hf
      ·
        refine x_alN 36 C dX1_visitPorts_35 0 rfl rfl rfl ?_
        refine xgX1_0 39 C mq_243 dX1_visitPorts_36 rfl ?_
        refine x_il 41 C dX1_visitPorts_39 5 rfl rfl ?_
        refine x_cvIP 44 C [.int v5] hwX3_isActive mq_600 dX1_visitPorts_41 rfl ⟨Nat.le_of_ble_eq_true rfl, Nat.le_of_ble_eq_true rfl⟩ 0 wC_at_0 rfl rfl rfl (Nat.le_of_ble_eq_true rfl) (fun z hz => tX3_isActive hz) hf (fun z2 hf => ?_)
        refine x_if_eq 47 C 56 dX1_visitPorts_44 (by decide) rfl hf (fun hf => ?_) (fun hf => ?_)
        ·
          refine x_iinc 59 C (v5 + (nI 1)) (lv2 := [(5, .int (v5 + (nI 1))), (0, .ref (ad 27)), (1, .int v1), (2, .int v2), (3, .int v3), (4, .int v4)]) dX1_visitPorts_56 5 rfl rfl rfl (Nat.le_of_ble_eq_true rfl) rfl ?_
          refine x_goto 3 C dX1_visitPorts_59 (by decide) ?_
          refine x_sub [1, 2, 3, 4, 5, 0] rfl ?_
          exact Hb3 _ _ hf
        ·
          refine x_alN 48 C dX1_visitPorts_47 0 rfl rfl rfl ?_
          refine x_il 50 C dX1_visitPorts_48 5 rfl rfl ?_
          refine x_ilN 51 C dX1_visitPorts_50 3 rfl rfl rfl ?_
          refine x_il 53 C dX1_visitPorts_51 4 rfl rfl ?_
          refine x_cvVM 56 C [.int v5, .int v3, .int v4] hwX1_visitPort mq_601 dX1_visitPorts_53 rfl ⟨Nat.le_of_ble_eq_true rfl, Nat.le_of_ble_eq_true rfl⟩ 27 wC_at_27 rfl rfl rfl (Nat.le_of_ble_eq_true rfl) (fun z hz => tX1_visitPort hz) hf (fun z3 hf => ?_)
          refine x_iinc 59 C (v5 + (nI 1)) (lv2 := [(5, .int (v5 + (nI 1))), (0, .ref (ad 27)), (1, .int v1), (2, .int v2), (3, .int v3), (4, .int v4)]) dX1_visitPorts_56 5 rfl rfl rfl (Nat.le_of_ble_eq_true rfl) rfl ?_
          refine x_goto 3 C dX1_visitPorts_59 (by decide) ?_
          refine x_sub [1, 2, 3, 4, 5, 0] rfl ?_
          exact Hb3 _ _ hf
set_option maxRecDepth 20000 in
set_option maxHeartbeats 1000000 in
theorem tX1_visitPorts_L3 {l : Launch} {Y : xY} {X : xE} {ad : Nat → Nat} {fr : va_W} {z0 : xM} (C : xC Y X cX1_visitPorts RX1 none 6 4 93) (HQ : xRV Y X (wC Y ad fr) z0)  (v1 : Int32) (v2 : Int32) (v3 : Int32) (v4 : Int32) (k62 : xM → Option (xM)) (Hk62 : ∀ (M : xM), k62 M = some z0 → xG Y l X (wC Y ad fr) M 62 [] []) : ∀ (n : Nat) (M : xM) (v5 : Int32), fX1_visitPorts_L3 v1 v2 v3 v4 k62 n M v5 = some z0 → xG Y l X (wC Y ad fr) M 3 [(0, .ref (ad 27)), (1, .int v1), (2, .int v2), (3, .int v3), (4, .int v4), (5, .int v5)] [] := by
  intro n
  induction n with
  | zero =>
    intro M v5 hf
    cases hf
  | succ n ih =>
    intro M v5 hf
    exact tX1_visitPorts_B3 C HQ  v1 v2 v3 v4 _ Hk62 M v5 _ (fun M v5 hf => ih M v5 hf) hf
set_option maxRecDepth 20000 in
set_option maxHeartbeats 1000000 in
theorem tX1_visitPorts {l : Launch} {Y : xY} {ad : Nat → Nat} {fr : va_W} {M : xM} {p1 : Int32} {p2 : Int32} {p3 : Int32} {p4 : Int32} {z0 : xM} (hf : fX1_visitPorts M p1 p2 p3 p4 = some z0) : xcV l Y (wC Y ad fr) yX1_visitPorts cX1_visitPorts 6 none 4 93 [.ref (ad 27), .int p1, .int p2, .int p3, .int p4] M z0 := by
  refine x_entryV [(0, .ref (ad 27)), (1, .int p1), (2, .int p2), (3, .int p3), (4, .int p4)] pnX1 rfl (Nat.le_of_ble_eq_true rfl) rfl (fun X C HQ => ?_)
  unfold fX1_visitPorts at hf
  refine x_iconst 1 C (nI 0) dX1_visitPorts_0 ki_0 rfl ?_
  refine x_is 3 C 5 (lv2 := [(5, .int (nI 0)), (0, .ref (ad 27)), (1, .int p1), (2, .int p2), (3, .int p3), (4, .int p4)]) dX1_visitPorts_1 rfl (Nat.le_of_ble_eq_true rfl) rfl ?_
  refine x_sub [1, 2, 3, 4, 5, 0] rfl ?_
  refine tX1_visitPorts_L3 C HQ _ _ _ _ _ (fun M4 hf => ?_) 512 _ _ hf
  exact x_vret C HQ rfl dX1_visitPorts_62 hf
set_option maxRecDepth 20000 in
set_option maxHeartbeats 1000000 in
theorem tX1_deliver_B7 {l : Launch} {Y : xY} {X : xE} {ad : Nat → Nat} {fr : va_W} {z0 : Int32 × xM} (C : xC Y X cX1_deliver RX1 (some .int) 4 5 118) (HQ : xRI Y X (wC Y ad fr) z0.1 z0.2)  (v1 : Int32) (v2 : Int32) (k29 : xM → Option (Int32 × xM)) (Hk29 : ∀ (M : xM), k29 M = some z0 → xG Y l X (wC Y ad fr) M 29 [(0, .ref (ad 27)), (1, .int v1), (2, .int v2)] []) (M : xM) (v3 : Int32) (b7 : xM → Int32 → Option (Int32 × xM)) (Hb7 : ∀ (M : xM) (v3 : Int32), b7 M v3 = some z0 → xG Y l X (wC Y ad fr) M 7 [(0, .ref (ad 27)), (1, .int v1), (2, .int v2), (3, .int v3)] []) (hf : fX1_deliver_B7 v1 v2 k29 M v3 b7 = some z0) : xG Y l X (wC Y ad fr) M 7 [(0, .ref (ad 27)), (1, .int v1), (2, .int v2), (3, .int v3)] [] := by
  unfold fX1_deliver_B7 at hf
  refine x_ilN 8 C dX1_deliver_7 3 rfl rfl rfl ?_
  refine x_bipush 10 C (nI 10) dX1_deliver_8 kb_10 rfl ?_
  refine x_icmp_ge 13 C 29 dX1_deliver_10 (by decide) rfl hf (fun hf => ?_) (fun hf => ?_)
  ·
    refine x_sub [0, 1, 2] rfl ?_
    exact Hk29 _ hf
  ·
    refine x_alN 14 C dX1_deliver_13 0 rfl rfl rfl ?_
    refine xgX1_0 17 C mq_243 dX1_deliver_14 rfl ?_
    refine xgX3_18 20 C mq_135 dX1_deliver_17 rfl ?_
    refine x_ilN 21 C dX1_deliver_20 3 rfl rfl rfl ?_
    refine x_iconst 22 C (nI 0) dX1_deliver_21 ki_0 rfl ?_
    refine xwC_14 23 C dX1_deliver_22 rfl hf (fun M2 hf => ?_)
    refine x_iinc 26 C (v3 + (nI 1)) (lv2 := [(3, .int (v3 + (nI 1))), (0, .ref (ad 27)), (1, .int v1), (2, .int v2)]) dX1_deliver_23 3 rfl rfl rfl (Nat.le_of_ble_eq_true rfl) rfl ?_
    refine x_goto 7 C dX1_deliver_26 (by decide) ?_
    refine x_sub [1, 2, 3, 0] rfl ?_
    exact Hb7 _ _ hf
set_option maxRecDepth 20000 in
set_option maxHeartbeats 1000000 in
theorem tX1_deliver_L7 {l : Launch} {Y : xY} {X : xE} {ad : Nat → Nat} {fr : va_W} {z0 : Int32 × xM} (C : xC Y X cX1_deliver RX1 (some .int) 4 5 118) (HQ : xRI Y X (wC Y ad fr) z0.1 z0.2)  (v1 : Int32) (v2 : Int32) (k29 : xM → Option (Int32 × xM)) (Hk29 : ∀ (M : xM), k29 M = some z0 → xG Y l X (wC Y ad fr) M 29 [(0, .ref (ad 27)), (1, .int v1), (2, .int v2)] []) : ∀ (n : Nat) (M : xM) (v3 : Int32), fX1_deliver_L7 v1 v2 k29 n M v3 = some z0 → xG Y l X (wC Y ad fr) M 7 [(0, .ref (ad 27)), (1, .int v1), (2, .int v2), (3, .int v3)] [] := by
  intro n
  induction n with
  | zero =>
    intro M v3 hf
    cases hf
  | succ n ih =>
    intro M v3 hf
    exact tX1_deliver_B7 C HQ  v1 v2 _ Hk29 M v3 _ (fun M v3 hf => ih M v3 hf) hf
set_option maxRecDepth 20000 in
set_option maxHeartbeats 1000000 in
theorem tX1_deliver_B45 {l : Launch} {Y : xY} {X : xE} {ad : Nat → Nat} {fr : va_W} {z0 : Int32 × xM} (C : xC Y X cX1_deliver RX1 (some .int) 4 5 118) (HQ : xRI Y X (wC Y ad fr) z0.1 z0.2)  (v1 : Int32) (v2 : Int32) (k83 : xM → Option (Int32 × xM)) (Hk83 : ∀ (M : xM), k83 M = some z0 → xG Y l X (wC Y ad fr) M 83 [(0, .ref (ad 27))] []) (M : xM) (v3 : Int32) (b45 : xM → Int32 → Option (Int32 × xM)) (Hb45 : ∀ (M : xM) (v3 : Int32), b45 M v3 = some z0 → xG Y l X (wC Y ad fr) M 45 [(0, .ref (ad 27)), (1, .int v1), (2, .int v2), (3, .int v3)] []) (hf : fX1_deliver_B45 v1 v2 k83 M v3 b45 = some z0) : xG Y l X (wC Y ad fr) M 45 [(0, .ref (ad 27)), (1, .int v1), (2, .int v2), (3, .int v3)] [] := by
  unfold fX1_deliver_B45 at hf
  refine x_ilN 46 C dX1_deliver_45 3 rfl rfl rfl ?_
  refine x_alN 47 C dX1_deliver_46 0 rfl rfl rfl ?_
  refine xgX1_3 50 C mq_246 dX1_deliver_47 rfl ?_
  refine x_icmp_ge 53 C 83 dX1_deliver_50 (by decide) rfl hf (fun hf => ?_) (fun hf => ?_)
  ·
    refine x_sub [0] rfl ?_
    exact Hk83 _ hf
  ·
    refine x_ilN 54 C dX1_deliver_53 3 rfl rfl rfl ?_
    refine x_bipush 56 C (nI 64) dX1_deliver_54 kb_64 rfl ?_
    refine x_icmp_ge 59 C 83 dX1_deliver_56 (by decide) rfl hf (fun hf => ?_) (fun hf => ?_)
    ·
      refine x_sub [0] rfl ?_
      exact Hk83 _ hf
    ·
      refine x_alN 60 C dX1_deliver_59 0 rfl rfl rfl ?_
      refine x_alN 61 C dX1_deliver_60 0 rfl rfl rfl ?_
      refine xgX1_1 64 C mq_244 dX1_deliver_61 rfl ?_
      refine x_ilN 65 C dX1_deliver_64 3 rfl rfl rfl ?_
      refine xrC_28 66 C dX1_deliver_65 rfl hf (fun x6 hf => ?_)
      refine x_alN 67 C dX1_deliver_66 0 rfl rfl rfl ?_
      refine xgX1_2 70 C mq_245 dX1_deliver_67 rfl ?_
      refine x_ilN 71 C dX1_deliver_70 3 rfl rfl rfl ?_
      refine xrC_29 72 C dX1_deliver_71 rfl hf (fun x7 hf => ?_)
      refine x_ilN 73 C dX1_deliver_72 1 rfl rfl rfl ?_
      refine x_ilN 74 C dX1_deliver_73 2 rfl rfl rfl ?_
      refine x_cvVM 77 C [.int x6, .int x7, .int v1, .int v2] hwX1_visitPorts mq_596 dX1_deliver_74 rfl ⟨Nat.le_of_ble_eq_true rfl, Nat.le_of_ble_eq_true rfl⟩ 27 wC_at_27 rfl rfl rfl (Nat.le_of_ble_eq_true rfl) (fun z hz => tX1_visitPorts hz) hf (fun z8 hf => ?_)
      refine x_iinc 80 C (v3 + (nI 1)) (lv2 := [(3, .int (v3 + (nI 1))), (0, .ref (ad 27)), (1, .int v1), (2, .int v2)]) dX1_deliver_77 3 rfl rfl rfl (Nat.le_of_ble_eq_true rfl) rfl ?_
      refine x_goto 45 C dX1_deliver_80 (by decide) ?_
      refine x_sub [1, 2, 3, 0] rfl ?_
      exact Hb45 _ _ hf
set_option maxRecDepth 20000 in
set_option maxHeartbeats 1000000 in
theorem tX1_deliver_L45 {l : Launch} {Y : xY} {X : xE} {ad : Nat → Nat} {fr : va_W} {z0 : Int32 × xM} (C : xC Y X cX1_deliver RX1 (some .int) 4 5 118) (HQ : xRI Y X (wC Y ad fr) z0.1 z0.2)  (v1 : Int32) (v2 : Int32) (k83 : xM → Option (Int32 × xM)) (Hk83 : ∀ (M : xM), k83 M = some z0 → xG Y l X (wC Y ad fr) M 83 [(0, .ref (ad 27))] []) : ∀ (n : Nat) (M : xM) (v3 : Int32), fX1_deliver_L45 v1 v2 k83 n M v3 = some z0 → xG Y l X (wC Y ad fr) M 45 [(0, .ref (ad 27)), (1, .int v1), (2, .int v2), (3, .int v3)] [] := by
  intro n
  induction n with
  | zero =>
    intro M v3 hf
    cases hf
  | succ n ih =>
    intro M v3 hf
    exact tX1_deliver_B45 C HQ  v1 v2 _ Hk83 M v3 _ (fun M v3 hf => ih M v3 hf) hf
set_option maxRecDepth 20000 in
set_option maxHeartbeats 1000000 in
theorem tX1_deliver_j83 {l : Launch} {Y : xY} {X : xE} {ad : Nat → Nat} {fr : va_W} {z0 : Int32 × xM} (C : xC Y X cX1_deliver RX1 (some .int) 4 5 118) (HQ : xRI Y X (wC Y ad fr) z0.1 z0.2) (M : xM)   (hf : fX1_deliver_j83 M = some z0) : xG Y l X (wC Y ad fr) M 83 [(0, .ref (ad 27))] [] := by
  unfold fX1_deliver_j83 at hf
  refine x_alN 84 C dX1_deliver_83 0 rfl rfl rfl ?_
  refine xgX1_3 87 C mq_246 dX1_deliver_84 rfl ?_
  exact x_iretM C HQ rfl (vp_nar_int _) dX1_deliver_87 hf
set_option maxRecDepth 20000 in
set_option maxHeartbeats 1000000 in
theorem tX1_deliver {l : Launch} {Y : xY} {ad : Nat → Nat} {fr : va_W} {M : xM} {p1 : Int32} {p2 : Int32} {z0 : Int32 × xM} (hf : fX1_deliver M p1 p2 = some z0) : xcI l Y (wC Y ad fr) yX1_deliver cX1_deliver 4 (some .int) 5 118 [.ref (ad 27), .int p1, .int p2] M z0.1 z0.2 := by
  refine x_entryI [(0, .ref (ad 27)), (1, .int p1), (2, .int p2)] pnX1 rfl (Nat.le_of_ble_eq_true rfl) rfl (fun X C HQ => ?_)
  unfold fX1_deliver at hf
  refine x_alN 1 C dX1_deliver_0 0 rfl rfl rfl ?_
  refine x_iconst 2 C (nI 0) dX1_deliver_1 ki_0 rfl ?_
  refine xpX1_3 5 C mq_246 dX1_deliver_2 rfl hf (fun M1 hf => ?_)
  refine x_iconst 6 C (nI 0) dX1_deliver_5 ki_0 rfl ?_
  refine x_isN 7 C 3 (lv2 := [(3, .int (nI 0)), (0, .ref (ad 27)), (1, .int p1), (2, .int p2)]) dX1_deliver_6 rfl rfl (Nat.le_of_ble_eq_true rfl) rfl ?_
  refine x_sub [1, 2, 3, 0] rfl ?_
  refine tX1_deliver_L7 C HQ _ _ _ (fun M3 hf => ?_) 512 _ _ hf
  refine x_alN 30 C dX1_deliver_29 0 rfl rfl rfl ?_
  refine x_alN 31 C dX1_deliver_30 0 rfl rfl rfl ?_
  refine xgX1_0 34 C mq_243 dX1_deliver_31 rfl ?_
  refine xgX3_15 37 C mq_130 dX1_deliver_34 rfl ?_
  refine x_ilN 38 C dX1_deliver_37 1 rfl rfl rfl ?_
  refine xrC_11 39 C dX1_deliver_38 rfl hf (fun x4 hf => ?_)
  refine x_iconst 40 C (-1) dX1_deliver_39 ki_m1 rfl ?_
  refine x_cvVM 43 C [.int x4, .int (-1)] hwX1_transmit mq_592 dX1_deliver_40 rfl ⟨Nat.le_of_ble_eq_true rfl, Nat.le_of_ble_eq_true rfl⟩ 27 wC_at_27 rfl rfl rfl (Nat.le_of_ble_eq_true rfl) (fun z hz => tX1_transmit hz) hf (fun z5 hf => ?_)
  refine x_iconst 44 C (nI 0) dX1_deliver_43 ki_0 rfl ?_
  refine x_isN 45 C 3 (lv2 := [(3, .int (nI 0)), (0, .ref (ad 27)), (1, .int p1), (2, .int p2)]) dX1_deliver_44 rfl rfl (Nat.le_of_ble_eq_true rfl) rfl ?_
  refine x_sub [1, 2, 3, 0] rfl ?_
  refine tX1_deliver_L45 C HQ _ _ _ (fun M9 hf => ?_) 512 _ _ hf
  exact tX1_deliver_j83 C HQ _   hf
set_option maxRecDepth 20000 in
set_option maxHeartbeats 1000000 in
theorem tX4_ageToSend {l : Launch} {Y : xY} {ad : Nat → Nat} {fr : va_W} {M : xM} {p1 : Int32} {z0 : Int32} (hf : fX4_ageToSend M p1 = some z0) : xcI l Y (wC Y ad fr) yX4_ageToSend cX4_ageToSend 3 (some .int) 0 0 [.ref (ad 22), .int p1] M z0 M := by
  refine x_entryI [(0, .ref (ad 22)), (1, .int p1)] pnX4 rfl (Nat.le_of_ble_eq_true rfl) rfl (fun X C HQ => ?_)
  unfold fX4_ageToSend at hf
  refine x_alN 1 C dX4_ageToSend_0 0 rfl rfl rfl ?_
  refine xgX4_1 4 C mq_219 dX4_ageToSend_1 rfl ?_
  refine xgX0_3 7 C mq_190 dX4_ageToSend_4 rfl ?_
  refine x_alN 8 C dX4_ageToSend_7 0 rfl rfl rfl ?_
  refine xgX4_0 11 C mq_218 dX4_ageToSend_8 rfl ?_
  refine xgX3_7 14 C mq_104 dX4_ageToSend_11 rfl ?_
  refine x_ilN 15 C dX4_ageToSend_14 1 rfl rfl rfl ?_
  refine xrC_3 16 C dX4_ageToSend_15 rfl hf (fun x1 hf => ?_)
  refine xrC_18 17 C dX4_ageToSend_16 rfl hf (fun x2 hf => ?_)
  refine x_isN 18 C 2 (lv2 := [(2, .int x2), (0, .ref (ad 22)), (1, .int p1)]) dX4_ageToSend_17 rfl rfl (Nat.le_of_ble_eq_true rfl) rfl ?_
  refine x_ilN 19 C dX4_ageToSend_18 0 rfl rfl rfl ?_
  refine x_iconst 20 C (-1) dX4_ageToSend_19 ki_m1 rfl ?_
  refine x_icmp_ne 23 C 27 dX4_ageToSend_20 (by decide) rfl hf (fun hf => ?_) (fun hf => ?_)
  ·
    refine x_bipush 29 C (nI 7) dX4_ageToSend_27 kb_7 rfl ?_
    refine x_alN 30 C dX4_ageToSend_29 1 rfl rfl rfl ?_
    refine xgX4_0 33 C mq_218 dX4_ageToSend_30 rfl ?_
    refine xgX3_14 36 C mq_127 dX4_ageToSend_33 rfl ?_
    refine x_ilN 37 C dX4_ageToSend_36 0 rfl rfl rfl ?_
    refine xrC_10 38 C dX4_ageToSend_37 rfl hf (fun x3 hf => ?_)
    refine x_isub 39 C dX4_ageToSend_38 rfl ?_
    exact x_iretP C HQ rfl (vp_nar_int _) dX4_ageToSend_39 hf
  ·
    refine x_iconst 24 C (nI 0) dX4_ageToSend_23 ki_0 rfl ?_
    refine x_goto 39 C dX4_ageToSend_24 (by decide) ?_
    exact x_iretP C HQ rfl (vp_nar_int _) dX4_ageToSend_39 hf
set_option maxRecDepth 20000 in
set_option maxHeartbeats 1000000 in
theorem tX4_isBetterSender {l : Launch} {Y : xY} {ad : Nat → Nat} {fr : va_W} {M : xM} {p1 : Int32} {p2 : Int32} {z0 : Int32} (hf : fX4_isBetterSender M p1 p2 = some z0) : xcI l Y (wC Y ad fr) yX4_isBetterSender cX4_isBetterSender 3 (some .boolean) 0 0 [.ref (ad 22), .int p1, .int p2] M z0 M := by
  refine x_entryI [(0, .ref (ad 22)), (1, .int p1), (2, .int p2)] pnX4 rfl (Nat.le_of_ble_eq_true rfl) rfl (fun X C HQ => ?_)
  unfold fX4_isBetterSender at hf
  refine x_ilN 1 C dX4_isBetterSender_0 2 rfl rfl rfl ?_
  refine x_iconst 2 C (-1) dX4_isBetterSender_1 ki_m1 rfl ?_
  refine x_icmp_eq 5 C 21 dX4_isBetterSender_2 (by decide) rfl hf (fun hf => ?_) (fun hf => ?_)
  ·
    refine x_iconst 22 C (nI 1) dX4_isBetterSender_21 ki_1 rfl ?_
    refine x_goto 26 C dX4_isBetterSender_22 (by decide) ?_
    exact x_iretP C HQ rfl rfl dX4_isBetterSender_26 hf
  ·
    refine x_alN 6 C dX4_isBetterSender_5 0 rfl rfl rfl ?_
    refine xgX4_2 9 C mq_220 dX4_isBetterSender_6 rfl ?_
    refine x_ilN 10 C dX4_isBetterSender_9 1 rfl rfl rfl ?_
    refine xrC_23 11 C dX4_isBetterSender_10 rfl hf (fun x1 hf => ?_)
    refine x_alN 12 C dX4_isBetterSender_11 0 rfl rfl rfl ?_
    refine xgX4_2 15 C mq_220 dX4_isBetterSender_12 rfl ?_
    refine x_ilN 16 C dX4_isBetterSender_15 2 rfl rfl rfl ?_
    refine xrC_23 17 C dX4_isBetterSender_16 rfl hf (fun x2 hf => ?_)
    refine x_lcmp 18 C dX4_isBetterSender_17 rfl ?_
    refine x_if_ge 21 C 25 dX4_isBetterSender_18 (by decide) rfl hf (fun hf => ?_) (fun hf => ?_)
    ·
      refine x_iconst 26 C (nI 0) dX4_isBetterSender_25 ki_0 rfl ?_
      exact x_iretP C HQ rfl rfl dX4_isBetterSender_26 hf
    ·
      refine x_iconst 22 C (nI 1) dX4_isBetterSender_21 ki_1 rfl ?_
      refine x_goto 26 C dX4_isBetterSender_22 (by decide) ?_
      exact x_iretP C HQ rfl rfl dX4_isBetterSender_26 hf
set_option maxRecDepth 20000 in
set_option maxHeartbeats 1000000 in
theorem tX4_rankSender {l : Launch} {Y : xY} {ad : Nat → Nat} {fr : va_W} {M : xM} {p1 : Int32} {z0 : xM} (hf : fX4_rankSender M p1 = some z0) : xcV l Y (wC Y ad fr) yX4_rankSender cX4_rankSender 3 none 1 22 [.ref (ad 22), .int p1] M z0 := by
  refine x_entryV [(0, .ref (ad 22)), (1, .int p1)] pnX4 rfl (Nat.le_of_ble_eq_true rfl) rfl (fun X C HQ => ?_)
  unfold fX4_rankSender at hf
  refine x_alN 1 C dX4_rankSender_0 0 rfl rfl rfl ?_
  refine xgX4_0 4 C mq_218 dX4_rankSender_1 rfl ?_
  refine xgX3_8 7 C mq_110 dX4_rankSender_4 rfl ?_
  refine x_ilN 8 C dX4_rankSender_7 1 rfl rfl rfl ?_
  refine xrC_4 9 C dX4_rankSender_8 rfl hf (fun x1 hf => ?_)
  refine x_isN 10 C 2 (lv2 := [(2, .int x1), (0, .ref (ad 22)), (1, .int p1)]) dX4_rankSender_9 rfl rfl (Nat.le_of_ble_eq_true rfl) rfl ?_
  refine x_alN 11 C dX4_rankSender_10 1 rfl rfl rfl ?_
  refine x_ilN 12 C dX4_rankSender_11 2 rfl rfl rfl ?_
  refine x_alN 13 C dX4_rankSender_12 1 rfl rfl rfl ?_
  refine xgX4_4 16 C mq_222 dX4_rankSender_13 rfl ?_
  refine x_ilN 17 C dX4_rankSender_16 0 rfl rfl rfl ?_
  refine xrC_25 18 C dX4_rankSender_17 rfl hf (fun x2 hf => ?_)
  refine x_cvIP 21 C [.int p1, .int x2] hwX4_isBetterSender mq_466 dX4_rankSender_18 rfl ⟨Nat.le_of_ble_eq_true rfl, Nat.le_of_ble_eq_true rfl⟩ 22 wC_at_22 rfl rfl rfl (Nat.le_of_ble_eq_true rfl) (fun z hz => tX4_isBetterSender hz) hf (fun z3 hf => ?_)
  refine x_if_eq 24 C 46 dX4_rankSender_21 (by decide) rfl hf (fun hf => ?_) (fun hf => ?_)
  ·
    refine x_alN 47 C dX4_rankSender_46 1 rfl rfl rfl ?_
    refine x_ilN 48 C dX4_rankSender_47 2 rfl rfl rfl ?_
    refine x_alN 49 C dX4_rankSender_48 1 rfl rfl rfl ?_
    refine xgX4_5 52 C mq_223 dX4_rankSender_49 rfl ?_
    refine x_ilN 53 C dX4_rankSender_52 0 rfl rfl rfl ?_
    refine xrC_26 54 C dX4_rankSender_53 rfl hf (fun x4 hf => ?_)
    refine x_cvIP 57 C [.int p1, .int x4] hwX4_isBetterSender mq_466 dX4_rankSender_54 rfl ⟨Nat.le_of_ble_eq_true rfl, Nat.le_of_ble_eq_true rfl⟩ 22 wC_at_22 rfl rfl rfl (Nat.le_of_ble_eq_true rfl) (fun z hz => tX4_isBetterSender hz) hf (fun z5 hf => ?_)
    refine x_if_eq 60 C 67 dX4_rankSender_57 (by decide) rfl hf (fun hf => ?_) (fun hf => ?_)
    ·
      exact x_vret C HQ rfl dX4_rankSender_67 hf
    ·
      refine x_alN 61 C dX4_rankSender_60 1 rfl rfl rfl ?_
      refine xgX4_5 64 C mq_223 dX4_rankSender_61 rfl ?_
      refine x_ilN 65 C dX4_rankSender_64 0 rfl rfl rfl ?_
      refine x_ilN 66 C dX4_rankSender_65 2 rfl rfl rfl ?_
      refine xwC_26 67 C dX4_rankSender_66 rfl hf (fun M6 hf => ?_)
      exact x_vret C HQ rfl dX4_rankSender_67 hf
  ·
    refine x_alN 25 C dX4_rankSender_24 1 rfl rfl rfl ?_
    refine xgX4_5 28 C mq_223 dX4_rankSender_25 rfl ?_
    refine x_ilN 29 C dX4_rankSender_28 0 rfl rfl rfl ?_
    refine x_alN 30 C dX4_rankSender_29 1 rfl rfl rfl ?_
    refine xgX4_4 33 C mq_222 dX4_rankSender_30 rfl ?_
    refine x_ilN 34 C dX4_rankSender_33 0 rfl rfl rfl ?_
    refine xrC_25 35 C dX4_rankSender_34 rfl hf (fun x7 hf => ?_)
    refine xwC_26 36 C dX4_rankSender_35 rfl hf (fun M8 hf => ?_)
    refine x_alN 37 C dX4_rankSender_36 1 rfl rfl rfl ?_
    refine xgX4_4 40 C mq_222 dX4_rankSender_37 rfl ?_
    refine x_ilN 41 C dX4_rankSender_40 0 rfl rfl rfl ?_
    refine x_ilN 42 C dX4_rankSender_41 2 rfl rfl rfl ?_
    refine xwC_25 43 C dX4_rankSender_42 rfl hf (fun M9 hf => ?_)
    refine x_goto 67 C dX4_rankSender_43 (by decide) ?_
    exact x_vret C HQ rfl dX4_rankSender_67 hf
set_option maxRecDepth 20000 in
set_option maxHeartbeats 1000000 in
theorem tX4_sendMessages_B2 {l : Launch} {Y : xY} {X : xE} {ad : Nat → Nat} {fr : va_W} {z0 : xM} (C : xC Y X cX4_sendMessages RX4 none 3 2 45) (HQ : xRV Y X (wC Y ad fr) z0)   (k33 : xM → Option (xM)) (Hk33 : ∀ (M : xM), k33 M = some z0 → xG Y l X (wC Y ad fr) M 33 [(0, .ref (ad 22))] []) (M : xM) (v1 : Int32) (b2 : xM → Int32 → Option (xM)) (Hb2 : ∀ (M : xM) (v1 : Int32), b2 M v1 = some z0 → xG Y l X (wC Y ad fr) M 2 [(0, .ref (ad 22)), (1, .int v1)] []) (hf : fX4_sendMessages_B2 k33 M v1 b2 = some z0) : xG Y l X (wC Y ad fr) M 2 [(0, .ref (ad 22)), (1, .int v1)] [] := by
  unfold fX4_sendMessages_B2 at hf
  refine x_ilN 3 C dX4_sendMessages_2 1 rfl rfl rfl ?_
  refine x_alN 4 C dX4_sendMessages_3 0 rfl rfl rfl ?_
  refine xgX4_0 7 C mq_218 dX4_sendMessages_4 rfl ?_
  refine xgX3_1 10 C mq_87 dX4_sendMessages_7 rfl ?_
  refine x_icmp_ge 13 C 33 dX4_sendMessages_10 (by decide) rfl hf (fun hf => ?_) (fun hf => ?_)
  ·
    refine x_sub [0] rfl ?_
    exact Hk33 _ hf
  ·
    refine x_alN 14 C dX4_sendMessages_13 0 rfl rfl rfl ?_
    refine xgX4_4 17 C mq_222 dX4_sendMessages_14 rfl ?_
    refine x_ilN 18 C dX4_sendMessages_17 1 rfl rfl rfl ?_
    refine x_iconst 19 C (-1) dX4_sendMessages_18 ki_m1 rfl ?_
    refine xwC_25 20 C dX4_sendMessages_19 rfl hf (fun M1 hf => ?_)
    refine x_alN 21 C dX4_sendMessages_20 0 rfl rfl rfl ?_
    refine xgX4_5 24 C mq_223 dX4_sendMessages_21 rfl ?_
    refine x_ilN 25 C dX4_sendMessages_24 1 rfl rfl rfl ?_
    refine x_iconst 26 C (-1) dX4_sendMessages_25 ki_m1 rfl ?_
    refine xwC_26 27 C dX4_sendMessages_26 rfl hf (fun M2 hf => ?_)
    refine x_iinc 30 C (v1 + (nI 1)) (lv2 := [(1, .int (v1 + (nI 1))), (0, .ref (ad 22))]) dX4_sendMessages_27 1 rfl rfl rfl (Nat.le_of_ble_eq_true rfl) rfl ?_
    refine x_goto 2 C dX4_sendMessages_30 (by decide) ?_
    refine x_sub [1, 0] rfl ?_
    exact Hb2 _ _ hf
set_option maxRecDepth 20000 in
set_option maxHeartbeats 1000000 in
theorem tX4_sendMessages_L2 {l : Launch} {Y : xY} {X : xE} {ad : Nat → Nat} {fr : va_W} {z0 : xM} (C : xC Y X cX4_sendMessages RX4 none 3 2 45) (HQ : xRV Y X (wC Y ad fr) z0)   (k33 : xM → Option (xM)) (Hk33 : ∀ (M : xM), k33 M = some z0 → xG Y l X (wC Y ad fr) M 33 [(0, .ref (ad 22))] []) : ∀ (n : Nat) (M : xM) (v1 : Int32), fX4_sendMessages_L2 k33 n M v1 = some z0 → xG Y l X (wC Y ad fr) M 2 [(0, .ref (ad 22)), (1, .int v1)] [] := by
  intro n
  induction n with
  | zero =>
    intro M v1 hf
    cases hf
  | succ n ih =>
    intro M v1 hf
    exact tX4_sendMessages_B2 C HQ   _ Hk33 M v1 _ (fun M v1 hf => ih M v1 hf) hf
set_option maxRecDepth 20000 in
set_option maxHeartbeats 1000000 in
theorem tX4_sendMessages_B35 {l : Launch} {Y : xY} {X : xE} {ad : Nat → Nat} {fr : va_W} {z0 : xM} (C : xC Y X cX4_sendMessages RX4 none 3 2 45) (HQ : xRV Y X (wC Y ad fr) z0)   (k102 : xM → Option (xM)) (Hk102 : ∀ (M : xM), k102 M = some z0 → xG Y l X (wC Y ad fr) M 102 [] []) (M : xM) (v1 : Int32) (b35 : xM → Int32 → Option (xM)) (Hb35 : ∀ (M : xM) (v1 : Int32), b35 M v1 = some z0 → xG Y l X (wC Y ad fr) M 35 [(0, .ref (ad 22)), (1, .int v1)] []) (hf : fX4_sendMessages_B35 k102 M v1 b35 = some z0) : xG Y l X (wC Y ad fr) M 35 [(0, .ref (ad 22)), (1, .int v1)] [] := by
  unfold fX4_sendMessages_B35 at hf
  refine x_ilN 36 C dX4_sendMessages_35 1 rfl rfl rfl ?_
  refine x_alN 37 C dX4_sendMessages_36 0 rfl rfl rfl ?_
  refine xgX4_0 40 C mq_218 dX4_sendMessages_37 rfl ?_
  refine xgX3_2 43 C mq_89 dX4_sendMessages_40 rfl ?_
  refine x_icmp_ge 46 C 102 dX4_sendMessages_43 (by decide) rfl hf (fun hf => ?_) (fun hf => ?_)
  ·
    refine x_sub [] rfl ?_
    exact Hk102 _ hf
  ·
    refine x_alN 47 C dX4_sendMessages_46 0 rfl rfl rfl ?_
    refine x_ilN 48 C dX4_sendMessages_47 1 rfl rfl rfl ?_
    refine x_cvIP 51 C [.int v1] hwX4_ageToSend mq_457 dX4_sendMessages_48 rfl ⟨Nat.le_of_ble_eq_true rfl, Nat.le_of_ble_eq_true rfl⟩ 22 wC_at_22 rfl rfl rfl (Nat.le_of_ble_eq_true rfl) (fun z hz => tX4_ageToSend hz) hf (fun z4 hf => ?_)
    refine x_isN 52 C 2 (lv2 := [(2, .int z4), (0, .ref (ad 22)), (1, .int v1)]) dX4_sendMessages_51 rfl rfl (Nat.le_of_ble_eq_true rfl) rfl ?_
    refine x_alN 53 C dX4_sendMessages_52 1 rfl rfl rfl ?_
    refine xgX4_1 56 C mq_219 dX4_sendMessages_53 rfl ?_
    refine xgX0_4 59 C mq_193 dX4_sendMessages_56 rfl ?_
    refine x_ilN 60 C dX4_sendMessages_59 2 rfl rfl rfl ?_
    refine xrC_19 61 C dX4_sendMessages_60 rfl hf (fun x5 hf => ?_)
    refine x_iconst 62 C (nI 2) dX4_sendMessages_61 ki_2 rfl ?_
    refine x_icmp_ne 65 C 96 dX4_sendMessages_62 (by decide) rfl hf (fun hf => ?_) (fun hf => ?_)
    ·
      refine x_iinc 99 C (v1 + (nI 1)) (lv2 := [(1, .int (v1 + (nI 1))), (2, .int z4), (0, .ref (ad 22))]) dX4_sendMessages_96 2 rfl rfl rfl (Nat.le_of_ble_eq_true rfl) rfl ?_
      refine x_goto 35 C dX4_sendMessages_99 (by decide) ?_
      refine x_sub [2, 0] rfl ?_
      exact Hb35 _ _ hf
    ·
      refine x_ilN 66 C dX4_sendMessages_65 0 rfl rfl rfl ?_
      refine x_iconst 67 C (nI 5) dX4_sendMessages_66 ki_5 rfl ?_
      refine x_icmp_gt 70 C 96 dX4_sendMessages_67 (by decide) rfl hf (fun hf => ?_) (fun hf => ?_)
      ·
        refine x_iinc 99 C (v1 + (nI 1)) (lv2 := [(1, .int (v1 + (nI 1))), (2, .int z4), (0, .ref (ad 22))]) dX4_sendMessages_96 2 rfl rfl rfl (Nat.le_of_ble_eq_true rfl) rfl ?_
        refine x_goto 35 C dX4_sendMessages_99 (by decide) ?_
        refine x_sub [2, 0] rfl ?_
        exact Hb35 _ _ hf
      ·
        refine x_alN 71 C dX4_sendMessages_70 1 rfl rfl rfl ?_
        refine xgX4_2 74 C mq_220 dX4_sendMessages_71 rfl ?_
        refine x_ilN 75 C dX4_sendMessages_74 2 rfl rfl rfl ?_
        refine x_alN 76 C dX4_sendMessages_75 1 rfl rfl rfl ?_
        refine xgX4_1 79 C mq_219 dX4_sendMessages_76 rfl ?_
        refine x_ilN 80 C dX4_sendMessages_79 2 rfl rfl rfl ?_
        refine x_cvLP 83 C [.int v1] hwX0_ownMessage mq_461 dX4_sendMessages_80 rfl ⟨Nat.le_of_ble_eq_true rfl, Nat.le_of_ble_eq_true rfl⟩ 15 wC_at_15 rfl rfl rfl (Nat.le_of_ble_eq_true rfl) (fun z hz => tX0_ownMessage hz) hf (fun z6 hf => ?_)
        refine xwC_23 84 C dX4_sendMessages_83 rfl hf (fun M7 hf => ?_)
        refine x_alN 85 C dX4_sendMessages_84 1 rfl rfl rfl ?_
        refine xgX4_3 88 C mq_221 dX4_sendMessages_85 rfl ?_
        refine x_ilN 89 C dX4_sendMessages_88 2 rfl rfl rfl ?_
        refine x_ilN 90 C dX4_sendMessages_89 0 rfl rfl rfl ?_
        refine xwC_24 91 C dX4_sendMessages_90 rfl hf (fun M8 hf => ?_)
        refine x_alN 92 C dX4_sendMessages_91 1 rfl rfl rfl ?_
        refine x_ilN 93 C dX4_sendMessages_92 2 rfl rfl rfl ?_
        refine x_cvVM 96 C [.int v1] hwX4_rankSender mq_462 dX4_sendMessages_93 rfl ⟨Nat.le_of_ble_eq_true rfl, Nat.le_of_ble_eq_true rfl⟩ 22 wC_at_22 rfl rfl rfl (Nat.le_of_ble_eq_true rfl) (fun z hz => tX4_rankSender hz) hf (fun z9 hf => ?_)
        refine x_iinc 99 C (v1 + (nI 1)) (lv2 := [(1, .int (v1 + (nI 1))), (2, .int z4), (0, .ref (ad 22))]) dX4_sendMessages_96 2 rfl rfl rfl (Nat.le_of_ble_eq_true rfl) rfl ?_
        refine x_goto 35 C dX4_sendMessages_99 (by decide) ?_
        refine x_sub [2, 0] rfl ?_
        exact Hb35 _ _ hf
set_option maxRecDepth 20000 in
set_option maxHeartbeats 1000000 in
theorem tX4_sendMessages_L35 {l : Launch} {Y : xY} {X : xE} {ad : Nat → Nat} {fr : va_W} {z0 : xM} (C : xC Y X cX4_sendMessages RX4 none 3 2 45) (HQ : xRV Y X (wC Y ad fr) z0)   (k102 : xM → Option (xM)) (Hk102 : ∀ (M : xM), k102 M = some z0 → xG Y l X (wC Y ad fr) M 102 [] []) : ∀ (n : Nat) (M : xM) (v1 : Int32), fX4_sendMessages_L35 k102 n M v1 = some z0 → xG Y l X (wC Y ad fr) M 35 [(0, .ref (ad 22)), (1, .int v1)] [] := by
  intro n
  induction n with
  | zero =>
    intro M v1 hf
    cases hf
  | succ n ih =>
    intro M v1 hf
    exact tX4_sendMessages_B35 C HQ   _ Hk102 M v1 _ (fun M v1 hf => ih M v1 hf) hf
set_option maxRecDepth 20000 in
set_option maxHeartbeats 1000000 in
theorem tX4_sendMessages {l : Launch} {Y : xY} {ad : Nat → Nat} {fr : va_W} {M : xM}  {z0 : xM} (hf : fX4_sendMessages M = some z0) : xcV l Y (wC Y ad fr) yX4_sendMessages cX4_sendMessages 3 none 2 45 [.ref (ad 22)] M z0 := by
  refine x_entryV [(0, .ref (ad 22))] pnX4 rfl (Nat.le_of_ble_eq_true rfl) rfl (fun X C HQ => ?_)
  unfold fX4_sendMessages at hf
  refine x_iconst 1 C (nI 0) dX4_sendMessages_0 ki_0 rfl ?_
  refine x_isN 2 C 1 (lv2 := [(1, .int (nI 0)), (0, .ref (ad 22))]) dX4_sendMessages_1 rfl rfl (Nat.le_of_ble_eq_true rfl) rfl ?_
  refine x_sub [1, 0] rfl ?_
  refine tX4_sendMessages_L2 C HQ  _ (fun M3 hf => ?_) 512 _ _ hf
  refine x_iconst 34 C (nI 0) dX4_sendMessages_33 ki_0 rfl ?_
  refine x_isN 35 C 1 (lv2 := [(1, .int (nI 0)), (0, .ref (ad 22))]) dX4_sendMessages_34 rfl rfl (Nat.le_of_ble_eq_true rfl) rfl ?_
  refine x_sub [1, 0] rfl ?_
  refine tX4_sendMessages_L35 C HQ  _ (fun M10 hf => ?_) 512 _ _ hf
  exact x_vret C HQ rfl dX4_sendMessages_102 hf
set_option maxRecDepth 20000 in
set_option maxHeartbeats 1000000 in
theorem tX4_accepts {l : Launch} {Y : xY} {ad : Nat → Nat} {fr : va_W} {M : xM} {p1 : Int32} {p2 : Int64} {z0 : Int32} (hf : fX4_accepts M p1 p2 = some z0) : xcI l Y (wC Y ad fr) yX4_accepts cX4_accepts 6 (some .boolean) 1 23 [.ref (ad 22), .int p1, .long p2] M z0 M := by
  refine x_entryI [(0, .ref (ad 22)), (1, .int p1), (2, .long p2)] pnX4 rfl (Nat.le_of_ble_eq_true rfl) rfl (fun X C HQ => ?_)
  unfold fX4_accepts at hf
  refine x_alN 1 C dX4_accepts_0 0 rfl rfl rfl ?_
  refine xgX4_0 4 C mq_218 dX4_accepts_1 rfl ?_
  refine x_ilN 5 C dX4_accepts_4 1 rfl rfl rfl ?_
  refine x_cvIP 8 C [.int p1] hwX3_storesMessage mq_479 dX4_accepts_5 rfl ⟨Nat.le_of_ble_eq_true rfl, Nat.le_of_ble_eq_true rfl⟩ 0 wC_at_0 rfl rfl rfl (Nat.le_of_ble_eq_true rfl) (fun z hz => tX3_storesMessage hz) hf (fun z1 hf => ?_)
  refine x_if_ne 11 C 13 dX4_accepts_8 (by decide) rfl hf (fun hf => ?_) (fun hf => ?_)
  ·
    refine x_alN 14 C dX4_accepts_13 0 rfl rfl rfl ?_
    refine xgX4_0 17 C mq_218 dX4_accepts_14 rfl ?_
    refine xgX3_13 20 C mq_124 dX4_accepts_17 rfl ?_
    refine x_ilN 21 C dX4_accepts_20 1 rfl rfl rfl ?_
    refine xrC_9 22 C dX4_accepts_21 rfl hf (fun x2 hf => ?_)
    refine x_ls 24 C 4 (lv2 := [(4, .long x2), (0, .ref (ad 22)), (1, .int p1), (2, .long p2)]) dX4_accepts_22 rfl (Nat.le_of_ble_eq_true rfl) rfl ?_
    refine x_llN 25 C dX4_accepts_24 3 rfl rfl rfl ?_
    refine x_ll 27 C dX4_accepts_25 0 rfl rfl ?_
    refine x_lcmp 28 C dX4_accepts_27 rfl ?_
    refine x_if_le 31 C 40 dX4_accepts_28 (by decide) rfl hf (fun hf => ?_) (fun hf => ?_)
    ·
      refine x_iconst 41 C (nI 1) dX4_accepts_40 ki_1 rfl ?_
      refine x_goto 45 C dX4_accepts_41 (by decide) ?_
      exact x_iretP C HQ rfl rfl dX4_accepts_45 hf
    ·
      refine x_llN 32 C dX4_accepts_31 3 rfl rfl rfl ?_
      refine x_ll 34 C dX4_accepts_32 0 rfl rfl ?_
      refine x_csIP 37 C [.long p2, .long x2] hwX2_haveSameSource mq_480 dX4_accepts_34 rfl ⟨Nat.le_of_ble_eq_true rfl, Nat.le_of_ble_eq_true rfl⟩ rfl rfl (Nat.le_of_ble_eq_true rfl) (fun z hz => tX2_haveSameSource hz) hf (fun z3 hf => ?_)
      refine x_if_eq 40 C 44 dX4_accepts_37 (by decide) rfl hf (fun hf => ?_) (fun hf => ?_)
      ·
        refine x_iconst 45 C (nI 0) dX4_accepts_44 ki_0 rfl ?_
        exact x_iretP C HQ rfl rfl dX4_accepts_45 hf
      ·
        refine x_iconst 41 C (nI 1) dX4_accepts_40 ki_1 rfl ?_
        refine x_goto 45 C dX4_accepts_41 (by decide) ?_
        exact x_iretP C HQ rfl rfl dX4_accepts_45 hf
  ·
    refine x_iconst 12 C (nI 1) dX4_accepts_11 ki_1 rfl ?_
    exact x_iretP C HQ rfl rfl dX4_accepts_12 hf
set_option maxRecDepth 20000 in
set_option maxHeartbeats 1000000 in
theorem tX4_takesMessage_j48 {l : Launch} {Y : xY} {X : xE} {ad : Nat → Nat} {fr : va_W} {z0 : Int32 × xM} (C : xC Y X cX4_takesMessage RX4 (some .boolean) 4 2 48) (HQ : xRI Y X (wC Y ad fr) z0.1 z0.2) (M : xM) (v1 : Int32) (s0 : Int32)  (hf : fX4_takesMessage_j48 M v1 s0 = some z0) : xG Y l X (wC Y ad fr) M 48 [(0, .ref (ad 22)), (1, .int v1)] [.int s0] := by
  unfold fX4_takesMessage_j48 at hf
  refine x_isN 49 C 3 (lv2 := [(3, .int s0), (0, .ref (ad 22)), (1, .int v1)]) dX4_takesMessage_48 rfl rfl (Nat.le_of_ble_eq_true rfl) rfl ?_
  refine x_ilN 50 C dX4_takesMessage_49 0 rfl rfl rfl ?_
  refine x_iconst 51 C (-1) dX4_takesMessage_50 ki_m1 rfl ?_
  refine x_icmp_eq 54 C 68 dX4_takesMessage_51 (by decide) rfl hf (fun hf => ?_) (fun hf => ?_)
  ·
    refine x_iconst 69 C (nI 0) dX4_takesMessage_68 ki_0 rfl ?_
    exact x_iretM C HQ rfl rfl dX4_takesMessage_69 hf
  ·
    refine x_alN 55 C dX4_takesMessage_54 1 rfl rfl rfl ?_
    refine x_ilN 56 C dX4_takesMessage_55 2 rfl rfl rfl ?_
    refine x_alN 57 C dX4_takesMessage_56 1 rfl rfl rfl ?_
    refine xgX4_2 60 C mq_220 dX4_takesMessage_57 rfl ?_
    refine x_ilN 61 C dX4_takesMessage_60 0 rfl rfl rfl ?_
    refine xrC_23 62 C dX4_takesMessage_61 rfl hf (fun x5 hf => ?_)
    refine x_cvIP 65 C [.int v1, .long x5] hwX4_accepts mq_475 dX4_takesMessage_62 rfl ⟨Nat.le_of_ble_eq_true rfl, Nat.le_of_ble_eq_true rfl⟩ 22 wC_at_22 rfl rfl rfl (Nat.le_of_ble_eq_true rfl) (fun z hz => tX4_accepts hz) hf (fun z6 hf => ?_)
    refine x_if_ne 68 C 70 dX4_takesMessage_65 (by decide) rfl hf (fun hf => ?_) (fun hf => ?_)
    ·
      refine x_alN 71 C dX4_takesMessage_70 1 rfl rfl rfl ?_
      refine xgX4_0 74 C mq_218 dX4_takesMessage_71 rfl ?_
      refine xgX3_13 77 C mq_124 dX4_takesMessage_74 rfl ?_
      refine x_ilN 78 C dX4_takesMessage_77 2 rfl rfl rfl ?_
      refine x_alN 79 C dX4_takesMessage_78 1 rfl rfl rfl ?_
      refine xgX4_2 82 C mq_220 dX4_takesMessage_79 rfl ?_
      refine x_ilN 83 C dX4_takesMessage_82 0 rfl rfl rfl ?_
      refine xrC_23 84 C dX4_takesMessage_83 rfl hf (fun x7 hf => ?_)
      refine xwC_9 85 C dX4_takesMessage_84 rfl hf (fun M8 hf => ?_)
      refine x_alN 86 C dX4_takesMessage_85 1 rfl rfl rfl ?_
      refine xgX4_0 89 C mq_218 dX4_takesMessage_86 rfl ?_
      refine xgX3_14 92 C mq_127 dX4_takesMessage_89 rfl ?_
      refine x_ilN 93 C dX4_takesMessage_92 2 rfl rfl rfl ?_
      refine x_bipush 95 C (nI 6) dX4_takesMessage_93 kb_6 rfl ?_
      refine x_alN 96 C dX4_takesMessage_95 1 rfl rfl rfl ?_
      refine xgX4_3 99 C mq_221 dX4_takesMessage_96 rfl ?_
      refine x_ilN 100 C dX4_takesMessage_99 0 rfl rfl rfl ?_
      refine xrC_24 101 C dX4_takesMessage_100 rfl hf (fun x9 hf => ?_)
      refine x_isub 102 C dX4_takesMessage_101 rfl ?_
      refine xwC_10 103 C dX4_takesMessage_102 rfl hf (fun M10 hf => ?_)
      refine x_iconst 104 C (nI 1) dX4_takesMessage_103 ki_1 rfl ?_
      exact x_iretM C HQ rfl rfl dX4_takesMessage_104 hf
    ·
      refine x_iconst 69 C (nI 0) dX4_takesMessage_68 ki_0 rfl ?_
      exact x_iretM C HQ rfl rfl dX4_takesMessage_69 hf
set_option maxRecDepth 20000 in
set_option maxHeartbeats 1000000 in
theorem tX4_takesMessage {l : Launch} {Y : xY} {ad : Nat → Nat} {fr : va_W} {M : xM} {p1 : Int32} {z0 : Int32 × xM} (hf : fX4_takesMessage M p1 = some z0) : xcI l Y (wC Y ad fr) yX4_takesMessage cX4_takesMessage 4 (some .boolean) 2 48 [.ref (ad 22), .int p1] M z0.1 z0.2 := by
  refine x_entryI [(0, .ref (ad 22)), (1, .int p1)] pnX4 rfl (Nat.le_of_ble_eq_true rfl) rfl (fun X C HQ => ?_)
  unfold fX4_takesMessage at hf
  refine x_alN 1 C dX4_takesMessage_0 0 rfl rfl rfl ?_
  refine xgX4_0 4 C mq_218 dX4_takesMessage_1 rfl ?_
  refine x_ilN 5 C dX4_takesMessage_4 1 rfl rfl rfl ?_
  refine x_cvIP 8 C [.int p1] hwX3_isActive mq_474 dX4_takesMessage_5 rfl ⟨Nat.le_of_ble_eq_true rfl, Nat.le_of_ble_eq_true rfl⟩ 0 wC_at_0 rfl rfl rfl (Nat.le_of_ble_eq_true rfl) (fun z hz => tX3_isActive hz) hf (fun z1 hf => ?_)
  refine x_if_ne 11 C 13 dX4_takesMessage_8 (by decide) rfl hf (fun hf => ?_) (fun hf => ?_)
  ·
    refine x_alN 14 C dX4_takesMessage_13 0 rfl rfl rfl ?_
    refine xgX4_0 17 C mq_218 dX4_takesMessage_14 rfl ?_
    refine xgX3_8 20 C mq_110 dX4_takesMessage_17 rfl ?_
    refine x_ilN 21 C dX4_takesMessage_20 1 rfl rfl rfl ?_
    refine xrC_4 22 C dX4_takesMessage_21 rfl hf (fun x2 hf => ?_)
    refine x_isN 23 C 2 (lv2 := [(2, .int x2), (0, .ref (ad 22)), (1, .int p1)]) dX4_takesMessage_22 rfl rfl (Nat.le_of_ble_eq_true rfl) rfl ?_
    refine x_alN 24 C dX4_takesMessage_23 1 rfl rfl rfl ?_
    refine xgX4_4 27 C mq_222 dX4_takesMessage_24 rfl ?_
    refine x_ilN 28 C dX4_takesMessage_27 0 rfl rfl rfl ?_
    refine xrC_25 29 C dX4_takesMessage_28 rfl hf (fun x3 hf => ?_)
    refine x_ilN 30 C dX4_takesMessage_29 2 rfl rfl rfl ?_
    refine x_icmp_ne 33 C 42 dX4_takesMessage_30 (by decide) rfl hf (fun hf => ?_) (fun hf => ?_)
    ·
      refine x_alN 43 C dX4_takesMessage_42 1 rfl rfl rfl ?_
      refine xgX4_4 46 C mq_222 dX4_takesMessage_43 rfl ?_
      refine x_ilN 47 C dX4_takesMessage_46 0 rfl rfl rfl ?_
      refine xrC_25 48 C dX4_takesMessage_47 rfl hf (fun x4 hf => ?_)
      refine x_sub [1, 2] rfl ?_
      exact tX4_takesMessage_j48 C HQ _ _ _  hf
    ·
      refine x_alN 34 C dX4_takesMessage_33 1 rfl rfl rfl ?_
      refine xgX4_5 37 C mq_223 dX4_takesMessage_34 rfl ?_
      refine x_ilN 38 C dX4_takesMessage_37 0 rfl rfl rfl ?_
      refine xrC_26 39 C dX4_takesMessage_38 rfl hf (fun x11 hf => ?_)
      refine x_goto 48 C dX4_takesMessage_39 (by decide) ?_
      refine x_sub [1, 2] rfl ?_
      exact tX4_takesMessage_j48 C HQ _ _ _  hf
  ·
    refine x_iconst 12 C (nI 0) dX4_takesMessage_11 ki_0 rfl ?_
    exact x_iretM C HQ rfl rfl dX4_takesMessage_12 hf
set_option maxRecDepth 20000 in
set_option maxHeartbeats 1000000 in
theorem tX4_enterState {l : Launch} {Y : xY} {ad : Nat → Nat} {fr : va_W} {M : xM} {p1 : Int32} {p2 : Int32} {p3 : Int32} {z0 : xM} (hf : fX4_enterState M p1 p2 p3 = some z0) : xcV l Y (wC Y ad fr) yX4_enterState cX4_enterState 4 none 0 0 [.ref (ad 22), .int p1, .int p2, .int p3] M z0 := by
  refine x_entryV [(0, .ref (ad 22)), (1, .int p1), (2, .int p2), (3, .int p3)] pnX4 rfl (Nat.le_of_ble_eq_true rfl) rfl (fun X C HQ => ?_)
  unfold fX4_enterState at hf
  refine x_alN 1 C dX4_enterState_0 0 rfl rfl rfl ?_
  refine xgX4_0 4 C mq_218 dX4_enterState_1 rfl ?_
  refine xgX3_11 7 C mq_118 dX4_enterState_4 rfl ?_
  refine x_ilN 8 C dX4_enterState_7 1 rfl rfl rfl ?_
  refine x_ilN 9 C dX4_enterState_8 2 rfl rfl rfl ?_
  refine xwC_7 10 C dX4_enterState_9 rfl hf (fun M1 hf => ?_)
  refine x_alN 11 C dX4_enterState_10 0 rfl rfl rfl ?_
  refine xgX4_0 14 C mq_218 dX4_enterState_11 rfl ?_
  refine xgX3_12 17 C mq_121 dX4_enterState_14 rfl ?_
  refine x_ilN 18 C dX4_enterState_17 1 rfl rfl rfl ?_
  refine x_ilN 19 C dX4_enterState_18 3 rfl rfl rfl ?_
  refine xwC_8 20 C dX4_enterState_19 rfl hf (fun M2 hf => ?_)
  exact x_vret C HQ rfl dX4_enterState_20 hf
set_option maxRecDepth 20000 in
set_option maxHeartbeats 1000000 in
theorem tX4_moveTowardsForwarding_j75 {l : Launch} {Y : xY} {X : xE} {ad : Nat → Nat} {fr : va_W} {z0 : xM} (C : xC Y X cX4_moveTowardsForwarding RX4 none 3 1 23) (HQ : xRV Y X (wC Y ad fr) z0) (M : xM) (s0 : Int32) (s1 : Int32) (s2 : Int32)  (hf : fX4_moveTowardsForwarding_j75 M s0 s1 s2 = some z0) : xG Y l X (wC Y ad fr) M 75 [] [.int s0, .int s1, .int s2, .ref (ad 22)] := by
  unfold fX4_moveTowardsForwarding_j75 at hf
  refine x_cvVM 78 C [.int s2, .int s1, .int s0] hwX4_enterState mq_497 dX4_moveTowardsForwarding_75 rfl ⟨Nat.le_of_ble_eq_true rfl, Nat.le_of_ble_eq_true rfl⟩ 22 wC_at_22 rfl rfl rfl (Nat.le_of_ble_eq_true rfl) (fun z hz => tX4_enterState hz) hf (fun z5 hf => ?_)
  exact x_vret C HQ rfl dX4_moveTowardsForwarding_78 hf
set_option maxRecDepth 20000 in
set_option maxHeartbeats 1000000 in
theorem tX4_moveTowardsForwarding_j35 {l : Launch} {Y : xY} {X : xE} {ad : Nat → Nat} {fr : va_W} {z0 : xM} (C : xC Y X cX4_moveTowardsForwarding RX4 none 3 1 23) (HQ : xRV Y X (wC Y ad fr) z0) (M : xM) (v1 : Int32) (v2 : Int32)  (hf : fX4_moveTowardsForwarding_j35 M v1 v2 = some z0) : xG Y l X (wC Y ad fr) M 35 [(0, .ref (ad 22)), (1, .int v1), (2, .int v2)] [] := by
  unfold fX4_moveTowardsForwarding_j35 at hf
  refine x_alN 36 C dX4_moveTowardsForwarding_35 0 rfl rfl rfl ?_
  refine xgX4_0 39 C mq_218 dX4_moveTowardsForwarding_36 rfl ?_
  refine xgX3_12 42 C mq_121 dX4_moveTowardsForwarding_39 rfl ?_
  refine x_ilN 43 C dX4_moveTowardsForwarding_42 1 rfl rfl rfl ?_
  refine x_dup2 44 C dX4_moveTowardsForwarding_43 rfl rfl rfl ?_
  refine xrC_8 45 C dX4_moveTowardsForwarding_44 rfl hf (fun x2 hf => ?_)
  refine x_iconst 46 C (nI 1) dX4_moveTowardsForwarding_45 ki_1 rfl ?_
  refine x_isub 47 C dX4_moveTowardsForwarding_46 rfl ?_
  refine xwC_8 48 C dX4_moveTowardsForwarding_47 rfl hf (fun M3 hf => ?_)
  refine x_alN 49 C dX4_moveTowardsForwarding_48 0 rfl rfl rfl ?_
  refine xgX4_0 52 C mq_218 dX4_moveTowardsForwarding_49 rfl ?_
  refine xgX3_12 55 C mq_121 dX4_moveTowardsForwarding_52 rfl ?_
  refine x_ilN 56 C dX4_moveTowardsForwarding_55 1 rfl rfl rfl ?_
  refine xrC_8 57 C dX4_moveTowardsForwarding_56 rfl hf (fun x4 hf => ?_)
  refine x_if_gt 60 C 78 dX4_moveTowardsForwarding_57 (by decide) rfl hf (fun hf => ?_) (fun hf => ?_)
  ·
    exact x_vret C HQ rfl dX4_moveTowardsForwarding_78 hf
  ·
    refine x_alN 61 C dX4_moveTowardsForwarding_60 0 rfl rfl rfl ?_
    refine x_ilN 62 C dX4_moveTowardsForwarding_61 1 rfl rfl rfl ?_
    refine x_ilN 63 C dX4_moveTowardsForwarding_62 2 rfl rfl rfl ?_
    refine x_iconst 64 C (nI 1) dX4_moveTowardsForwarding_63 ki_1 rfl ?_
    refine x_iadd 65 C dX4_moveTowardsForwarding_64 rfl ?_
    refine x_ilN 66 C dX4_moveTowardsForwarding_65 2 rfl rfl rfl ?_
    refine x_iconst 67 C (nI 2) dX4_moveTowardsForwarding_66 ki_2 rfl ?_
    refine x_icmp_ne 70 C 74 dX4_moveTowardsForwarding_67 (by decide) rfl hf (fun hf => ?_) (fun hf => ?_)
    ·
      refine x_iconst 75 C (nI 0) dX4_moveTowardsForwarding_74 ki_0 rfl ?_
      refine x_sub [] rfl ?_
      exact tX4_moveTowardsForwarding_j75 C HQ _ _ _ _  hf
    ·
      refine x_iconst 71 C (nI 2) dX4_moveTowardsForwarding_70 ki_2 rfl ?_
      refine x_goto 75 C dX4_moveTowardsForwarding_71 (by decide) ?_
      refine x_sub [] rfl ?_
      exact tX4_moveTowardsForwarding_j75 C HQ _ _ _ _  hf
set_option maxRecDepth 20000 in
set_option maxHeartbeats 1000000 in
theorem tX4_moveTowardsForwarding {l : Launch} {Y : xY} {ad : Nat → Nat} {fr : va_W} {M : xM} {p1 : Int32} {z0 : xM} (hf : fX4_moveTowardsForwarding M p1 = some z0) : xcV l Y (wC Y ad fr) yX4_moveTowardsForwarding cX4_moveTowardsForwarding 3 none 1 23 [.ref (ad 22), .int p1] M z0 := by
  refine x_entryV [(0, .ref (ad 22)), (1, .int p1)] pnX4 rfl (Nat.le_of_ble_eq_true rfl) rfl (fun X C HQ => ?_)
  unfold fX4_moveTowardsForwarding at hf
  refine x_alN 1 C dX4_moveTowardsForwarding_0 0 rfl rfl rfl ?_
  refine xgX4_0 4 C mq_218 dX4_moveTowardsForwarding_1 rfl ?_
  refine xgX3_11 7 C mq_118 dX4_moveTowardsForwarding_4 rfl ?_
  refine x_ilN 8 C dX4_moveTowardsForwarding_7 1 rfl rfl rfl ?_
  refine xrC_7 9 C dX4_moveTowardsForwarding_8 rfl hf (fun x1 hf => ?_)
  refine x_isN 10 C 2 (lv2 := [(2, .int x1), (0, .ref (ad 22)), (1, .int p1)]) dX4_moveTowardsForwarding_9 rfl rfl (Nat.le_of_ble_eq_true rfl) rfl ?_
  refine x_ilN 11 C dX4_moveTowardsForwarding_10 0 rfl rfl rfl ?_
  refine x_iconst 12 C (nI 1) dX4_moveTowardsForwarding_11 ki_1 rfl ?_
  refine x_icmp_ne 15 C 25 dX4_moveTowardsForwarding_12 (by decide) rfl hf (fun hf => ?_) (fun hf => ?_)
  ·
    refine x_ilN 26 C dX4_moveTowardsForwarding_25 0 rfl rfl rfl ?_
    refine x_iconst 27 C (nI 2) dX4_moveTowardsForwarding_26 ki_2 rfl ?_
    refine x_icmp_eq 30 C 35 dX4_moveTowardsForwarding_27 (by decide) rfl hf (fun hf => ?_) (fun hf => ?_)
    ·
      refine x_sub [1, 2, 0] rfl ?_
      exact tX4_moveTowardsForwarding_j35 C HQ _ _ _  hf
    ·
      refine x_ilN 31 C dX4_moveTowardsForwarding_30 0 rfl rfl rfl ?_
      refine x_iconst 32 C (nI 3) dX4_moveTowardsForwarding_31 ki_3 rfl ?_
      refine x_icmp_ne 35 C 78 dX4_moveTowardsForwarding_32 (by decide) rfl hf (fun hf => ?_) (fun hf => ?_)
      ·
        exact x_vret C HQ rfl dX4_moveTowardsForwarding_78 hf
      ·
        refine x_sub [1, 2, 0] rfl ?_
        exact tX4_moveTowardsForwarding_j35 C HQ _ _ _  hf
  ·
    refine x_alN 16 C dX4_moveTowardsForwarding_15 1 rfl rfl rfl ?_
    refine x_ilN 17 C dX4_moveTowardsForwarding_16 2 rfl rfl rfl ?_
    refine x_iconst 18 C (nI 2) dX4_moveTowardsForwarding_17 ki_2 rfl ?_
    refine x_iconst 19 C (nI 2) dX4_moveTowardsForwarding_18 ki_2 rfl ?_
    refine x_cvVM 22 C [.int p1, .int (nI 2), .int (nI 2)] hwX4_enterState mq_497 dX4_moveTowardsForwarding_19 rfl ⟨Nat.le_of_ble_eq_true rfl, Nat.le_of_ble_eq_true rfl⟩ 22 wC_at_22 rfl rfl rfl (Nat.le_of_ble_eq_true rfl) (fun z hz => tX4_enterState hz) hf (fun z6 hf => ?_)
    refine x_goto 78 C dX4_moveTowardsForwarding_22 (by decide) ?_
    exact x_vret C HQ rfl dX4_moveTowardsForwarding_78 hf
set_option maxRecDepth 20000 in
set_option maxHeartbeats 1000000 in
theorem tX4_moveState_j10 {l : Launch} {Y : xY} {X : xE} {ad : Nat → Nat} {fr : va_W} {z0 : xM} (C : xC Y X cX4_moveState RX4 none 3 2 45) (HQ : xRV Y X (wC Y ad fr) z0) (M : xM) (v1 : Int32)  (hf : fX4_moveState_j10 M v1 = some z0) : xG Y l X (wC Y ad fr) M 10 [(0, .ref (ad 22)), (1, .int v1)] [] := by
  unfold fX4_moveState_j10 at hf
  refine x_alN 11 C dX4_moveState_10 0 rfl rfl rfl ?_
  refine x_ilN 12 C dX4_moveState_11 1 rfl rfl rfl ?_
  refine x_iconst 13 C (nI 1) dX4_moveState_12 ki_1 rfl ?_
  refine x_iconst 14 C (nI 0) dX4_moveState_13 ki_0 rfl ?_
  refine x_cvVM 17 C [.int v1, .int (nI 1), .int (nI 0)] hwX4_enterState mq_497 dX4_moveState_14 rfl ⟨Nat.le_of_ble_eq_true rfl, Nat.le_of_ble_eq_true rfl⟩ 22 wC_at_22 rfl rfl rfl (Nat.le_of_ble_eq_true rfl) (fun z hz => tX4_enterState hz) hf (fun z1 hf => ?_)
  refine x_goto 35 C dX4_moveState_17 (by decide) ?_
  exact x_vret C HQ rfl dX4_moveState_35 hf
set_option maxRecDepth 20000 in
set_option maxHeartbeats 1000000 in
theorem tX4_moveState_j30 {l : Launch} {Y : xY} {X : xE} {ad : Nat → Nat} {fr : va_W} {z0 : xM} (C : xC Y X cX4_moveState RX4 none 3 2 45) (HQ : xRV Y X (wC Y ad fr) z0) (M : xM) (v1 : Int32)  (hf : fX4_moveState_j30 M v1 = some z0) : xG Y l X (wC Y ad fr) M 30 [(0, .ref (ad 22)), (1, .int v1)] [] := by
  unfold fX4_moveState_j30 at hf
  refine x_alN 31 C dX4_moveState_30 0 rfl rfl rfl ?_
  refine x_ilN 32 C dX4_moveState_31 1 rfl rfl rfl ?_
  refine x_cvVM 35 C [.int v1] hwX4_moveTowardsForwarding mq_501 dX4_moveState_32 rfl ⟨Nat.le_of_ble_eq_true rfl, Nat.le_of_ble_eq_true rfl⟩ 22 wC_at_22 rfl rfl rfl (Nat.le_of_ble_eq_true rfl) (fun z hz => tX4_moveTowardsForwarding hz) hf (fun z2 hf => ?_)
  exact x_vret C HQ rfl dX4_moveState_35 hf
set_option maxRecDepth 20000 in
set_option maxHeartbeats 1000000 in
theorem tX4_moveState {l : Launch} {Y : xY} {ad : Nat → Nat} {fr : va_W} {M : xM} {p1 : Int32} {p2 : Int32} {z0 : xM} (hf : fX4_moveState M p1 p2 = some z0) : xcV l Y (wC Y ad fr) yX4_moveState cX4_moveState 3 none 2 45 [.ref (ad 22), .int p1, .int p2] M z0 := by
  refine x_entryV [(0, .ref (ad 22)), (1, .int p1), (2, .int p2)] pnX4 rfl (Nat.le_of_ble_eq_true rfl) rfl (fun X C HQ => ?_)
  unfold fX4_moveState at hf
  refine x_ilN 1 C dX4_moveState_0 2 rfl rfl rfl ?_
  refine x_iconst 2 C (nI 3) dX4_moveState_1 ki_3 rfl ?_
  refine x_icmp_eq 5 C 10 dX4_moveState_2 (by decide) rfl hf (fun hf => ?_) (fun hf => ?_)
  ·
    refine x_sub [0, 1] rfl ?_
    exact tX4_moveState_j10 C HQ _ _  hf
  ·
    refine x_ilN 6 C dX4_moveState_5 2 rfl rfl rfl ?_
    refine x_iconst 7 C (nI 4) dX4_moveState_6 ki_4 rfl ?_
    refine x_icmp_ne 10 C 20 dX4_moveState_7 (by decide) rfl hf (fun hf => ?_) (fun hf => ?_)
    ·
      refine x_ilN 21 C dX4_moveState_20 2 rfl rfl rfl ?_
      refine x_iconst 22 C (nI 1) dX4_moveState_21 ki_1 rfl ?_
      refine x_icmp_eq 25 C 30 dX4_moveState_22 (by decide) rfl hf (fun hf => ?_) (fun hf => ?_)
      ·
        refine x_sub [0, 1] rfl ?_
        exact tX4_moveState_j30 C HQ _ _  hf
      ·
        refine x_ilN 26 C dX4_moveState_25 2 rfl rfl rfl ?_
        refine x_iconst 27 C (nI 2) dX4_moveState_26 ki_2 rfl ?_
        refine x_icmp_ne 30 C 35 dX4_moveState_27 (by decide) rfl hf (fun hf => ?_) (fun hf => ?_)
        ·
          exact x_vret C HQ rfl dX4_moveState_35 hf
        ·
          refine x_sub [0, 1] rfl ?_
          exact tX4_moveState_j30 C HQ _ _  hf
    ·
      refine x_sub [0, 1] rfl ?_
      exact tX4_moveState_j10 C HQ _ _  hf
set_option maxRecDepth 20000 in
set_option maxHeartbeats 1000000 in
theorem tX4_moveStates_j61 {l : Launch} {Y : xY} {X : xE} {ad : Nat → Nat} {fr : va_W} {z0 : Int32 × xM} (C : xC Y X cX4_moveStates RX4 (some .boolean) 4 3 67) (HQ : xRI Y X (wC Y ad fr) z0.1 z0.2) (M : xM) (v2 : Int32) (s0 : Int32) (b4 : xM → Int32 → Int32 → Option (Int32 × xM)) (Hb4 : ∀ (M : xM) (v1 : Int32) (v2 : Int32), b4 M v1 v2 = some z0 → xG Y l X (wC Y ad fr) M 4 [(0, .ref (ad 22)), (1, .int v1), (2, .int v2)] []) (hf : fX4_moveStates_j61 M v2 s0 b4 = some z0) : xG Y l X (wC Y ad fr) M 61 [(0, .ref (ad 22)), (2, .int v2)] [.int s0] := by
  unfold fX4_moveStates_j61 at hf
  refine x_isN 62 C 1 (lv2 := [(1, .int s0), (0, .ref (ad 22)), (2, .int v2)]) dX4_moveStates_61 rfl rfl (Nat.le_of_ble_eq_true rfl) rfl ?_
  refine x_iinc 65 C (v2 + (nI 1)) (lv2 := [(2, .int (v2 + (nI 1))), (1, .int s0), (0, .ref (ad 22))]) dX4_moveStates_62 2 rfl rfl rfl (Nat.le_of_ble_eq_true rfl) rfl ?_
  refine x_goto 4 C dX4_moveStates_65 (by decide) ?_
  refine x_sub [2, 1, 0] rfl ?_
  exact Hb4 _ _ _ hf
set_option maxRecDepth 20000 in
set_option maxHeartbeats 1000000 in
theorem tX4_moveStates_B4 {l : Launch} {Y : xY} {X : xE} {ad : Nat → Nat} {fr : va_W} {z0 : Int32 × xM} (C : xC Y X cX4_moveStates RX4 (some .boolean) 4 3 67) (HQ : xRI Y X (wC Y ad fr) z0.1 z0.2)   (k68 : xM → Int32 → Option (Int32 × xM)) (Hk68 : ∀ (M : xM) (v1 : Int32), k68 M v1 = some z0 → xG Y l X (wC Y ad fr) M 68 [(1, .int v1)] []) (M : xM) (v1 : Int32) (v2 : Int32) (b4 : xM → Int32 → Int32 → Option (Int32 × xM)) (Hb4 : ∀ (M : xM) (v1 : Int32) (v2 : Int32), b4 M v1 v2 = some z0 → xG Y l X (wC Y ad fr) M 4 [(0, .ref (ad 22)), (1, .int v1), (2, .int v2)] []) (hf : fX4_moveStates_B4 k68 M v1 v2 b4 = some z0) : xG Y l X (wC Y ad fr) M 4 [(0, .ref (ad 22)), (1, .int v1), (2, .int v2)] [] := by
  unfold fX4_moveStates_B4 at hf
  refine x_ilN 5 C dX4_moveStates_4 2 rfl rfl rfl ?_
  refine x_alN 6 C dX4_moveStates_5 0 rfl rfl rfl ?_
  refine xgX4_0 9 C mq_218 dX4_moveStates_6 rfl ?_
  refine xgX3_2 12 C mq_89 dX4_moveStates_9 rfl ?_
  refine x_icmp_ge 15 C 68 dX4_moveStates_12 (by decide) rfl hf (fun hf => ?_) (fun hf => ?_)
  ·
    refine x_sub [1] rfl ?_
    exact Hk68 _ _ hf
  ·
    refine x_alN 16 C dX4_moveStates_15 0 rfl rfl rfl ?_
    refine xgX4_0 19 C mq_218 dX4_moveStates_16 rfl ?_
    refine xgX3_11 22 C mq_118 dX4_moveStates_19 rfl ?_
    refine x_ilN 23 C dX4_moveStates_22 2 rfl rfl rfl ?_
    refine xrC_7 24 C dX4_moveStates_23 rfl hf (fun x1 hf => ?_)
    refine x_isN 25 C 3 (lv2 := [(3, .int x1), (0, .ref (ad 22)), (1, .int v1), (2, .int v2)]) dX4_moveStates_24 rfl rfl (Nat.le_of_ble_eq_true rfl) rfl ?_
    refine x_alN 26 C dX4_moveStates_25 1 rfl rfl rfl ?_
    refine x_ilN 27 C dX4_moveStates_26 3 rfl rfl rfl ?_
    refine x_alN 28 C dX4_moveStates_27 1 rfl rfl rfl ?_
    refine xgX4_1 31 C mq_219 dX4_moveStates_28 rfl ?_
    refine xgX0_4 34 C mq_193 dX4_moveStates_31 rfl ?_
    refine x_ilN 35 C dX4_moveStates_34 3 rfl rfl rfl ?_
    refine xrC_19 36 C dX4_moveStates_35 rfl hf (fun x2 hf => ?_)
    refine x_cvVM 39 C [.int v2, .int x2] hwX4_moveState mq_493 dX4_moveStates_36 rfl ⟨Nat.le_of_ble_eq_true rfl, Nat.le_of_ble_eq_true rfl⟩ 22 wC_at_22 rfl rfl rfl (Nat.le_of_ble_eq_true rfl) (fun z hz => tX4_moveState hz) hf (fun z3 hf => ?_)
    refine x_ilN 40 C dX4_moveStates_39 2 rfl rfl rfl ?_
    refine x_if_ne 43 C 56 dX4_moveStates_40 (by decide) rfl hf (fun hf => ?_) (fun hf => ?_)
    ·
      refine x_iconst 57 C (nI 1) dX4_moveStates_56 ki_1 rfl ?_
      refine x_goto 61 C dX4_moveStates_57 (by decide) ?_
      refine x_sub [1, 3] rfl ?_
      exact tX4_moveStates_j61 C HQ _ _ _ _ Hb4 hf
    ·
      refine x_alN 44 C dX4_moveStates_43 1 rfl rfl rfl ?_
      refine xgX4_0 47 C mq_218 dX4_moveStates_44 rfl ?_
      refine xgX3_11 50 C mq_118 dX4_moveStates_47 rfl ?_
      refine x_ilN 51 C dX4_moveStates_50 3 rfl rfl rfl ?_
      refine xrC_7 52 C dX4_moveStates_51 rfl hf (fun x4 hf => ?_)
      refine x_ilN 53 C dX4_moveStates_52 0 rfl rfl rfl ?_
      refine x_icmp_eq 56 C 60 dX4_moveStates_53 (by decide) rfl hf (fun hf => ?_) (fun hf => ?_)
      ·
        refine x_iconst 61 C (nI 0) dX4_moveStates_60 ki_0 rfl ?_
        refine x_sub [1, 3] rfl ?_
        exact tX4_moveStates_j61 C HQ _ _ _ _ Hb4 hf
      ·
        refine x_iconst 57 C (nI 1) dX4_moveStates_56 ki_1 rfl ?_
        refine x_goto 61 C dX4_moveStates_57 (by decide) ?_
        refine x_sub [1, 3] rfl ?_
        exact tX4_moveStates_j61 C HQ _ _ _ _ Hb4 hf
set_option maxRecDepth 20000 in
set_option maxHeartbeats 1000000 in
theorem tX4_moveStates_L4 {l : Launch} {Y : xY} {X : xE} {ad : Nat → Nat} {fr : va_W} {z0 : Int32 × xM} (C : xC Y X cX4_moveStates RX4 (some .boolean) 4 3 67) (HQ : xRI Y X (wC Y ad fr) z0.1 z0.2)   (k68 : xM → Int32 → Option (Int32 × xM)) (Hk68 : ∀ (M : xM) (v1 : Int32), k68 M v1 = some z0 → xG Y l X (wC Y ad fr) M 68 [(1, .int v1)] []) : ∀ (n : Nat) (M : xM) (v1 : Int32) (v2 : Int32), fX4_moveStates_L4 k68 n M v1 v2 = some z0 → xG Y l X (wC Y ad fr) M 4 [(0, .ref (ad 22)), (1, .int v1), (2, .int v2)] [] := by
  intro n
  induction n with
  | zero =>
    intro M v1 v2 hf
    cases hf
  | succ n ih =>
    intro M v1 v2 hf
    exact tX4_moveStates_B4 C HQ   _ Hk68 M v1 v2 _ (fun M v1 v2 hf => ih M v1 v2 hf) hf
set_option maxRecDepth 20000 in
set_option maxHeartbeats 1000000 in
theorem tX4_moveStates {l : Launch} {Y : xY} {ad : Nat → Nat} {fr : va_W} {M : xM}  {z0 : Int32 × xM} (hf : fX4_moveStates M = some z0) : xcI l Y (wC Y ad fr) yX4_moveStates cX4_moveStates 4 (some .boolean) 3 67 [.ref (ad 22)] M z0.1 z0.2 := by
  refine x_entryI [(0, .ref (ad 22))] pnX4 rfl (Nat.le_of_ble_eq_true rfl) rfl (fun X C HQ => ?_)
  unfold fX4_moveStates at hf
  refine x_iconst 1 C (nI 0) dX4_moveStates_0 ki_0 rfl ?_
  refine x_isN 2 C 1 (lv2 := [(1, .int (nI 0)), (0, .ref (ad 22))]) dX4_moveStates_1 rfl rfl (Nat.le_of_ble_eq_true rfl) rfl ?_
  refine x_iconst 3 C (nI 0) dX4_moveStates_2 ki_0 rfl ?_
  refine x_isN 4 C 2 (lv2 := [(2, .int (nI 0)), (1, .int (nI 0)), (0, .ref (ad 22))]) dX4_moveStates_3 rfl rfl (Nat.le_of_ble_eq_true rfl) rfl ?_
  refine x_sub [2, 1, 0] rfl ?_
  refine tX4_moveStates_L4 C HQ  _ (fun M6 v5 hf => ?_) 512 _ _ _ hf
  refine x_ilN 69 C dX4_moveStates_68 0 rfl rfl rfl ?_
  obtain ⟨hn, hf⟩ := x_nz hf
  exact x_iretM C HQ rfl hn dX4_moveStates_69 hf
set_option maxRecDepth 20000 in
set_option maxHeartbeats 1000000 in
theorem tX4_makeTick_B6 {l : Launch} {Y : xY} {X : xE} {ad : Nat → Nat} {fr : va_W} {z0 : Int32 × xM} (C : xC Y X cX4_makeTick RX4 (some .boolean) 3 5 107) (HQ : xRI Y X (wC Y ad fr) z0.1 z0.2)   (k39 : xM → Option (Int32 × xM)) (Hk39 : ∀ (M : xM), k39 M = some z0 → xG Y l X (wC Y ad fr) M 39 [(0, .ref (ad 22))] []) (M : xM) (v1 : Int32) (b6 : xM → Int32 → Option (Int32 × xM)) (Hb6 : ∀ (M : xM) (v1 : Int32), b6 M v1 = some z0 → xG Y l X (wC Y ad fr) M 6 [(0, .ref (ad 22)), (1, .int v1)] []) (hf : fX4_makeTick_B6 k39 M v1 b6 = some z0) : xG Y l X (wC Y ad fr) M 6 [(0, .ref (ad 22)), (1, .int v1)] [] := by
  unfold fX4_makeTick_B6 at hf
  refine x_ilN 7 C dX4_makeTick_6 1 rfl rfl rfl ?_
  refine x_alN 8 C dX4_makeTick_7 0 rfl rfl rfl ?_
  refine xgX4_0 11 C mq_218 dX4_makeTick_8 rfl ?_
  refine xgX3_2 14 C mq_89 dX4_makeTick_11 rfl ?_
  refine x_icmp_ge 17 C 39 dX4_makeTick_14 (by decide) rfl hf (fun hf => ?_) (fun hf => ?_)
  ·
    refine x_sub [0] rfl ?_
    exact Hk39 _ hf
  ·
    refine x_alN 18 C dX4_makeTick_17 0 rfl rfl rfl ?_
    refine x_ilN 19 C dX4_makeTick_18 1 rfl rfl rfl ?_
    refine x_cvIM 22 C [.int v1] hwX4_takesMessage mq_470 dX4_makeTick_19 rfl ⟨Nat.le_of_ble_eq_true rfl, Nat.le_of_ble_eq_true rfl⟩ 22 wC_at_22 rfl rfl rfl (Nat.le_of_ble_eq_true rfl) (fun z hz => tX4_takesMessage hz) hf (fun z2 hf => ?_)
    refine x_if_ne 25 C 33 dX4_makeTick_22 (by decide) rfl hf (fun hf => ?_) (fun hf => ?_)
    ·
      refine x_iinc 36 C (v1 + (nI 1)) (lv2 := [(1, .int (v1 + (nI 1))), (0, .ref (ad 22))]) dX4_makeTick_33 1 rfl rfl rfl (Nat.le_of_ble_eq_true rfl) rfl ?_
      refine x_goto 6 C dX4_makeTick_36 (by decide) ?_
      refine x_sub [1, 0] rfl ?_
      exact Hb6 _ _ hf
    ·
      refine x_alN 26 C dX4_makeTick_25 0 rfl rfl rfl ?_
      refine xgX4_0 29 C mq_218 dX4_makeTick_26 rfl ?_
      refine x_ilN 30 C dX4_makeTick_29 1 rfl rfl rfl ?_
      refine x_cvVM 33 C [.int v1] hwX3_ageMessage mq_484 dX4_makeTick_30 rfl ⟨Nat.le_of_ble_eq_true rfl, Nat.le_of_ble_eq_true rfl⟩ 0 wC_at_0 rfl rfl rfl (Nat.le_of_ble_eq_true rfl) (fun z hz => tX3_ageMessage hz) hf (fun z3 hf => ?_)
      refine x_iinc 36 C (v1 + (nI 1)) (lv2 := [(1, .int (v1 + (nI 1))), (0, .ref (ad 22))]) dX4_makeTick_33 1 rfl rfl rfl (Nat.le_of_ble_eq_true rfl) rfl ?_
      refine x_goto 6 C dX4_makeTick_36 (by decide) ?_
      refine x_sub [1, 0] rfl ?_
      exact Hb6 _ _ hf
set_option maxRecDepth 20000 in
set_option maxHeartbeats 1000000 in
theorem tX4_makeTick_L6 {l : Launch} {Y : xY} {X : xE} {ad : Nat → Nat} {fr : va_W} {z0 : Int32 × xM} (C : xC Y X cX4_makeTick RX4 (some .boolean) 3 5 107) (HQ : xRI Y X (wC Y ad fr) z0.1 z0.2)   (k39 : xM → Option (Int32 × xM)) (Hk39 : ∀ (M : xM), k39 M = some z0 → xG Y l X (wC Y ad fr) M 39 [(0, .ref (ad 22))] []) : ∀ (n : Nat) (M : xM) (v1 : Int32), fX4_makeTick_L6 k39 n M v1 = some z0 → xG Y l X (wC Y ad fr) M 6 [(0, .ref (ad 22)), (1, .int v1)] [] := by
  intro n
  induction n with
  | zero =>
    intro M v1 hf
    cases hf
  | succ n ih =>
    intro M v1 hf
    exact tX4_makeTick_B6 C HQ   _ Hk39 M v1 _ (fun M v1 hf => ih M v1 hf) hf
set_option maxRecDepth 20000 in
set_option maxHeartbeats 1000000 in
theorem tX4_makeTick {l : Launch} {Y : xY} {ad : Nat → Nat} {fr : va_W} {M : xM}  {z0 : Int32 × xM} (hf : fX4_makeTick M = some z0) : xcI l Y (wC Y ad fr) yX4_makeTick cX4_makeTick 3 (some .boolean) 5 107 [.ref (ad 22)] M z0.1 z0.2 := by
  refine x_entryI [(0, .ref (ad 22))] pnX4 rfl (Nat.le_of_ble_eq_true rfl) rfl (fun X C HQ => ?_)
  unfold fX4_makeTick at hf
  refine x_alN 1 C dX4_makeTick_0 0 rfl rfl rfl ?_
  refine x_cvVM 4 C [] hwX4_sendMessages mq_453 dX4_makeTick_1 rfl ⟨Nat.le_of_ble_eq_true rfl, Nat.le_of_ble_eq_true rfl⟩ 22 wC_at_22 rfl rfl rfl (Nat.le_of_ble_eq_true rfl) (fun z hz => tX4_sendMessages hz) hf (fun z1 hf => ?_)
  refine x_iconst 5 C (nI 0) dX4_makeTick_4 ki_0 rfl ?_
  refine x_isN 6 C 1 (lv2 := [(1, .int (nI 0)), (0, .ref (ad 22))]) dX4_makeTick_5 rfl rfl (Nat.le_of_ble_eq_true rfl) rfl ?_
  refine x_sub [1, 0] rfl ?_
  refine tX4_makeTick_L6 C HQ  _ (fun M4 hf => ?_) 512 _ _ hf
  refine x_alN 40 C dX4_makeTick_39 0 rfl rfl rfl ?_
  refine xgX4_1 43 C mq_219 dX4_makeTick_40 rfl ?_
  refine x_cvIM 46 C [] hwX0_elect mq_488 dX4_makeTick_43 rfl ⟨Nat.le_of_ble_eq_true rfl, Nat.le_of_ble_eq_true rfl⟩ 15 wC_at_15 rfl rfl rfl (Nat.le_of_ble_eq_true rfl) (fun z hz => tX0_elect hz) hf (fun z5 hf => ?_)
  refine x_isN 47 C 1 (lv2 := [(1, .int z5.1), (0, .ref (ad 22))]) dX4_makeTick_46 rfl rfl (Nat.le_of_ble_eq_true rfl) rfl ?_
  refine x_alN 48 C dX4_makeTick_47 1 rfl rfl rfl ?_
  refine x_cvIM 51 C [] hwX4_moveStates mq_489 dX4_makeTick_48 rfl ⟨Nat.le_of_ble_eq_true rfl, Nat.le_of_ble_eq_true rfl⟩ 22 wC_at_22 rfl rfl rfl (Nat.le_of_ble_eq_true rfl) (fun z hz => tX4_moveStates hz) hf (fun z6 hf => ?_)
  refine x_isN 52 C 2 (lv2 := [(2, .int z6.1), (1, .int z5.1), (0, .ref (ad 22))]) dX4_makeTick_51 rfl rfl (Nat.le_of_ble_eq_true rfl) rfl ?_
  refine x_alN 53 C dX4_makeTick_52 2 rfl rfl rfl ?_
  refine xgX4_0 56 C mq_218 dX4_makeTick_53 rfl ?_
  refine x_cvVM 59 C [] hwX3_ageEntries mq_505 dX4_makeTick_56 rfl ⟨Nat.le_of_ble_eq_true rfl, Nat.le_of_ble_eq_true rfl⟩ 0 wC_at_0 rfl rfl rfl (Nat.le_of_ble_eq_true rfl) (fun z hz => tX3_ageEntries hz) hf (fun z7 hf => ?_)
  refine x_alN 60 C dX4_makeTick_59 2 rfl rfl rfl ?_
  refine xgX4_0 63 C mq_218 dX4_makeTick_60 rfl ?_
  refine x_dup 64 C dX4_makeTick_63 rfl rfl ?_
  refine xgX3_4 67 C mq_98 dX4_makeTick_64 rfl ?_
  refine x_iconst 68 C (nI 1) dX4_makeTick_67 ki_1 rfl ?_
  refine x_iadd 69 C dX4_makeTick_68 rfl ?_
  refine xpX3_4 72 C mq_98 dX4_makeTick_69 rfl hf (fun M8 hf => ?_)
  refine x_ilN 73 C dX4_makeTick_72 1 rfl rfl rfl ?_
  refine x_if_ne 76 C 80 dX4_makeTick_73 (by decide) rfl hf (fun hf => ?_) (fun hf => ?_)
  ·
    refine x_iconst 81 C (nI 1) dX4_makeTick_80 ki_1 rfl ?_
    refine x_goto 85 C dX4_makeTick_81 (by decide) ?_
    exact x_iretM C HQ rfl rfl dX4_makeTick_85 hf
  ·
    refine x_ilN 77 C dX4_makeTick_76 0 rfl rfl rfl ?_
    refine x_if_eq 80 C 84 dX4_makeTick_77 (by decide) rfl hf (fun hf => ?_) (fun hf => ?_)
    ·
      refine x_iconst 85 C (nI 0) dX4_makeTick_84 ki_0 rfl ?_
      exact x_iretM C HQ rfl rfl dX4_makeTick_85 hf
    ·
      refine x_iconst 81 C (nI 1) dX4_makeTick_80 ki_1 rfl ?_
      refine x_goto 85 C dX4_makeTick_81 (by decide) ?_
      exact x_iretM C HQ rfl rfl dX4_makeTick_85 hf
set_option maxRecDepth 20000 in
set_option maxHeartbeats 1000000 in
theorem tX5_countVertices_B10 {l : Launch} {Y : xY} {X : xE} {ad : Nat → Nat} {fr : va_W} {M0 : xM} {z0 : Int32} (C : xC Y X cX5_countVertices RX5 (some .int) 3 1 21) (HQ : xRI Y X (wC Y ad fr) z0 M0)   (k41 : Int32 → Option (Int32)) (Hk41 : ∀ (v1 : Int32), k41 v1 = some z0 → xG Y l X (wC Y ad fr) M0 41 [(1, .int v1)] []) (v1 : Int32) (v2 : Int32) (b10 : Int32 → Int32 → Option (Int32)) (Hb10 : ∀ (v1 : Int32) (v2 : Int32), b10 v1 v2 = some z0 → xG Y l X (wC Y ad fr) M0 10 [(0, .ref (ad 30)), (1, .int v1), (2, .int v2)] []) (hf : fX5_countVertices_B10 M0 k41 v1 v2 b10 = some z0) : xG Y l X (wC Y ad fr) M0 10 [(0, .ref (ad 30)), (1, .int v1), (2, .int v2)] [] := by
  unfold fX5_countVertices_B10 at hf
  refine x_ilN 11 C dX5_countVertices_10 2 rfl rfl rfl ?_
  refine x_alN 12 C dX5_countVertices_11 0 rfl rfl rfl ?_
  refine xgX5_0 15 C mq_262 dX5_countVertices_12 rfl ?_
  refine xgX3_0 18 C mq_84 dX5_countVertices_15 rfl ?_
  refine x_icmp_ge 21 C 41 dX5_countVertices_18 (by decide) rfl hf (fun hf => ?_) (fun hf => ?_)
  ·
    refine x_sub [1] rfl ?_
    exact Hk41 _ hf
  ·
    refine x_alN 22 C dX5_countVertices_21 0 rfl rfl rfl ?_
    refine xgX5_0 25 C mq_262 dX5_countVertices_22 rfl ?_
    refine x_ilN 26 C dX5_countVertices_25 2 rfl rfl rfl ?_
    refine x_cvIP 29 C [.int v2] hwX3_isBridgeUp mq_566 dX5_countVertices_26 rfl ⟨Nat.le_of_ble_eq_true rfl, Nat.le_of_ble_eq_true rfl⟩ 0 wC_at_0 rfl rfl rfl (Nat.le_of_ble_eq_true rfl) (fun z hz => tX3_isBridgeUp hz) hf (fun z1 hf => ?_)
    refine x_if_eq 32 C 35 dX5_countVertices_29 (by decide) rfl hf (fun hf => ?_) (fun hf => ?_)
    ·
      refine x_iinc 38 C (v2 + (nI 1)) (lv2 := [(2, .int (v2 + (nI 1))), (0, .ref (ad 30)), (1, .int v1)]) dX5_countVertices_35 2 rfl rfl rfl (Nat.le_of_ble_eq_true rfl) rfl ?_
      refine x_goto 10 C dX5_countVertices_38 (by decide) ?_
      refine x_sub [1, 2, 0] rfl ?_
      exact Hb10 _ _ hf
    ·
      refine x_iinc 35 C (v1 + (nI 1)) (lv2 := [(1, .int (v1 + (nI 1))), (0, .ref (ad 30)), (2, .int v2)]) dX5_countVertices_32 1 rfl rfl rfl (Nat.le_of_ble_eq_true rfl) rfl ?_
      refine x_iinc 38 C (v2 + (nI 1)) (lv2 := [(2, .int (v2 + (nI 1))), (1, .int (v1 + (nI 1))), (0, .ref (ad 30))]) dX5_countVertices_35 2 rfl rfl rfl (Nat.le_of_ble_eq_true rfl) rfl ?_
      refine x_goto 10 C dX5_countVertices_38 (by decide) ?_
      refine x_sub [2, 1, 0] rfl ?_
      exact Hb10 _ _ hf
set_option maxRecDepth 20000 in
set_option maxHeartbeats 1000000 in
theorem tX5_countVertices_L10 {l : Launch} {Y : xY} {X : xE} {ad : Nat → Nat} {fr : va_W} {M0 : xM} {z0 : Int32} (C : xC Y X cX5_countVertices RX5 (some .int) 3 1 21) (HQ : xRI Y X (wC Y ad fr) z0 M0)   (k41 : Int32 → Option (Int32)) (Hk41 : ∀ (v1 : Int32), k41 v1 = some z0 → xG Y l X (wC Y ad fr) M0 41 [(1, .int v1)] []) : ∀ (n : Nat) (v1 : Int32) (v2 : Int32), fX5_countVertices_L10 M0 k41 n v1 v2 = some z0 → xG Y l X (wC Y ad fr) M0 10 [(0, .ref (ad 30)), (1, .int v1), (2, .int v2)] [] := by
  intro n
  induction n with
  | zero =>
    intro v1 v2 hf
    cases hf
  | succ n ih =>
    intro v1 v2 hf
    exact tX5_countVertices_B10 C HQ   _ Hk41 v1 v2 _ (fun v1 v2 hf => ih v1 v2 hf) hf
set_option maxRecDepth 20000 in
set_option maxHeartbeats 1000000 in
theorem tX5_countVertices {l : Launch} {Y : xY} {ad : Nat → Nat} {fr : va_W} {M : xM}  {z0 : Int32} (hf : fX5_countVertices M = some z0) : xcI l Y (wC Y ad fr) yX5_countVertices cX5_countVertices 3 (some .int) 1 21 [.ref (ad 30)] M z0 M := by
  refine x_entryI [(0, .ref (ad 30))] pnX5 rfl (Nat.le_of_ble_eq_true rfl) rfl (fun X C HQ => ?_)
  unfold fX5_countVertices at hf
  refine x_alN 1 C dX5_countVertices_0 0 rfl rfl rfl ?_
  refine xgX5_0 4 C mq_262 dX5_countVertices_1 rfl ?_
  refine xgX3_1 7 C mq_88 dX5_countVertices_4 rfl ?_
  refine x_isN 8 C 1 (lv2 := [(1, .int (M.1 0 1)), (0, .ref (ad 30))]) dX5_countVertices_7 rfl rfl (Nat.le_of_ble_eq_true rfl) rfl ?_
  refine x_iconst 9 C (nI 0) dX5_countVertices_8 ki_0 rfl ?_
  refine x_isN 10 C 2 (lv2 := [(2, .int (nI 0)), (1, .int (M.1 0 1)), (0, .ref (ad 30))]) dX5_countVertices_9 rfl rfl (Nat.le_of_ble_eq_true rfl) rfl ?_
  refine x_sub [2, 1, 0] rfl ?_
  refine tX5_countVertices_L10 C HQ  _ (fun v2 hf => ?_) 512 _ _ hf
  refine x_ilN 42 C dX5_countVertices_41 0 rfl rfl rfl ?_
  exact x_iretP C HQ rfl (vp_nar_int _) dX5_countVertices_42 hf
set_option maxRecDepth 20000 in
set_option maxHeartbeats 1000000 in
theorem tX5_join_B43 {l : Launch} {Y : xY} {X : xE} {ad : Nat → Nat} {fr : va_W} {z0 : Int32 × xM} (C : xC Y X cX5_join RX5 (some .boolean) 5 0 0) (HQ : xRI Y X (wC Y ad fr) z0.1 z0.2)  (v2 : Int32) (v3 : Int32) (k78 : xM → Option (Int32 × xM)) (Hk78 : ∀ (M : xM), k78 M = some z0 → xG Y l X (wC Y ad fr) M 78 [] []) (M : xM) (v4 : Int32) (b43 : xM → Int32 → Option (Int32 × xM)) (Hb43 : ∀ (M : xM) (v4 : Int32), b43 M v4 = some z0 → xG Y l X (wC Y ad fr) M 43 [(0, .ref (ad 30)), (2, .int v2), (3, .int v3), (4, .int v4)] []) (hf : fX5_join_B43 v2 v3 k78 M v4 b43 = some z0) : xG Y l X (wC Y ad fr) M 43 [(0, .ref (ad 30)), (2, .int v2), (3, .int v3), (4, .int v4)] [] := by
  unfold fX5_join_B43 at hf
  refine x_il 45 C dX5_join_43 3 rfl rfl ?_
  refine x_alN 46 C dX5_join_45 0 rfl rfl rfl ?_
  refine xgX5_1 49 C mq_263 dX5_join_46 rfl ?_
  refine x_alenI 50 C 31 (nI 18) wC_at_31 rfl dX5_join_49 rfl ?_
  refine x_icmp_ge 53 C 78 dX5_join_50 (by decide) rfl hf (fun hf => ?_) (fun hf => ?_)
  ·
    refine x_sub [] rfl ?_
    exact Hk78 _ hf
  ·
    refine x_alN 54 C dX5_join_53 0 rfl rfl rfl ?_
    refine xgX5_1 57 C mq_263 dX5_join_54 rfl ?_
    refine x_il 59 C dX5_join_57 3 rfl rfl ?_
    refine xrC_31 60 C dX5_join_59 rfl hf (fun x5 hf => ?_)
    refine x_ilN 61 C dX5_join_60 2 rfl rfl rfl ?_
    refine x_icmp_ne 64 C 72 dX5_join_61 (by decide) rfl hf (fun hf => ?_) (fun hf => ?_)
    ·
      refine x_iinc 75 C (v4 + (nI 1)) (lv2 := [(4, .int (v4 + (nI 1))), (0, .ref (ad 30)), (2, .int v2), (3, .int v3)]) dX5_join_72 3 rfl rfl rfl (Nat.le_of_ble_eq_true rfl) rfl ?_
      refine x_goto 43 C dX5_join_75 (by decide) ?_
      refine x_sub [1, 2, 3, 0] rfl ?_
      exact Hb43 _ _ hf
    ·
      refine x_alN 65 C dX5_join_64 0 rfl rfl rfl ?_
      refine xgX5_1 68 C mq_263 dX5_join_65 rfl ?_
      refine x_il 70 C dX5_join_68 3 rfl rfl ?_
      refine x_ilN 71 C dX5_join_70 1 rfl rfl rfl ?_
      refine xwC_31 72 C dX5_join_71 rfl hf (fun M6 hf => ?_)
      refine x_iinc 75 C (v4 + (nI 1)) (lv2 := [(4, .int (v4 + (nI 1))), (0, .ref (ad 30)), (2, .int v2), (3, .int v3)]) dX5_join_72 3 rfl rfl rfl (Nat.le_of_ble_eq_true rfl) rfl ?_
      refine x_goto 43 C dX5_join_75 (by decide) ?_
      refine x_sub [1, 2, 3, 0] rfl ?_
      exact Hb43 _ _ hf
set_option maxRecDepth 20000 in
set_option maxHeartbeats 1000000 in
theorem tX5_join_L43 {l : Launch} {Y : xY} {X : xE} {ad : Nat → Nat} {fr : va_W} {z0 : Int32 × xM} (C : xC Y X cX5_join RX5 (some .boolean) 5 0 0) (HQ : xRI Y X (wC Y ad fr) z0.1 z0.2)  (v2 : Int32) (v3 : Int32) (k78 : xM → Option (Int32 × xM)) (Hk78 : ∀ (M : xM), k78 M = some z0 → xG Y l X (wC Y ad fr) M 78 [] []) : ∀ (n : Nat) (M : xM) (v4 : Int32), fX5_join_L43 v2 v3 k78 n M v4 = some z0 → xG Y l X (wC Y ad fr) M 43 [(0, .ref (ad 30)), (2, .int v2), (3, .int v3), (4, .int v4)] [] := by
  intro n
  induction n with
  | zero =>
    intro M v4 hf
    cases hf
  | succ n ih =>
    intro M v4 hf
    exact tX5_join_B43 C HQ  v2 v3 _ Hk78 M v4 _ (fun M v4 hf => ih M v4 hf) hf
set_option maxRecDepth 20000 in
set_option maxHeartbeats 1000000 in
theorem tX5_join {l : Launch} {Y : xY} {ad : Nat → Nat} {fr : va_W} {M : xM} {p1 : Int32} {z0 : Int32 × xM} (hf : fX5_join M p1 = some z0) : xcI l Y (wC Y ad fr) yX5_join cX5_join 5 (some .boolean) 0 0 [.ref (ad 30), .int p1] M z0.1 z0.2 := by
  refine x_entryI [(0, .ref (ad 30)), (1, .int p1)] pnX5 rfl (Nat.le_of_ble_eq_true rfl) rfl (fun X C HQ => ?_)
  unfold fX5_join at hf
  refine x_alN 1 C dX5_join_0 0 rfl rfl rfl ?_
  refine xgX5_1 4 C mq_263 dX5_join_1 rfl ?_
  refine x_alN 5 C dX5_join_4 0 rfl rfl rfl ?_
  refine xgX5_0 8 C mq_262 dX5_join_5 rfl ?_
  refine xgX3_8 11 C mq_111 dX5_join_8 rfl ?_
  refine x_ilN 12 C dX5_join_11 1 rfl rfl rfl ?_
  refine xrC_4 13 C dX5_join_12 rfl hf (fun x1 hf => ?_)
  refine xrC_31 14 C dX5_join_13 rfl hf (fun x2 hf => ?_)
  refine x_isN 15 C 2 (lv2 := [(2, .int x2), (0, .ref (ad 30)), (1, .int p1)]) dX5_join_14 rfl rfl (Nat.le_of_ble_eq_true rfl) rfl ?_
  refine x_alN 16 C dX5_join_15 1 rfl rfl rfl ?_
  refine xgX5_1 19 C mq_263 dX5_join_16 rfl ?_
  refine x_bipush 21 C (nI 10) dX5_join_19 kb_10 rfl ?_
  refine x_alN 22 C dX5_join_21 1 rfl rfl rfl ?_
  refine xgX5_0 25 C mq_262 dX5_join_22 rfl ?_
  refine xgX3_7 28 C mq_106 dX5_join_25 rfl ?_
  refine x_ilN 29 C dX5_join_28 2 rfl rfl rfl ?_
  refine xrC_3 30 C dX5_join_29 rfl hf (fun x3 hf => ?_)
  refine x_iadd 31 C dX5_join_30 rfl ?_
  refine xrC_31 32 C dX5_join_31 rfl hf (fun x4 hf => ?_)
  refine x_isN 33 C 3 (lv2 := [(3, .int x4), (2, .int x2), (0, .ref (ad 30)), (1, .int p1)]) dX5_join_32 rfl rfl (Nat.le_of_ble_eq_true rfl) rfl ?_
  refine x_ilN 34 C dX5_join_33 1 rfl rfl rfl ?_
  refine x_ilN 35 C dX5_join_34 0 rfl rfl rfl ?_
  refine x_icmp_ne 38 C 40 dX5_join_35 (by decide) rfl hf (fun hf => ?_) (fun hf => ?_)
  ·
    refine x_iconst 41 C (nI 0) dX5_join_40 ki_0 rfl ?_
    refine x_is 43 C 4 (lv2 := [(4, .int (nI 0)), (3, .int x4), (2, .int x2), (0, .ref (ad 30)), (1, .int p1)]) dX5_join_41 rfl (Nat.le_of_ble_eq_true rfl) rfl ?_
    refine x_sub [3, 2, 1, 0] rfl ?_
    refine tX5_join_L43 C HQ _ _ _ (fun M7 hf => ?_) 512 _ _ hf
    refine x_iconst 79 C (nI 1) dX5_join_78 ki_1 rfl ?_
    exact x_iretM C HQ rfl rfl dX5_join_79 hf
  ·
    refine x_iconst 39 C (nI 0) dX5_join_38 ki_0 rfl ?_
    exact x_iretM C HQ rfl rfl dX5_join_39 hf
set_option maxRecDepth 20000 in
set_option maxHeartbeats 1000000 in
theorem tX5_countParts_B2 {l : Launch} {Y : xY} {X : xE} {ad : Nat → Nat} {fr : va_W} {z0 : Int32 × xM} (C : xC Y X cX5_countParts RX5 (some .int) 3 2 43) (HQ : xRI Y X (wC Y ad fr) z0.1 z0.2)   (k24 : xM → Option (Int32 × xM)) (Hk24 : ∀ (M : xM), k24 M = some z0 → xG Y l X (wC Y ad fr) M 24 [(0, .ref (ad 30))] []) (M : xM) (v1 : Int32) (b2 : xM → Int32 → Option (Int32 × xM)) (Hb2 : ∀ (M : xM) (v1 : Int32), b2 M v1 = some z0 → xG Y l X (wC Y ad fr) M 2 [(0, .ref (ad 30)), (1, .int v1)] []) (hf : fX5_countParts_B2 k24 M v1 b2 = some z0) : xG Y l X (wC Y ad fr) M 2 [(0, .ref (ad 30)), (1, .int v1)] [] := by
  unfold fX5_countParts_B2 at hf
  refine x_ilN 3 C dX5_countParts_2 1 rfl rfl rfl ?_
  refine x_alN 4 C dX5_countParts_3 0 rfl rfl rfl ?_
  refine xgX5_1 7 C mq_263 dX5_countParts_4 rfl ?_
  refine x_alenI 8 C 31 (nI 18) wC_at_31 rfl dX5_countParts_7 rfl ?_
  refine x_icmp_ge 11 C 24 dX5_countParts_8 (by decide) rfl hf (fun hf => ?_) (fun hf => ?_)
  ·
    refine x_sub [0] rfl ?_
    exact Hk24 _ hf
  ·
    refine x_alN 12 C dX5_countParts_11 0 rfl rfl rfl ?_
    refine xgX5_1 15 C mq_263 dX5_countParts_12 rfl ?_
    refine x_ilN 16 C dX5_countParts_15 1 rfl rfl rfl ?_
    refine x_ilN 17 C dX5_countParts_16 1 rfl rfl rfl ?_
    refine xwC_31 18 C dX5_countParts_17 rfl hf (fun M1 hf => ?_)
    refine x_iinc 21 C (v1 + (nI 1)) (lv2 := [(1, .int (v1 + (nI 1))), (0, .ref (ad 30))]) dX5_countParts_18 1 rfl rfl rfl (Nat.le_of_ble_eq_true rfl) rfl ?_
    refine x_goto 2 C dX5_countParts_21 (by decide) ?_
    refine x_sub [1, 0] rfl ?_
    exact Hb2 _ _ hf
set_option maxRecDepth 20000 in
set_option maxHeartbeats 1000000 in
theorem tX5_countParts_L2 {l : Launch} {Y : xY} {X : xE} {ad : Nat → Nat} {fr : va_W} {z0 : Int32 × xM} (C : xC Y X cX5_countParts RX5 (some .int) 3 2 43) (HQ : xRI Y X (wC Y ad fr) z0.1 z0.2)   (k24 : xM → Option (Int32 × xM)) (Hk24 : ∀ (M : xM), k24 M = some z0 → xG Y l X (wC Y ad fr) M 24 [(0, .ref (ad 30))] []) : ∀ (n : Nat) (M : xM) (v1 : Int32), fX5_countParts_L2 k24 n M v1 = some z0 → xG Y l X (wC Y ad fr) M 2 [(0, .ref (ad 30)), (1, .int v1)] [] := by
  intro n
  induction n with
  | zero =>
    intro M v1 hf
    cases hf
  | succ n ih =>
    intro M v1 hf
    exact tX5_countParts_B2 C HQ   _ Hk24 M v1 _ (fun M v1 hf => ih M v1 hf) hf
set_option maxRecDepth 20000 in
set_option maxHeartbeats 1000000 in
theorem tX5_countParts_B31 {l : Launch} {Y : xY} {X : xE} {ad : Nat → Nat} {fr : va_W} {z0 : Int32 × xM} (C : xC Y X cX5_countParts RX5 (some .int) 3 2 43) (HQ : xRI Y X (wC Y ad fr) z0.1 z0.2)   (k70 : xM → Int32 → Option (Int32 × xM)) (Hk70 : ∀ (M : xM) (v1 : Int32), k70 M v1 = some z0 → xG Y l X (wC Y ad fr) M 70 [(1, .int v1)] []) (M : xM) (v1 : Int32) (v2 : Int32) (b31 : xM → Int32 → Int32 → Option (Int32 × xM)) (Hb31 : ∀ (M : xM) (v1 : Int32) (v2 : Int32), b31 M v1 v2 = some z0 → xG Y l X (wC Y ad fr) M 31 [(0, .ref (ad 30)), (1, .int v1), (2, .int v2)] []) (hf : fX5_countParts_B31 k70 M v1 v2 b31 = some z0) : xG Y l X (wC Y ad fr) M 31 [(0, .ref (ad 30)), (1, .int v1), (2, .int v2)] [] := by
  unfold fX5_countParts_B31 at hf
  refine x_ilN 32 C dX5_countParts_31 2 rfl rfl rfl ?_
  refine x_alN 33 C dX5_countParts_32 0 rfl rfl rfl ?_
  refine xgX5_0 36 C mq_262 dX5_countParts_33 rfl ?_
  refine xgX3_2 39 C mq_91 dX5_countParts_36 rfl ?_
  refine x_icmp_ge 42 C 70 dX5_countParts_39 (by decide) rfl hf (fun hf => ?_) (fun hf => ?_)
  ·
    refine x_sub [1] rfl ?_
    exact Hk70 _ _ hf
  ·
    refine x_alN 43 C dX5_countParts_42 0 rfl rfl rfl ?_
    refine xgX5_0 46 C mq_262 dX5_countParts_43 rfl ?_
    refine x_ilN 47 C dX5_countParts_46 2 rfl rfl rfl ?_
    refine x_cvIP 50 C [.int v2] hwX3_isForwarding mq_567 dX5_countParts_47 rfl ⟨Nat.le_of_ble_eq_true rfl, Nat.le_of_ble_eq_true rfl⟩ 0 wC_at_0 rfl rfl rfl (Nat.le_of_ble_eq_true rfl) (fun z hz => tX3_isForwarding hz) hf (fun z4 hf => ?_)
    refine x_if_eq 53 C 64 dX5_countParts_50 (by decide) rfl hf (fun hf => ?_) (fun hf => ?_)
    ·
      refine x_iinc 67 C (v2 + (nI 1)) (lv2 := [(2, .int (v2 + (nI 1))), (0, .ref (ad 30)), (1, .int v1)]) dX5_countParts_64 2 rfl rfl rfl (Nat.le_of_ble_eq_true rfl) rfl ?_
      refine x_goto 31 C dX5_countParts_67 (by decide) ?_
      refine x_sub [1, 2, 0] rfl ?_
      exact Hb31 _ _ _ hf
    ·
      refine x_alN 54 C dX5_countParts_53 0 rfl rfl rfl ?_
      refine x_ilN 55 C dX5_countParts_54 2 rfl rfl rfl ?_
      refine x_cvIM 58 C [.int v2] hwX5_join mq_571 dX5_countParts_55 rfl ⟨Nat.le_of_ble_eq_true rfl, Nat.le_of_ble_eq_true rfl⟩ 30 wC_at_30 rfl rfl rfl (Nat.le_of_ble_eq_true rfl) (fun z hz => tX5_join hz) hf (fun z5 hf => ?_)
      refine x_if_eq 61 C 64 dX5_countParts_58 (by decide) rfl hf (fun hf => ?_) (fun hf => ?_)
      ·
        refine x_iinc 67 C (v2 + (nI 1)) (lv2 := [(2, .int (v2 + (nI 1))), (0, .ref (ad 30)), (1, .int v1)]) dX5_countParts_64 2 rfl rfl rfl (Nat.le_of_ble_eq_true rfl) rfl ?_
        refine x_goto 31 C dX5_countParts_67 (by decide) ?_
        refine x_sub [1, 2, 0] rfl ?_
        exact Hb31 _ _ _ hf
      ·
        refine x_iinc 64 C (v1 + (-1)) (lv2 := [(1, .int (v1 + (-1))), (0, .ref (ad 30)), (2, .int v2)]) dX5_countParts_61 1 rfl rfl rfl (Nat.le_of_ble_eq_true rfl) rfl ?_
        refine x_iinc 67 C (v2 + (nI 1)) (lv2 := [(2, .int (v2 + (nI 1))), (1, .int (v1 + (-1))), (0, .ref (ad 30))]) dX5_countParts_64 2 rfl rfl rfl (Nat.le_of_ble_eq_true rfl) rfl ?_
        refine x_goto 31 C dX5_countParts_67 (by decide) ?_
        refine x_sub [2, 1, 0] rfl ?_
        exact Hb31 _ _ _ hf
set_option maxRecDepth 20000 in
set_option maxHeartbeats 1000000 in
theorem tX5_countParts_L31 {l : Launch} {Y : xY} {X : xE} {ad : Nat → Nat} {fr : va_W} {z0 : Int32 × xM} (C : xC Y X cX5_countParts RX5 (some .int) 3 2 43) (HQ : xRI Y X (wC Y ad fr) z0.1 z0.2)   (k70 : xM → Int32 → Option (Int32 × xM)) (Hk70 : ∀ (M : xM) (v1 : Int32), k70 M v1 = some z0 → xG Y l X (wC Y ad fr) M 70 [(1, .int v1)] []) : ∀ (n : Nat) (M : xM) (v1 : Int32) (v2 : Int32), fX5_countParts_L31 k70 n M v1 v2 = some z0 → xG Y l X (wC Y ad fr) M 31 [(0, .ref (ad 30)), (1, .int v1), (2, .int v2)] [] := by
  intro n
  induction n with
  | zero =>
    intro M v1 v2 hf
    cases hf
  | succ n ih =>
    intro M v1 v2 hf
    exact tX5_countParts_B31 C HQ   _ Hk70 M v1 v2 _ (fun M v1 v2 hf => ih M v1 v2 hf) hf
set_option maxRecDepth 20000 in
set_option maxHeartbeats 1000000 in
theorem tX5_countParts {l : Launch} {Y : xY} {ad : Nat → Nat} {fr : va_W} {M : xM}  {z0 : Int32 × xM} (hf : fX5_countParts M = some z0) : xcI l Y (wC Y ad fr) yX5_countParts cX5_countParts 3 (some .int) 2 43 [.ref (ad 30)] M z0.1 z0.2 := by
  refine x_entryI [(0, .ref (ad 30))] pnX5 rfl (Nat.le_of_ble_eq_true rfl) rfl (fun X C HQ => ?_)
  unfold fX5_countParts at hf
  refine x_iconst 1 C (nI 0) dX5_countParts_0 ki_0 rfl ?_
  refine x_isN 2 C 1 (lv2 := [(1, .int (nI 0)), (0, .ref (ad 30))]) dX5_countParts_1 rfl rfl (Nat.le_of_ble_eq_true rfl) rfl ?_
  refine x_sub [1, 0] rfl ?_
  refine tX5_countParts_L2 C HQ  _ (fun M2 hf => ?_) 512 _ _ hf
  refine x_alN 25 C dX5_countParts_24 0 rfl rfl rfl ?_
  refine x_cvIP 28 C [] hwX5_countVertices mq_562 dX5_countParts_25 rfl ⟨Nat.le_of_ble_eq_true rfl, Nat.le_of_ble_eq_true rfl⟩ 30 wC_at_30 rfl rfl rfl (Nat.le_of_ble_eq_true rfl) (fun z hz => tX5_countVertices hz) hf (fun z3 hf => ?_)
  refine x_isN 29 C 1 (lv2 := [(1, .int z3), (0, .ref (ad 30))]) dX5_countParts_28 rfl rfl (Nat.le_of_ble_eq_true rfl) rfl ?_
  refine x_iconst 30 C (nI 0) dX5_countParts_29 ki_0 rfl ?_
  refine x_isN 31 C 2 (lv2 := [(2, .int (nI 0)), (1, .int z3), (0, .ref (ad 30))]) dX5_countParts_30 rfl rfl (Nat.le_of_ble_eq_true rfl) rfl ?_
  refine x_sub [2, 1, 0] rfl ?_
  refine tX5_countParts_L31 C HQ  _ (fun M7 v6 hf => ?_) 512 _ _ _ hf
  refine x_ilN 71 C dX5_countParts_70 0 rfl rfl rfl ?_
  exact x_iretM C HQ rfl (vp_nar_int _) dX5_countParts_71 hf
set_option maxRecDepth 20000 in
set_option maxHeartbeats 1000000 in
theorem tX5_countLoops_B4 {l : Launch} {Y : xY} {X : xE} {ad : Nat → Nat} {fr : va_W} {z0 : Int32 × xM} (C : xC Y X cX5_countLoops RX5 (some .int) 3 3 65) (HQ : xRI Y X (wC Y ad fr) z0.1 z0.2) (M : xM)   (k35 : Int32 → Option (Int32 × xM)) (Hk35 : ∀ (v1 : Int32), k35 v1 = some z0 → xG Y l X (wC Y ad fr) M 35 [(0, .ref (ad 30)), (1, .int v1)] []) (v1 : Int32) (v2 : Int32) (b4 : Int32 → Int32 → Option (Int32 × xM)) (Hb4 : ∀ (v1 : Int32) (v2 : Int32), b4 v1 v2 = some z0 → xG Y l X (wC Y ad fr) M 4 [(0, .ref (ad 30)), (1, .int v1), (2, .int v2)] []) (hf : fX5_countLoops_B4 M k35 v1 v2 b4 = some z0) : xG Y l X (wC Y ad fr) M 4 [(0, .ref (ad 30)), (1, .int v1), (2, .int v2)] [] := by
  unfold fX5_countLoops_B4 at hf
  refine x_ilN 5 C dX5_countLoops_4 2 rfl rfl rfl ?_
  refine x_alN 6 C dX5_countLoops_5 0 rfl rfl rfl ?_
  refine xgX5_0 9 C mq_262 dX5_countLoops_6 rfl ?_
  refine xgX3_2 12 C mq_91 dX5_countLoops_9 rfl ?_
  refine x_icmp_ge 15 C 35 dX5_countLoops_12 (by decide) rfl hf (fun hf => ?_) (fun hf => ?_)
  ·
    refine x_sub [0, 1] rfl ?_
    exact Hk35 _ hf
  ·
    refine x_alN 16 C dX5_countLoops_15 0 rfl rfl rfl ?_
    refine xgX5_0 19 C mq_262 dX5_countLoops_16 rfl ?_
    refine x_ilN 20 C dX5_countLoops_19 2 rfl rfl rfl ?_
    refine x_cvIP 23 C [.int v2] hwX3_isForwarding mq_567 dX5_countLoops_20 rfl ⟨Nat.le_of_ble_eq_true rfl, Nat.le_of_ble_eq_true rfl⟩ 0 wC_at_0 rfl rfl rfl (Nat.le_of_ble_eq_true rfl) (fun z hz => tX3_isForwarding hz) hf (fun z1 hf => ?_)
    refine x_if_eq 26 C 29 dX5_countLoops_23 (by decide) rfl hf (fun hf => ?_) (fun hf => ?_)
    ·
      refine x_iinc 32 C (v2 + (nI 1)) (lv2 := [(2, .int (v2 + (nI 1))), (0, .ref (ad 30)), (1, .int v1)]) dX5_countLoops_29 2 rfl rfl rfl (Nat.le_of_ble_eq_true rfl) rfl ?_
      refine x_goto 4 C dX5_countLoops_32 (by decide) ?_
      refine x_sub [1, 2, 0] rfl ?_
      exact Hb4 _ _ hf
    ·
      refine x_iinc 29 C (v1 + (nI 1)) (lv2 := [(1, .int (v1 + (nI 1))), (0, .ref (ad 30)), (2, .int v2)]) dX5_countLoops_26 1 rfl rfl rfl (Nat.le_of_ble_eq_true rfl) rfl ?_
      refine x_iinc 32 C (v2 + (nI 1)) (lv2 := [(2, .int (v2 + (nI 1))), (1, .int (v1 + (nI 1))), (0, .ref (ad 30))]) dX5_countLoops_29 2 rfl rfl rfl (Nat.le_of_ble_eq_true rfl) rfl ?_
      refine x_goto 4 C dX5_countLoops_32 (by decide) ?_
      refine x_sub [2, 1, 0] rfl ?_
      exact Hb4 _ _ hf
set_option maxRecDepth 20000 in
set_option maxHeartbeats 1000000 in
theorem tX5_countLoops_L4 {l : Launch} {Y : xY} {X : xE} {ad : Nat → Nat} {fr : va_W} {z0 : Int32 × xM} (C : xC Y X cX5_countLoops RX5 (some .int) 3 3 65) (HQ : xRI Y X (wC Y ad fr) z0.1 z0.2) (M : xM)   (k35 : Int32 → Option (Int32 × xM)) (Hk35 : ∀ (v1 : Int32), k35 v1 = some z0 → xG Y l X (wC Y ad fr) M 35 [(0, .ref (ad 30)), (1, .int v1)] []) : ∀ (n : Nat) (v1 : Int32) (v2 : Int32), fX5_countLoops_L4 M k35 n v1 v2 = some z0 → xG Y l X (wC Y ad fr) M 4 [(0, .ref (ad 30)), (1, .int v1), (2, .int v2)] [] := by
  intro n
  induction n with
  | zero =>
    intro v1 v2 hf
    cases hf
  | succ n ih =>
    intro v1 v2 hf
    exact tX5_countLoops_B4 C HQ M  _ Hk35 v1 v2 _ (fun v1 v2 hf => ih v1 v2 hf) hf
set_option maxRecDepth 20000 in
set_option maxHeartbeats 1000000 in
theorem tX5_countLoops {l : Launch} {Y : xY} {ad : Nat → Nat} {fr : va_W} {M : xM}  {z0 : Int32 × xM} (hf : fX5_countLoops M = some z0) : xcI l Y (wC Y ad fr) yX5_countLoops cX5_countLoops 3 (some .int) 3 65 [.ref (ad 30)] M z0.1 z0.2 := by
  refine x_entryI [(0, .ref (ad 30))] pnX5 rfl (Nat.le_of_ble_eq_true rfl) rfl (fun X C HQ => ?_)
  unfold fX5_countLoops at hf
  refine x_iconst 1 C (nI 0) dX5_countLoops_0 ki_0 rfl ?_
  refine x_isN 2 C 1 (lv2 := [(1, .int (nI 0)), (0, .ref (ad 30))]) dX5_countLoops_1 rfl rfl (Nat.le_of_ble_eq_true rfl) rfl ?_
  refine x_iconst 3 C (nI 0) dX5_countLoops_2 ki_0 rfl ?_
  refine x_isN 4 C 2 (lv2 := [(2, .int (nI 0)), (1, .int (nI 0)), (0, .ref (ad 30))]) dX5_countLoops_3 rfl rfl (Nat.le_of_ble_eq_true rfl) rfl ?_
  refine x_sub [2, 1, 0] rfl ?_
  refine tX5_countLoops_L4 C HQ _  _ (fun v2 hf => ?_) 512 _ _ hf
  refine x_ilN 36 C dX5_countLoops_35 1 rfl rfl rfl ?_
  refine x_alN 37 C dX5_countLoops_36 0 rfl rfl rfl ?_
  refine x_cvIP 40 C [] hwX5_countVertices mq_562 dX5_countLoops_37 rfl ⟨Nat.le_of_ble_eq_true rfl, Nat.le_of_ble_eq_true rfl⟩ 30 wC_at_30 rfl rfl rfl (Nat.le_of_ble_eq_true rfl) (fun z hz => tX5_countVertices hz) hf (fun z3 hf => ?_)
  refine x_isub 41 C dX5_countLoops_40 rfl ?_
  refine x_alN 42 C dX5_countLoops_41 0 rfl rfl rfl ?_
  refine x_cvIM 45 C [] hwX5_countParts mq_583 dX5_countLoops_42 rfl ⟨Nat.le_of_ble_eq_true rfl, Nat.le_of_ble_eq_true rfl⟩ 30 wC_at_30 rfl rfl rfl (Nat.le_of_ble_eq_true rfl) (fun z hz => tX5_countParts hz) hf (fun z4 hf => ?_)
  refine x_iadd 46 C dX5_countLoops_45 rfl ?_
  exact x_iretM C HQ rfl (vp_nar_int _) dX5_countLoops_46 hf
