theorem vE.ins (P Z N : va_W) : vE ((P ++ Z) ++ N) (P ++ (N ++ Z)) := by
  have h := vE.exP P Z N []
  rw [List.append_nil, List.append_nil] at h
  exact (vE.of (List.append_assoc P Z N)).tr h
theorem vE.up3 (A B N Z : va_W) : vE (A ++ (B ++ (N ++ Z))) (N ++ (A ++ (B ++ Z))) := (vE.exP A B N Z).tr (vE.ex A N (B ++ Z))
theorem vE.dn3 (A B N Z : va_W) : vE (N ++ (A ++ (B ++ Z))) (A ++ (B ++ (N ++ Z))) := (vE.ex N A (B ++ Z)).tr (vE.exP A N B Z)
theorem isl_ok (M : xM) {i : Nat} (hi : i < 2) : fX6_isSlot M (nI i) = some (nI 1) := by
  rcases (show i = 0 ∨ i = 1 by omega) with rfl | rfl
  · unfold fX6_isSlot
    rw [if_neg (by decide +kernel), if_neg (by decide +kernel)]
  · unfold fX6_isSlot
    rw [if_neg (by decide +kernel), if_neg (by decide +kernel)]
theorem isl_bad (M : xM) {p : Int32} (hp : p < nI 0 ∨ nI 2 ≤ p) : fX6_isSlot M p = some (nI 0) := by
  unfold fX6_isSlot
  by_cases h : p < nI 0
  · rw [if_pos h]
  · rw [if_neg h, if_pos (hp.resolve_left h)]
theorem isl_in {i : Nat} (hi : i < 2) : vp_in (nI i) 2 := vp_in_nI hi (by omega)
abbrev nB (Y : xY) (ad : Nat → Nat) (M : xM) (f : Nat → Option Nat) : va_W := nT Y ad M ++ [svA Y (ad 33) f]
set_option maxHeartbeats 4000000 in
set_option maxRecDepth 100000 in
theorem sv_bad (l : Launch) (Y : xY) (ad : Nat → Nat) (M : xM) (fr : va_W) {p : Int32} (hp : p < nI 0 ∨ nI 2 ≤ p) : vcI l Y vT yX6_save cX6_save 2 (some .int) 3 61 0 0 [.ref (ad 32), .int p] (wC Y ad fr M) (fun (r : Int32) (_ : Unit) => r = -5) (fun _ => wC Y ad fr M) := by
  refine v_entryI (own := RX6) [(0, .ref (ad 32)), (1, .int p)] pnX6 rfl (Nat.le_of_ble_eq_true rfl) rfl (fun X C Kr HQ => ?_)
  refine v_ilN _ C dX6_save_0 1 rfl rfl rfl ?_
  refine v_xsI _ C Kr (wf := wC Y ad fr) (M := M) (r := nI 0) (st := []) [.int p] hwX6_isSlot rfl mq_642 dX6_save_1 rfl ⟨by decide, by decide⟩ ⟨Nat.le_of_ble_eq_true rfl, Nat.le_of_ble_eq_true rfl⟩ rfl rfl (by decide) (tX6_isSlot (isl_bad M hp)) ?_
  refine v_ifne _ C 10 dX6_save_4 (by decide) rfl (fun h => absurd rfl h) (fun _ => ?_)
  refine v_bipush _ C (-5) dX6_save_7 (by decide) rfl ?_
  exact v_iret C HQ ⟨Nat.le_refl _, Nat.le_refl _⟩ rfl () rfl (vE.rf _) dX6_save_9
set_option maxHeartbeats 4000000 in
set_option maxRecDepth 100000 in
theorem rs_bad (l : Launch) (Y : xY) (ad : Nat → Nat) (M : xM) (fr : va_W) {p : Int32} (hp : p < nI 0 ∨ nI 2 ≤ p) : vcI l Y vT yX6_restore cX6_restore 2 (some .int) 3 61 0 0 [.ref (ad 32), .int p] (wC Y ad fr M) (fun (r : Int32) (_ : Unit) => r = -5) (fun _ => wC Y ad fr M) := by
  refine v_entryI (own := RX6) [(0, .ref (ad 32)), (1, .int p)] pnX6 rfl (Nat.le_of_ble_eq_true rfl) rfl (fun X C Kr HQ => ?_)
  refine v_ilN _ C dX6_restore_0 1 rfl rfl rfl ?_
  refine v_xsI _ C Kr (wf := wC Y ad fr) (M := M) (r := nI 0) (st := []) [.int p] hwX6_isSlot rfl mq_642 dX6_restore_1 rfl ⟨by decide, by decide⟩ ⟨Nat.le_of_ble_eq_true rfl, Nat.le_of_ble_eq_true rfl⟩ rfl rfl (by decide) (tX6_isSlot (isl_bad M hp)) ?_
  refine v_ifne _ C 10 dX6_restore_4 (by decide) rfl (fun h => absurd rfl h) (fun _ => ?_)
  refine v_bipush _ C (-5) dX6_restore_7 (by decide) rfl ?_
  exact v_iret C HQ ⟨Nat.le_refl _, Nat.le_refl _⟩ rfl () rfl (vE.rf _) dX6_restore_9
set_option maxHeartbeats 4000000 in
set_option maxRecDepth 100000 in
theorem sv_new (l : Launch) (Y : xY) (ad : Nat → Nat) (M : xM) (f : Nat → Option Nat) (Z : va_W) {i : Nat} (hi : i < 2) (hf : f i = none) : vcI l Y vT yX6_save cX6_save 2 (some .int) 3 61 15 373 [.ref (ad 32), .int (nI i)] (wC Y ad (svA Y (ad 33) f :: Z) M) (fun (r : Int32) (_ : Nat → Nat) => r = M.1 0 0) (fun u => wC Y ad (svA Y (ad 33) (va_up f i (some (u 0))) :: (nC Y u (cpM M0 M) ++ Z)) M) := by
  refine v_entryI (own := RX6) [(0, .ref (ad 32)), (1, .int (nI i))] pnX6 rfl (Nat.le_of_ble_eq_true rfl) rfl (fun X C Kr HQ => ?_)
  refine v_ilN _ C dX6_save_0 1 rfl rfl rfl ?_
  refine v_xsI _ C Kr (wf := wC Y ad (svA Y (ad 33) f :: Z)) (M := M) (r := nI 1) (st := []) [.int (nI i)] hwX6_isSlot rfl mq_642 dX6_save_1 rfl ⟨by decide, by decide⟩ ⟨Nat.le_of_ble_eq_true rfl, Nat.le_of_ble_eq_true rfl⟩ rfl rfl (by decide) (tX6_isSlot (isl_ok M hi)) ?_
  refine v_ifne _ C 10 dX6_save_4 (by decide) rfl (fun _ => ?_) (fun h => absurd h (by decide +kernel))
  refine v_alN _ C dX6_save_10 0 rfl rfl rfl ?_
  refine v_get _ C 32 (k := 5) (T := TX6) (v := .ref (ad 33)) rfl rfl rfl inX6 (by decide) mq_275 dX6_save_11 rfl ?_
  refine v_ilN _ C dX6_save_14 1 rfl rfl rfl ?_
  refine v_aald _ C 33 .null rfl (isl_in hi) (by rw [nI_clamp (by omega), hf]; rfl) dX6_save_15 rfl ?_
  refine v_nnN _ C dX6_save_16 rfl ?_
  refine v_alN _ C dX6_save_19 0 rfl rfl rfl ?_
  refine v_get _ C 32 (k := 5) (T := TX6) (v := .ref (ad 33)) rfl rfl rfl inX6 (by decide) mq_275 dX6_save_20 rfl ?_
  refine v_ilN _ C dX6_save_23 1 rfl rfl rfl ?_
  refine v_new _ C Kr (ci := 2) (C2 := RX3) (T := TX3) tyX3 tyX3_ok rfl inX3 mq_75 mq_76 mq_58 [.int 0, .int 0, .int 0, .int 0, .int 0, .null, .null, .null, .null, .null, .null, .null, .null, .null, .null, .null, .null, .null, .null] hfX3 ⟨Nat.le_of_ble_eq_true rfl, Nat.le_of_ble_eq_true rfl⟩ dX6_save_24 rfl (fun a => ?_)
  refine v_dup _ C dX6_save_27 rfl rfl ?_
  refine v_mi _ C Kr (n := 0) (wr := wC Y ad (svA Y (ad 33) f :: Z) M) (st := [.ref a, .int (nI i), .ref (ad 33)]) [] mq_58 mq_79 ⟨by decide, by decide, by decide +kernel⟩ mq_78 rfl mq_77 dX6_save_28 rfl ⟨by decide, by decide⟩ ⟨Nat.le_of_ble_eq_true rfl, Nat.le_of_ble_eq_true rfl⟩ rfl rfl (Nat.le_of_ble_eq_true rfl) vT_mv trivial (iX3 l Y a) (fun u0 _ => ?_)
  obtain ⟨u, hu⟩ : ∃ u : Nat → Nat, u = fun k => match k with | 0 => a | k + 1 => u0 (k + 1) := ⟨_, rfl⟩
  have hu0 : a = u 0 := by rw [hu]
  refine v_eq (w2 := wC Y ad (svA Y (ad 33) f :: Z) M ++ nC Y u M0) (by rw [hu]; rfl) ?_
  refine v_ex (w2 := wC Y ad (svA Y (ad 33) f :: (nC Y u M0 ++ Z)) M) (vE.ins (nC Y ad M ++ nB Y ad M f) Z (nC Y u M0)) ?_
  clear hu
  subst hu0
  refine v_aast _ C 33 34 2 rfl rfl rfl rfl (isl_in hi) (w2 := wC Y ad (svA Y (ad 33) (va_up f i (some (u 0))) :: (nC Y u M0 ++ Z)) M) (by rw [nI_clamp (by omega)]; rfl) dX6_save_31 rfl ?_
  refine v_alN _ C dX6_save_32 0 rfl rfl rfl ?_
  refine v_get _ C 32 (k := 5) (T := TX6) (v := .ref (ad 33)) rfl rfl rfl inX6 (by decide) mq_275 dX6_save_33 rfl ?_
  refine v_ilN _ C dX6_save_36 1 rfl rfl rfl ?_
  refine v_aald _ C 33 (.ref (u 0)) rfl (isl_in hi) (by rw [nI_clamp (by omega), va_up_self]; rfl) dX6_save_37 rfl ?_
  refine v_alN _ C dX6_save_38 0 rfl rfl rfl ?_
  refine v_get _ C 32 (k := 0) (T := TX6) (v := .ref (ad 0)) rfl rfl rfl inX6 (by decide) mq_270 dX6_save_39 rfl ?_
  refine v_ex (w2 := nC Y u M0 ++ (nC Y ad M ++ (nB Y ad M (va_up f i (some (u 0))) ++ Z))) (vE.up3 (nC Y ad M) (nB Y ad M (va_up f i (some (u 0)))) (nC Y u M0) Z) ?_
  refine v_mvV _ C Kr (n := 1) (st := []) [.ref (ad 0)] mq_58 mq_648 ⟨by decide, by decide, by decide +kernel⟩ 0 rfl rfl mq_646 mq_647 mq_645 dX6_save_42 rfl ⟨by decide, by decide⟩ ⟨Nat.le_of_ble_eq_true rfl, Nat.le_of_ble_eq_true rfl⟩ rfl rfl (by decide) vT_mv trivial (tX3_copyFrom l Y u ad M0 M (nB Y ad M (va_up f i (some (u 0))) ++ Z)) (fun _ _ => ?_)
  refine v_ex (w2 := wC Y ad (svA Y (ad 33) (va_up f i (some (u 0))) :: (nC Y u (cpM M0 M) ++ Z)) M) (vE.dn3 (nC Y ad M) (nB Y ad M (va_up f i (some (u 0)))) (nC Y u (cpM M0 M)) Z) ?_
  refine v_alN _ C dX6_save_45 0 rfl rfl rfl ?_
  refine v_get _ C 32 (k := 0) (T := TX6) (v := .ref (ad 0)) rfl rfl rfl inX6 (by decide) mq_270 dX6_save_46 rfl ?_
  refine v_get _ C 0 (k := 0) (T := TX3) (v := .int (M.1 0 0)) rfl rfl rfl inX3 (by decide) mq_83 dX6_save_49 rfl ?_
  exact v_iret C HQ ⟨Nat.le_of_ble_eq_true rfl, Nat.le_of_ble_eq_true rfl⟩ rfl u rfl (vE.rf _) dX6_save_52
set_option maxHeartbeats 4000000 in
set_option maxRecDepth 100000 in
theorem sv_old (l : Launch) (Y : xY) (ad : Nat → Nat) (M : xM) (f : Nat → Option Nat) (a1 : Nat → Nat) (M1 : xM) (Z : va_W) {i : Nat} (hi : i < 2) (hf : f i = some (a1 0)) : vcI l Y vT yX6_save cX6_save 2 (some .int) 3 61 0 0 [.ref (ad 32), .int (nI i)] (wC Y ad (svA Y (ad 33) f :: (nC Y a1 M1 ++ Z)) M) (fun (r : Int32) (_ : Unit) => r = M.1 0 0) (fun _ => wC Y ad (svA Y (ad 33) f :: (nC Y a1 (cpM M1 M) ++ Z)) M) := by
  refine v_entryI (own := RX6) [(0, .ref (ad 32)), (1, .int (nI i))] pnX6 rfl (Nat.le_of_ble_eq_true rfl) rfl (fun X C Kr HQ => ?_)
  refine v_ilN _ C dX6_save_0 1 rfl rfl rfl ?_
  refine v_xsI _ C Kr (wf := wC Y ad (svA Y (ad 33) f :: (nC Y a1 M1 ++ Z))) (M := M) (r := nI 1) (st := []) [.int (nI i)] hwX6_isSlot rfl mq_642 dX6_save_1 rfl ⟨by decide, by decide⟩ ⟨Nat.le_of_ble_eq_true rfl, Nat.le_of_ble_eq_true rfl⟩ rfl rfl (by decide) (tX6_isSlot (isl_ok M hi)) ?_
  refine v_ifne _ C 10 dX6_save_4 (by decide) rfl (fun _ => ?_) (fun h => absurd h (by decide +kernel))
  refine v_alN _ C dX6_save_10 0 rfl rfl rfl ?_
  refine v_get _ C 32 (k := 5) (T := TX6) (v := .ref (ad 33)) rfl rfl rfl inX6 (by decide) mq_275 dX6_save_11 rfl ?_
  refine v_ilN _ C dX6_save_14 1 rfl rfl rfl ?_
  refine v_aald _ C 33 (.ref (a1 0)) rfl (isl_in hi) (by rw [nI_clamp (by omega), hf]; rfl) dX6_save_15 rfl ?_
  refine v_nn C 32 dX6_save_16 (by decide) ?_
  refine v_alN _ C dX6_save_32 0 rfl rfl rfl ?_
  refine v_get _ C 32 (k := 5) (T := TX6) (v := .ref (ad 33)) rfl rfl rfl inX6 (by decide) mq_275 dX6_save_33 rfl ?_
  refine v_ilN _ C dX6_save_36 1 rfl rfl rfl ?_
  refine v_aald _ C 33 (.ref (a1 0)) rfl (isl_in hi) (by rw [nI_clamp (by omega), hf]; rfl) dX6_save_37 rfl ?_
  refine v_alN _ C dX6_save_38 0 rfl rfl rfl ?_
  refine v_get _ C 32 (k := 0) (T := TX6) (v := .ref (ad 0)) rfl rfl rfl inX6 (by decide) mq_270 dX6_save_39 rfl ?_
  refine v_ex (w2 := nC Y a1 M1 ++ (nC Y ad M ++ (nB Y ad M f ++ Z))) (vE.up3 (nC Y ad M) (nB Y ad M f) (nC Y a1 M1) Z) ?_
  refine v_mvV _ C Kr (n := 1) (st := []) [.ref (ad 0)] mq_58 mq_648 ⟨by decide, by decide, by decide +kernel⟩ 0 rfl rfl mq_646 mq_647 mq_645 dX6_save_42 rfl ⟨by decide, by decide⟩ ⟨Nat.le_of_ble_eq_true rfl, Nat.le_of_ble_eq_true rfl⟩ rfl rfl (by decide) vT_mv trivial (tX3_copyFrom l Y a1 ad M1 M (nB Y ad M f ++ Z)) (fun _ _ => ?_)
  refine v_ex (w2 := wC Y ad (svA Y (ad 33) f :: (nC Y a1 (cpM M1 M) ++ Z)) M) (vE.dn3 (nC Y ad M) (nB Y ad M f) (nC Y a1 (cpM M1 M)) Z) ?_
  refine v_alN _ C dX6_save_45 0 rfl rfl rfl ?_
  refine v_get _ C 32 (k := 0) (T := TX6) (v := .ref (ad 0)) rfl rfl rfl inX6 (by decide) mq_270 dX6_save_46 rfl ?_
  refine v_get _ C 0 (k := 0) (T := TX3) (v := .int (M.1 0 0)) rfl rfl rfl inX3 (by decide) mq_83 dX6_save_49 rfl ?_
  exact v_iret C HQ ⟨Nat.le_of_ble_eq_true rfl, Nat.le_of_ble_eq_true rfl⟩ rfl () rfl (vE.rf _) dX6_save_52
set_option maxHeartbeats 4000000 in
set_option maxRecDepth 100000 in
theorem rs_none (l : Launch) (Y : xY) (ad : Nat → Nat) (M : xM) (f : Nat → Option Nat) (Z : va_W) {i : Nat} (hi : i < 2) (hf : f i = none) : vcI l Y vT yX6_restore cX6_restore 2 (some .int) 3 61 0 0 [.ref (ad 32), .int (nI i)] (wC Y ad (svA Y (ad 33) f :: Z) M) (fun (r : Int32) (_ : Unit) => r = -8) (fun _ => wC Y ad (svA Y (ad 33) f :: Z) M) := by
  refine v_entryI (own := RX6) [(0, .ref (ad 32)), (1, .int (nI i))] pnX6 rfl (Nat.le_of_ble_eq_true rfl) rfl (fun X C Kr HQ => ?_)
  refine v_ilN _ C dX6_restore_0 1 rfl rfl rfl ?_
  refine v_xsI _ C Kr (wf := wC Y ad (svA Y (ad 33) f :: Z)) (M := M) (r := nI 1) (st := []) [.int (nI i)] hwX6_isSlot rfl mq_642 dX6_restore_1 rfl ⟨by decide, by decide⟩ ⟨Nat.le_of_ble_eq_true rfl, Nat.le_of_ble_eq_true rfl⟩ rfl rfl (by decide) (tX6_isSlot (isl_ok M hi)) ?_
  refine v_ifne _ C 10 dX6_restore_4 (by decide) rfl (fun _ => ?_) (fun h => absurd h (by decide +kernel))
  refine v_alN _ C dX6_restore_10 0 rfl rfl rfl ?_
  refine v_get _ C 32 (k := 5) (T := TX6) (v := .ref (ad 33)) rfl rfl rfl inX6 (by decide) mq_275 dX6_restore_11 rfl ?_
  refine v_ilN _ C dX6_restore_14 1 rfl rfl rfl ?_
  refine v_aald _ C 33 .null rfl (isl_in hi) (by rw [nI_clamp (by omega), hf]; rfl) dX6_restore_15 rfl ?_
  refine v_nnN _ C dX6_restore_16 rfl ?_
  refine v_bipush _ C (-8) dX6_restore_19 (by decide) rfl ?_
  exact v_iret C HQ ⟨Nat.le_refl _, Nat.le_refl _⟩ rfl () rfl (vE.rf _) dX6_restore_21
set_option maxHeartbeats 4000000 in
set_option maxRecDepth 100000 in
theorem rs_some (l : Launch) (Y : xY) (ad : Nat → Nat) (M : xM) (f : Nat → Option Nat) (a1 : Nat → Nat) (M1 : xM) (Z : va_W) {i : Nat} (hi : i < 2) (hf : f i = some (a1 0)) : vcI l Y vT yX6_restore cX6_restore 2 (some .int) 3 61 0 0 [.ref (ad 32), .int (nI i)] (wC Y ad (svA Y (ad 33) f :: (nC Y a1 M1 ++ Z)) M) (fun (r : Int32) (_ : Unit) => r = M1.1 0 0) (fun _ => wC Y ad (svA Y (ad 33) f :: (nC Y a1 M1 ++ Z)) (cpM M M1)) := by
  refine v_entryI (own := RX6) [(0, .ref (ad 32)), (1, .int (nI i))] pnX6 rfl (Nat.le_of_ble_eq_true rfl) rfl (fun X C Kr HQ => ?_)
  refine v_ilN _ C dX6_restore_0 1 rfl rfl rfl ?_
  refine v_xsI _ C Kr (wf := wC Y ad (svA Y (ad 33) f :: (nC Y a1 M1 ++ Z))) (M := M) (r := nI 1) (st := []) [.int (nI i)] hwX6_isSlot rfl mq_642 dX6_restore_1 rfl ⟨by decide, by decide⟩ ⟨Nat.le_of_ble_eq_true rfl, Nat.le_of_ble_eq_true rfl⟩ rfl rfl (by decide) (tX6_isSlot (isl_ok M hi)) ?_
  refine v_ifne _ C 10 dX6_restore_4 (by decide) rfl (fun _ => ?_) (fun h => absurd h (by decide +kernel))
  refine v_alN _ C dX6_restore_10 0 rfl rfl rfl ?_
  refine v_get _ C 32 (k := 5) (T := TX6) (v := .ref (ad 33)) rfl rfl rfl inX6 (by decide) mq_275 dX6_restore_11 rfl ?_
  refine v_ilN _ C dX6_restore_14 1 rfl rfl rfl ?_
  refine v_aald _ C 33 (.ref (a1 0)) rfl (isl_in hi) (by rw [nI_clamp (by omega), hf]; rfl) dX6_restore_15 rfl ?_
  refine v_nn C 22 dX6_restore_16 (by decide) ?_
  refine v_alN _ C dX6_restore_22 0 rfl rfl rfl ?_
  refine v_get _ C 32 (k := 0) (T := TX6) (v := .ref (ad 0)) rfl rfl rfl inX6 (by decide) mq_270 dX6_restore_23 rfl ?_
  refine v_alN _ C dX6_restore_26 0 rfl rfl rfl ?_
  refine v_get _ C 32 (k := 5) (T := TX6) (v := .ref (ad 33)) rfl rfl rfl inX6 (by decide) mq_275 dX6_restore_27 rfl ?_
  refine v_ilN _ C dX6_restore_30 1 rfl rfl rfl ?_
  refine v_aald _ C 33 (.ref (a1 0)) rfl (isl_in hi) (by rw [nI_clamp (by omega), hf]; rfl) dX6_restore_31 rfl ?_
  refine v_ex (w2 := nC Y ad M ++ (nC Y a1 M1 ++ (nB Y ad M f ++ Z))) (vE.exP (nC Y ad M) (nB Y ad M f) (nC Y a1 M1) Z) ?_
  refine v_mvV _ C Kr (n := 1) (st := []) [.ref (a1 0)] mq_58 mq_648 ⟨by decide, by decide, by decide +kernel⟩ 0 rfl rfl mq_646 mq_647 mq_645 dX6_restore_32 rfl ⟨by decide, by decide⟩ ⟨Nat.le_of_ble_eq_true rfl, Nat.le_of_ble_eq_true rfl⟩ rfl rfl (by decide) vT_mv trivial (tX3_copyFrom l Y ad a1 M M1 (nB Y ad M f ++ Z)) (fun _ _ => ?_)
  refine v_ex (w2 := wC Y ad (svA Y (ad 33) f :: (nC Y a1 M1 ++ Z)) (cpM M M1)) (vE.exP (nC Y ad (cpM M M1)) (nC Y a1 M1) (nB Y ad M f) Z) ?_
  refine v_alN _ C dX6_restore_35 0 rfl rfl rfl ?_
  refine v_get _ C 32 (k := 0) (T := TX6) (v := .ref (ad 0)) rfl rfl rfl inX6 (by decide) mq_270 dX6_restore_36 rfl ?_
  refine v_get _ C 0 (k := 0) (T := TX3) (v := .int (M1.1 0 0)) rfl rfl rfl inX3 (by decide) mq_83 dX6_restore_39 rfl ?_
  exact v_iret C HQ ⟨Nat.le_refl _, Nat.le_refl _⟩ rfl () rfl (vE.rf _) dX6_restore_42
