theorem z_J : J (fun _ => 0) (fun _ => 0) (fun _ => 0) M0 M0 := by
  refine ⟨⟨fun t _ i _ => rfl, fun i _ => rfl, fun i _ h => absurd h (Nat.lt_irrefl 0), fun i _ h => ?_⟩, fun j _ => rfl, rfl, rfl, ?_, fun p _ h => absurd rfl h⟩
  · rcases h with h | h <;> cases h
  · unfold WF zM
    simp
theorem z_lS : lS none none (fun _ => 0) (fun _ => 0) := ⟨rfl, rfl⟩
section LL
variable {Y : xY} {l : Launch} {X : xE} {Q : State → Prop} {nc ns : Nat} {rt0 : Option FieldType} {b L t : Nat} {xs : Nat → Int32} {ad ar : Nat → Nat} {M m : xM} {S : Nat → Nat} {sl sv : Nat → Int32} {o0 o1 : vO}
set_option maxRecDepth 100000 in
theorem law_step (C : xC Y X cL_law RL rt0 4 9 326) (Kr : xKr X 600000 7302250) (hcs : nc + 15 ≤ 600000 ∧ ns + 373 ≤ 7302250) (Sc : xSc X b L xs) (hL : L ≤ 2048) (ht : 4 * t + 3 < L) (j : J S sl sv M m) (hs : lS o0 o1 sl sv) (kk : ∀ (S2 : Nat → Nat) (sl2 sv2 : Nat → Int32) (M2 m2 : xM) (p0 p1 : vO), J S2 sl2 sv2 M2 m2 → lS p0 p1 sl2 sv2 → xV Y l X Q (lW Y ad ar p0 p1 M2 m2) (nc + 15) (ns + 373) 879 (lvL ad ar b t) []) : xV Y l X Q (lW Y ad ar o0 o1 M m) nc ns 26 (lvL ad ar b t) [] := by
  have hc1 : nc ≤ 600000 ∧ ns ≤ 7302250 := ⟨by omega, by omega⟩
  have k1 : ∀ (S2 : Nat → Nat) (M2 m2 : xM), J S2 sl sv M2 m2 → xV Y l X Q (wC Y ad (svA Y (ad 33) (fO o0 o1) :: (oT Y o0 ++ oT Y o1)) M2 ++ wR Y ar [] m2) nc ns 879 (lvL ad ar b t) [] := fun S2 M2 m2 h => v_widen ⟨by omega, by omega⟩ (kk S2 sl sv M2 m2 o0 o1 h hs)
  refine v_alN _ C dL_law_26 3 rfl rfl rfl ?_
  refine v_ilN _ C dL_law_27 0 rfl rfl rfl ?_
  refine v_sld _ C Sc (xs (4 * t)) (vp_in_nI (by omega) (by omega)) (by rw [nI_clamp (by omega)]) dL_law_28 rfl ?_
  refine v_bipush _ C 31 dL_law_29 (by decide) rfl ?_
  refine v_iand _ C dL_law_31 rfl ?_
  obtain ⟨n, hn, he⟩ := and31 (xs (4 * t))
  rw [he]
  match n, hn with
  | 0, _ => exact v_tabIn C 156 dL_law_32 (by decide) rfl (by decide) rfl (by decide) (lc_addBridge C Kr hc1 Sc hL ht j k1)
  | 1, _ => exact v_tabIn C 179 dL_law_32 (by decide) rfl (by decide) rfl (by decide) (lc_addSegment C Kr hc1 Sc hL ht j k1)
  | 2, _ => exact v_tabIn C 192 dL_law_32 (by decide) rfl (by decide) rfl (by decide) (lc_addPort C Kr hc1 Sc hL ht j k1)
  | 3, _ => exact v_tabIn C 235 dL_law_32 (by decide) rfl (by decide) rfl (by decide) (lc_addStation C Kr hc1 Sc hL ht j k1)
  | 4, _ => exact v_tabIn C 258 dL_law_32 (by decide) rfl (by decide) rfl (by decide) (lc_setPriority C Kr hc1 Sc hL ht j k1)
  | 5, _ => exact v_tabIn C 291 dL_law_32 (by decide) rfl (by decide) rfl (by decide) (lc_setCost C Kr hc1 Sc hL ht j k1)
  | 6, _ => exact v_tabIn C 324 dL_law_32 (by decide) rfl (by decide) rfl (by decide) (lc_setBridge C Kr hc1 Sc hL ht j k1)
  | 7, _ => exact v_tabIn C 373 dL_law_32 (by decide) rfl (by decide) rfl (by decide) (lc_setPort C Kr hc1 Sc hL ht j k1)
  | 8, _ => exact v_tabIn C 422 dL_law_32 (by decide) rfl (by decide) rfl (by decide) (lc_moveStation C Kr hc1 Sc hL ht j k1)
  | 9, _ => exact v_tabIn C 455 dL_law_32 (by decide) rfl (by decide) rfl (by decide) (lc_tick C Kr hc1 Sc hL ht j k1)
  | 10, _ => exact v_tabIn C 478 dL_law_32 (by decide) rfl (by decide) rfl (by decide) (lc_settle C Kr hc1 Sc hL ht j k1)
  | 11, _ => exact v_tabIn C 501 dL_law_32 (by decide) rfl (by decide) rfl (by decide) (lc_identifier C Kr hc1 Sc hL ht j k1)
  | 12, _ => exact v_tabIn C 524 dL_law_32 (by decide) rfl (by decide) rfl (by decide) (lc_root C Kr hc1 Sc hL ht j k1)
  | 13, _ => exact v_tabIn C 547 dL_law_32 (by decide) rfl (by decide) rfl (by decide) (lc_rootCost C Kr hc1 Sc hL ht j k1)
  | 14, _ => exact v_tabIn C 570 dL_law_32 (by decide) rfl (by decide) rfl (by decide) (lc_rootPort C Kr hc1 Sc hL ht j k1)
  | 15, _ => exact v_tabIn C 593 dL_law_32 (by decide) rfl (by decide) rfl (by decide) (lc_role C Kr hc1 Sc hL ht j k1)
  | 16, _ => exact v_tabIn C 616 dL_law_32 (by decide) rfl (by decide) rfl (by decide) (lc_state C Kr hc1 Sc hL ht j k1)
  | 17, _ => exact v_tabIn C 639 dL_law_32 (by decide) rfl (by decide) rfl (by decide) (lc_stored C Kr hc1 Sc hL ht j k1)
  | 18, _ => exact v_tabIn C 672 dL_law_32 (by decide) rfl (by decide) rfl (by decide) (lc_portsIn C Kr hc1 Sc hL ht j k1)
  | 19, _ => exact v_tabIn C 695 dL_law_32 (by decide) rfl (by decide) rfl (by decide) (lc_parts C Kr hc1 Sc hL ht j k1)
  | 20, _ => exact v_tabIn C 708 dL_law_32 (by decide) rfl (by decide) rfl (by decide) (lc_loops C Kr hc1 Sc hL ht j k1)
  | 21, _ => exact v_tabIn C 721 dL_law_32 (by decide) rfl (by decide) rfl (by decide) (lc_send C Kr hc1 Sc hL ht j k1)
  | 22, _ => exact v_tabIn C 754 dL_law_32 (by decide) rfl (by decide) rfl (by decide) (lc_transmissions C Kr hc1 Sc hL ht j k1)
  | 23, _ => exact v_tabIn C 777 dL_law_32 (by decide) rfl (by decide) rfl (by decide) (lc_entry C Kr hc1 Sc hL ht j k1)
  | 24, _ => exact v_tabIn C 810 dL_law_32 (by decide) rfl (by decide) rfl (by decide) (lc_count C Kr hc1 Sc hL ht j k1)
  | 25, _ => exact v_tabIn C 833 dL_law_32 (by decide) rfl (by decide) rfl (by decide) (lc_save C Kr hcs Sc hL ht j hs kk)
  | 26, _ => exact v_tabIn C 856 dL_law_32 (by decide) rfl (by decide) rfl (by decide) (lc_restore C Kr hcs Sc hL ht j hs kk)
  | n + 27, h => exact v_tabOut C 879 dL_law_32 (by omega) (by omega) (by decide) (k1 S M m j)
theorem law_loop (C : xC Y X cL_law RL rt0 4 9 326) (Kr : xKr X 600000 7302250) (Sc : xSc X b L xs) (hL : L ≤ 2048) (hend : ∀ (w : va_W) (nc ns : Nat) (lv : List (Nat × Value)), nc ≤ 600000 ∧ ns ≤ 7302250 → xV Y l X Q w nc ns 885 lv []) : ∀ (k t : Nat), t + k = 513 → ∀ (S : Nat → Nat) (sl sv : Nat → Int32) (M m : xM) (o0 o1 : vO), J S sl sv M m → lS o0 o1 sl sv → xV Y l X Q (lW Y ad ar o0 o1 M m) (50 + 15 * t) (2303 + 373 * t) 18 (lvL ad ar b t) [] := by
  intro k
  induction k with
  | zero =>
    intro t hk S sl sv M m o0 o1 j hs
    refine v_ilN _ C dL_law_18 0 rfl rfl rfl ?_
    refine v_alN _ C dL_law_19 3 rfl rfl rfl ?_
    refine v_slen _ C Sc dL_law_20 rfl ?_
    refine v_iconst _ C (nI 4) dL_law_21 (by decide) rfl ?_
    refine v_isub _ C dL_law_22 rfl ?_
    refine v_icmpgt _ C 885 dL_law_23 (by decide) rfl (fun _ => hend _ _ _ _ ⟨by omega, by omega⟩) (fun h => absurd ?_ h)
    rw [Int32.lt_iff_toInt_lt, pk_sub_toInt (by omega) (by omega), nI_toInt (by omega)]
    omega
  | succ k ih =>
    intro t hk S sl sv M m o0 o1 j hs
    refine v_ilN _ C dL_law_18 0 rfl rfl rfl ?_
    refine v_alN _ C dL_law_19 3 rfl rfl rfl ?_
    refine v_slen _ C Sc dL_law_20 rfl ?_
    refine v_iconst _ C (nI 4) dL_law_21 (by decide) rfl ?_
    refine v_isub _ C dL_law_22 rfl ?_
    refine v_icmpgt _ C 885 dL_law_23 (by decide) rfl (fun _ => hend _ _ _ _ ⟨by omega, by omega⟩) (fun h => ?_)
    rw [Int32.lt_iff_toInt_lt, pk_sub_toInt (by omega) (by omega), nI_toInt (by omega)] at h
    have ht : 4 * t + 3 < L := by omega
    refine law_step C Kr ⟨by omega, by omega⟩ Sc hL ht j hs (fun S2 sl2 sv2 M2 m2 p0 p1 j2 hs2 => ?_)
    refine v_iinc _ C (nI (4 * (t + 1))) (lv2 := lvL ad ar b (t + 1)) dL_law_879 0 rfl (by rw [show Int32.ofInt 4 = nI 4 by decide, nI_add]; rfl) rfl (by decide) rfl ?_
    refine v_goto 18 C dL_law_882 (by decide) ?_
    exact v_widen ⟨by omega, by omega⟩ (ih (t + 1) (by omega) S2 sl2 sv2 M2 m2 p0 p1 j2 hs2)
end LL
