abbrev vO : Type := Option ((Nat → Nat) × xM)
def oT (Y : xY) (o : vO) : va_W := match o with
  | none => []
  | some a => nC Y a.1 a.2
def oA (o : vO) : Option Nat := o.map (fun a => a.1 0)
theorem vE.sw (Y : xY) (ad : Nat → Nat) (f : Nat → Option Nat) (M : xM) (A B R : va_W) : vE (wC Y ad (svA Y (ad 33) f :: (A ++ B)) M ++ R) (wC Y ad (svA Y (ad 33) f :: (B ++ A)) M ++ R) := by
  have h := vE.exP (wC Y ad [svA Y (ad 33) f] M) A B R
  rw [← List.append_assoc A B R, ← List.append_assoc B A R] at h
  exact h
theorem up_id {f : Nat → Option Nat} {i : Nat} {a : Option Nat} (h : f i = a) : va_up f i a = f := by
  funext j
  unfold va_up
  by_cases c : j = i
  · rw [if_pos c, c, h]
  · rw [if_neg c]
section LS
variable {Y : xY} {l : Launch} {X : xE} {Q : State → Prop} {nc ns : Nat} {rt0 : Option FieldType} {b L t : Nat} {xs : Nat → Int32} {ad ar : Nat → Nat} {M m m2 : xM} {G T : va_W} {S : Nat → Nat} {sl sv : Nat → Int32} {r : Int32} {f : Nat → Option Nat} {i : Nat} {o : vO}

theorem lc_saveR (C : xC Y X cL_law RL rt0 4 9 326) (Kr : xKr X 600000 7302250) (hcs : nc ≤ 600000 ∧ ns ≤ 7302250) (Sc : xSc X b L xs) (hL : L ≤ 2048) (ht : 4 * t + 3 < L) (h : fX7_save m (xs (4 * t + 1)) = some (r, m2)) (kk : xV Y l X Q (G ++ wR Y ar [] m2) nc ns 879 (lvL ad ar b t) []) : xV Y l X Q (G ++ wR Y ar [] m) nc ns 842 (lvL ad ar b t) [.int r] := by
  refine v_alN _ C dL_law_842 1 rfl rfl rfl ?_
  refine v_arg C Sc t 1 hL (by omega) rfl rfl dL_law_843 dL_law_844 dL_law_845 (by decide) dL_law_846 dL_law_847 848 rfl ?_
  refine v_xvR _ C Kr (st := [.int r]) [.int (xs (4 * t + 1))] hwX7_save rfl mq_951 dL_law_848 rfl ⟨by decide, by decide⟩ hcs rfl rfl (Nat.le_of_ble_eq_true rfl) (tX7_save h) ?_
  exact v_icmpeq C 879 dL_law_851 (by decide) rfl kk
theorem lc_restR (C : xC Y X cL_law RL rt0 4 9 326) (Kr : xKr X 600000 7302250) (hcs : nc ≤ 600000 ∧ ns ≤ 7302250) (Sc : xSc X b L xs) (hL : L ≤ 2048) (ht : 4 * t + 3 < L) (h : fX7_restore m (xs (4 * t + 1)) = some (r, m2)) (kk : xV Y l X Q (G ++ wR Y ar [] m2) nc ns 879 (lvL ad ar b t) []) : xV Y l X Q (G ++ wR Y ar [] m) nc ns 865 (lvL ad ar b t) [.int r] := by
  refine v_alN _ C dL_law_865 1 rfl rfl rfl ?_
  refine v_arg C Sc t 1 hL (by omega) rfl rfl dL_law_866 dL_law_867 dL_law_868 (by decide) dL_law_869 dL_law_870 871 rfl ?_
  refine v_xvR _ C Kr (st := [.int r]) [.int (xs (4 * t + 1))] hwX7_restore rfl mq_955 dL_law_871 rfl ⟨by decide, by decide⟩ hcs rfl rfl (Nat.le_of_ble_eq_true rfl) (tX7_restore h) ?_
  exact v_icmpeq C 879 dL_law_874 (by decide) rfl kk
theorem lc_saveB (C : xC Y X cL_law RL rt0 4 9 326) (Kr : xKr X 600000 7302250) (hcs : nc ≤ 600000 ∧ ns ≤ 7302250) (Sc : xSc X b L xs) (hL : L ≤ 2048) (ht : 4 * t + 3 < L) (hx : xs (4 * t + 1) < nI 0 ∨ nI 1 < xs (4 * t + 1)) (kk : xV Y l X Q (wC Y ad G M ++ wR Y ar [] m) nc ns 879 (lvL ad ar b t) []) : xV Y l X Q (wC Y ad G M ++ wR Y ar [] m) nc ns 833 (lvL ad ar b t) [] := by
  obtain ⟨h1, h2, h3⟩ := r_bad (m := m) hx
  refine v_eq (w2 := wC Y ad (G ++ wR Y ar [] m) M) rfl ?_
  refine v_alN _ C dL_law_833 2 rfl rfl rfl ?_
  refine v_arg C Sc t 1 hL (by omega) rfl rfl dL_law_834 dL_law_835 dL_law_836 (by decide) dL_law_837 dL_law_838 839 rfl ?_
  refine v_mvI _ C Kr (n := 1) (st := []) [.int (xs (4 * t + 1))] mq_57 mq_641 ⟨by decide, by decide, by decide +kernel⟩ 32 wC_at_32 rfl mq_639 mq_640 mq_638 dL_law_839 rfl ⟨by decide, by decide⟩ ⟨by omega, by omega⟩ rfl rfl (by decide) vT_mv trivial (sv_bad l Y ad M (G ++ wR Y ar [] m) h3) (fun r u hr => ?_)
  subst hr
  exact lc_saveR C Kr hcs Sc hL ht h1 kk
theorem lc_restB (C : xC Y X cL_law RL rt0 4 9 326) (Kr : xKr X 600000 7302250) (hcs : nc ≤ 600000 ∧ ns ≤ 7302250) (Sc : xSc X b L xs) (hL : L ≤ 2048) (ht : 4 * t + 3 < L) (hx : xs (4 * t + 1) < nI 0 ∨ nI 1 < xs (4 * t + 1)) (kk : xV Y l X Q (wC Y ad G M ++ wR Y ar [] m) nc ns 879 (lvL ad ar b t) []) : xV Y l X Q (wC Y ad G M ++ wR Y ar [] m) nc ns 856 (lvL ad ar b t) [] := by
  obtain ⟨h1, h2, h3⟩ := r_bad (m := m) hx
  refine v_eq (w2 := wC Y ad (G ++ wR Y ar [] m) M) rfl ?_
  refine v_alN _ C dL_law_856 2 rfl rfl rfl ?_
  refine v_arg C Sc t 1 hL (by omega) rfl rfl dL_law_857 dL_law_858 dL_law_859 (by decide) dL_law_860 dL_law_861 862 rfl ?_
  refine v_mvI _ C Kr (n := 1) (st := []) [.int (xs (4 * t + 1))] mq_57 mq_661 ⟨by decide, by decide, by decide +kernel⟩ 32 wC_at_32 rfl mq_659 mq_660 mq_658 dL_law_862 rfl ⟨by decide, by decide⟩ ⟨by omega, by omega⟩ rfl rfl (by decide) vT_mv trivial (rs_bad l Y ad M (G ++ wR Y ar [] m) h3) (fun r u hr => ?_)
  subst hr
  exact lc_restR C Kr hcs Sc hL ht h2 kk
theorem lc_saveG (C : xC Y X cL_law RL rt0 4 9 326) (Kr : xKr X 600000 7302250) (hcs : nc + 15 ≤ 600000 ∧ ns + 373 ≤ 7302250) (Sc : xSc X b L xs) (hL : L ≤ 2048) (ht : 4 * t + 3 < L) (hi : i < 2) (hx : xs (4 * t + 1) = nI i) (hf : f i = oA o) (j : J S sl sv M m) (kk : ∀ (u : Nat → Nat) (M1 m2 : xM), AC S M1 → J S (m2.1 2) (m2.1 3) M m2 → (∀ k, k < 431 → m2.1 2 (431 * i + k) = nI (S k)) → (∀ a, a < 431 * i ∨ 431 * i + 431 ≤ a → m2.1 2 a = sl a) → m2.1 3 i = nI 1 → (∀ a, a ≠ i → m2.1 3 a = sv a) → xV Y l X Q (wC Y ad (svA Y (ad 33) (va_up f i (some (u 0))) :: (nC Y u M1 ++ T)) M ++ wR Y ar [] m2) (nc + 15) (ns + 373) 879 (lvL ad ar b t) []) : xV Y l X Q (wC Y ad (svA Y (ad 33) f :: (oT Y o ++ T)) M ++ wR Y ar [] m) nc ns 833 (lvL ad ar b t) [] := by
  obtain ⟨j1, j2, rfl, rfl, j5, j6⟩ := j
  obtain ⟨m2, h1, h2, h3, h4, h5, h6⟩ := r_save j2 hi
  rw [← hx] at h1
  have e0 : M.1 0 0 = nI (S 0) := j1.n0
  cases o with
  | none =>
    refine v_eq (w2 := wC Y ad (svA Y (ad 33) f :: (T ++ wR Y ar [] m)) M) rfl ?_
    refine v_alN _ C dL_law_833 2 rfl rfl rfl ?_
    refine v_arg C Sc t 1 hL (by omega) rfl rfl dL_law_834 dL_law_835 dL_law_836 (by decide) dL_law_837 dL_law_838 839 rfl ?_
    rw [hx]
    refine v_mvI _ C Kr (n := 1) (st := []) [.int (nI i)] mq_57 mq_641 ⟨by decide, by decide, by decide +kernel⟩ 32 wC_at_32 rfl mq_639 mq_640 mq_638 dL_law_839 rfl ⟨by decide, by decide⟩ ⟨by omega, by omega⟩ rfl rfl (by decide) vT_mv trivial (sv_new l Y ad M f (T ++ wR Y ar [] m) hi hf) (fun r u hr => ?_)
    rw [e0] at hr
    subst hr
    refine v_eq (w2 := wC Y ad (svA Y (ad 33) (va_up f i (some (u 0))) :: (nC Y u (cpM M0 M) ++ T)) M ++ wR Y ar [] m) rfl ?_
    exact lc_saveR C Kr ⟨by omega, by omega⟩ Sc hL ht h1 (kk u (cpM M0 M) m2 (j1.cp M0) ⟨j1, h2, rfl, rfl, j5, j6⟩ h3 h4 h5 h6)
  | some a =>
    obtain ⟨a1, M1⟩ := a
    refine v_eq (w2 := wC Y ad (svA Y (ad 33) f :: (nC Y a1 M1 ++ (T ++ wR Y ar [] m))) M) rfl ?_
    refine v_alN _ C dL_law_833 2 rfl rfl rfl ?_
    refine v_arg C Sc t 1 hL (by omega) rfl rfl dL_law_834 dL_law_835 dL_law_836 (by decide) dL_law_837 dL_law_838 839 rfl ?_
    rw [hx]
    refine v_mvI _ C Kr (n := 1) (st := []) [.int (nI i)] mq_57 mq_641 ⟨by decide, by decide, by decide +kernel⟩ 32 wC_at_32 rfl mq_639 mq_640 mq_638 dL_law_839 rfl ⟨by decide, by decide⟩ ⟨by omega, by omega⟩ rfl rfl (by decide) vT_mv trivial (sv_old l Y ad M f a1 M1 (T ++ wR Y ar [] m) hi hf) (fun r u hr => ?_)
    rw [e0] at hr
    subst hr
    refine v_eq (w2 := wC Y ad (svA Y (ad 33) f :: (nC Y a1 (cpM M1 M) ++ T)) M ++ wR Y ar [] m) rfl ?_
    have hu : va_up f i (some (a1 0)) = f := up_id hf
    have k2 := kk a1 (cpM M1 M) m2 (j1.cp M1) ⟨j1, h2, rfl, rfl, j5, j6⟩ h3 h4 h5 h6
    rw [hu] at k2
    exact lc_saveR C Kr ⟨by omega, by omega⟩ Sc hL ht h1 (v_widen ⟨by omega, by omega⟩ k2)
theorem lc_restG (C : xC Y X cL_law RL rt0 4 9 326) (Kr : xKr X 600000 7302250) (hcs : nc ≤ 600000 ∧ ns ≤ 7302250) (Sc : xSc X b L xs) (hL : L ≤ 2048) (ht : 4 * t + 3 < L) (hi : i < 2) (hx : xs (4 * t + 1) = nI i) (hf : f i = oA o) (j : J S sl sv M m) (hs : slI (o.map (fun a => a.2)) sl sv i) (kk : ∀ (S2 : Nat → Nat) (M2 m2 : xM), J S2 sl sv M2 m2 → xV Y l X Q (wC Y ad (svA Y (ad 33) f :: (oT Y o ++ T)) M2 ++ wR Y ar [] m2) nc ns 879 (lvL ad ar b t) []) : xV Y l X Q (wC Y ad (svA Y (ad 33) f :: (oT Y o ++ T)) M ++ wR Y ar [] m) nc ns 856 (lvL ad ar b t) [] := by
  obtain ⟨j1, j2, rfl, rfl, j5, j6⟩ := j
  cases o with
  | none =>
    have h1 := r_none hi hs
    rw [← hx] at h1
    refine v_eq (w2 := wC Y ad (svA Y (ad 33) f :: (T ++ wR Y ar [] m)) M) rfl ?_
    refine v_alN _ C dL_law_856 2 rfl rfl rfl ?_
    refine v_arg C Sc t 1 hL (by omega) rfl rfl dL_law_857 dL_law_858 dL_law_859 (by decide) dL_law_860 dL_law_861 862 rfl ?_
    rw [hx]
    refine v_mvI _ C Kr (n := 1) (st := []) [.int (nI i)] mq_57 mq_661 ⟨by decide, by decide, by decide +kernel⟩ 32 wC_at_32 rfl mq_659 mq_660 mq_658 dL_law_862 rfl ⟨by decide, by decide⟩ ⟨by omega, by omega⟩ rfl rfl (by decide) vT_mv trivial (rs_none l Y ad M f (T ++ wR Y ar [] m) hi hf) (fun r u hr => ?_)
    subst hr
    refine v_eq (w2 := wC Y ad (svA Y (ad 33) f :: T) M ++ wR Y ar [] m) rfl ?_
    exact lc_restR C Kr hcs Sc hL ht h1 (kk S M m ⟨j1, j2, rfl, rfl, j5, j6⟩)
  | some a =>
    obtain ⟨a1, M1⟩ := a
    obtain ⟨g1, S1, g2, g3, g4, g5⟩ := hs
    obtain ⟨m2, h1, h2, h3, h4⟩ := r_some hi g1 g5
    rw [← hx] at h1
    have e0 : M1.1 0 0 = nI (S1 0) := g2.n0
    refine v_eq (w2 := wC Y ad (svA Y (ad 33) f :: (nC Y a1 M1 ++ (T ++ wR Y ar [] m))) M) rfl ?_
    refine v_alN _ C dL_law_856 2 rfl rfl rfl ?_
    refine v_arg C Sc t 1 hL (by omega) rfl rfl dL_law_857 dL_law_858 dL_law_859 (by decide) dL_law_860 dL_law_861 862 rfl ?_
    rw [hx]
    refine v_mvI _ C Kr (n := 1) (st := []) [.int (nI i)] mq_57 mq_661 ⟨by decide, by decide, by decide +kernel⟩ 32 wC_at_32 rfl mq_659 mq_660 mq_658 dL_law_862 rfl ⟨by decide, by decide⟩ ⟨by omega, by omega⟩ rfl rfl (by decide) vT_mv trivial (rs_some l Y ad M f a1 M1 (T ++ wR Y ar [] m) hi hf) (fun r u hr => ?_)
    rw [e0] at hr
    subst hr
    refine v_eq (w2 := wC Y ad (svA Y (ad 33) f :: (nC Y a1 M1 ++ T)) (cpM M M1) ++ wR Y ar [] m) rfl ?_
    exact lc_restR C Kr hcs Sc hL ht h1 (kk S1 (cpM M M1) m2 ⟨g2.cp M, h2, h3, h4, g3, g4⟩)
def fO (o0 o1 : vO) : Nat → Option Nat := fun i => if i = 0 then oA o0 else if i = 1 then oA o1 else none
theorem fO_0 (o0 o1 o2 : vO) : va_up (fO o0 o1) 0 (oA o2) = fO o2 o1 := by
  funext j
  unfold va_up fO
  by_cases c : j = 0
  · rw [if_pos c, if_pos c]
  · rw [if_neg c, if_neg c, if_neg c]
theorem fO_1 (o0 o1 o2 : vO) : va_up (fO o0 o1) 1 (oA o2) = fO o0 o2 := by
  funext j
  unfold va_up fO
  by_cases c : j = 1
  · rw [if_pos c, if_neg (by omega), if_pos c]
  · rw [if_neg c]
    by_cases d : j = 0
    · rw [if_pos d, if_pos d]
    · rw [if_neg d, if_neg d, if_neg c, if_neg c]
abbrev lW (Y : xY) (ad ar : Nat → Nat) (o0 o1 : vO) (M m : xM) : va_W := wC Y ad (svA Y (ad 33) (fO o0 o1) :: (oT Y o0 ++ oT Y o1)) M ++ wR Y ar [] m
def lS (o0 o1 : vO) (sl sv : Nat → Int32) : Prop := slI (o0.map (fun a => a.2)) sl sv 0 ∧ slI (o1.map (fun a => a.2)) sl sv 1
variable {o0 o1 : vO}

theorem lc_save (C : xC Y X cL_law RL rt0 4 9 326) (Kr : xKr X 600000 7302250) (hcs : nc + 15 ≤ 600000 ∧ ns + 373 ≤ 7302250) (Sc : xSc X b L xs) (hL : L ≤ 2048) (ht : 4 * t + 3 < L) (j : J S sl sv M m) (hs : lS o0 o1 sl sv) (kk : ∀ (S2 : Nat → Nat) (sl2 sv2 : Nat → Int32) (M2 m2 : xM) (p0 p1 : vO), J S2 sl2 sv2 M2 m2 → lS p0 p1 sl2 sv2 → xV Y l X Q (lW Y ad ar p0 p1 M2 m2) (nc + 15) (ns + 373) 879 (lvL ad ar b t) []) : xV Y l X Q (lW Y ad ar o0 o1 M m) nc ns 833 (lvL ad ar b t) [] := by
  rcases inD m (xs (4 * t + 1)) (lo := 0) (hi := 1) (by omega) (by omega) with ⟨i, _, hi, hx, _⟩ | ⟨hx, _⟩
  · rcases (show i = 0 ∨ i = 1 by omega) with rfl | rfl
    · refine lc_saveG C Kr hcs Sc hL ht (i := 0) (o := o0) (f := fO o0 o1) (by omega) hx rfl j (fun u M1 m2 k1 k2 k3 k4 k5 k6 => ?_)
      have hf := fO_0 o0 o1 (some (u, M1))
      have hf : va_up (fO o0 o1) 0 (some (u 0)) = fO (some (u, M1)) o1 := hf
      rw [hf]
      exact kk S _ _ M m2 (some (u, M1)) o1 k2 ⟨⟨k5, S, k1, j.2.2.2.2.1, j.2.2.2.2.2, k3⟩, hs.2.oth (k6 1 (by omega)) (fun k hk => k4 _ (by omega))⟩
    · refine v_ex (vE.sw Y ad (fO o0 o1) M (oT Y o0) (oT Y o1) (wR Y ar [] m)) ?_
      refine lc_saveG C Kr hcs Sc hL ht (i := 1) (o := o1) (f := fO o0 o1) (by omega) hx rfl j (fun u M1 m2 k1 k2 k3 k4 k5 k6 => ?_)
      have hf := fO_1 o0 o1 (some (u, M1))
      have hf : va_up (fO o0 o1) 1 (some (u 0)) = fO o0 (some (u, M1)) := hf
      rw [hf]
      refine v_ex (vE.sw Y ad (fO o0 (some (u, M1))) M (nC Y u M1) (oT Y o0) (wR Y ar [] m2)) ?_
      exact kk S _ _ M m2 o0 (some (u, M1)) k2 ⟨hs.1.oth (k6 0 (by omega)) (fun k hk => k4 _ (by omega)), ⟨k5, S, k1, j.2.2.2.2.1, j.2.2.2.2.2, k3⟩⟩
  · exact lc_saveB C Kr ⟨by omega, by omega⟩ Sc hL ht hx (v_widen ⟨by omega, by omega⟩ (kk S sl sv M m o0 o1 j hs))
theorem lc_restore (C : xC Y X cL_law RL rt0 4 9 326) (Kr : xKr X 600000 7302250) (hcs : nc + 15 ≤ 600000 ∧ ns + 373 ≤ 7302250) (Sc : xSc X b L xs) (hL : L ≤ 2048) (ht : 4 * t + 3 < L) (j : J S sl sv M m) (hs : lS o0 o1 sl sv) (kk : ∀ (S2 : Nat → Nat) (sl2 sv2 : Nat → Int32) (M2 m2 : xM) (p0 p1 : vO), J S2 sl2 sv2 M2 m2 → lS p0 p1 sl2 sv2 → xV Y l X Q (lW Y ad ar p0 p1 M2 m2) (nc + 15) (ns + 373) 879 (lvL ad ar b t) []) : xV Y l X Q (lW Y ad ar o0 o1 M m) nc ns 856 (lvL ad ar b t) [] := by
  rcases inD m (xs (4 * t + 1)) (lo := 0) (hi := 1) (by omega) (by omega) with ⟨i, _, hi, hx, _⟩ | ⟨hx, _⟩
  · rcases (show i = 0 ∨ i = 1 by omega) with rfl | rfl
    · exact lc_restG C Kr ⟨by omega, by omega⟩ Sc hL ht (i := 0) (o := o0) (f := fO o0 o1) (by omega) hx rfl j hs.1 (fun S2 M2 m2 k => v_widen ⟨by omega, by omega⟩ (kk S2 sl sv M2 m2 o0 o1 k hs))
    · refine v_ex (vE.sw Y ad (fO o0 o1) M (oT Y o0) (oT Y o1) (wR Y ar [] m)) ?_
      refine lc_restG C Kr ⟨by omega, by omega⟩ Sc hL ht (i := 1) (o := o1) (f := fO o0 o1) (by omega) hx rfl j hs.2 (fun S2 M2 m2 k => ?_)
      refine v_ex (vE.sw Y ad (fO o0 o1) M2 (oT Y o1) (oT Y o0) (wR Y ar [] m2)) ?_
      exact v_widen ⟨by omega, by omega⟩ (kk S2 sl sv M2 m2 o0 o1 k hs)
  · exact lc_restB C Kr ⟨by omega, by omega⟩ Sc hL ht hx (v_widen ⟨by omega, by omega⟩ (kk S sl sv M m o0 o1 j hs))
end LS
