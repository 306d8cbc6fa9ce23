def xSc (X : xE) (b L : Nat) (xs : Nat → Int32) : Prop := match X with
  | (_, _, _, s, _, _, _, _, _, A, _, _) => va_X b L xs s s.heap ∧ b < s.heap.size ∧ ¬ A b
section XL
variable {Y : xY} {l : Launch} {X : xE} {Q : State → Prop} {w : va_W} {nc ns : Nat} {cc : ByteArray} {own : String} {ret : Option FieldType} {N F Lc : Nat} {pc : Nat} {lv : List (Nat × Value)} {st : List Value} {b L : Nat} {xs : Nat → Int32}
theorem v_sld (q : Nat) (C : xC Y X cc own ret N F Lc) (Sc : xSc X b L xs) {i : Int32} (v : Int32) (hi : vp_in i L) (hv : xs i.toNatClampNeg = v) (hd : decode cc pc = .ok (.iaload, 1)) (hq : pc + 1 = q) (kk : xV Y l X Q w nc ns q lv (.int v :: st)) : xV Y l X Q w nc ns pc lv (.int i :: .ref b :: st) := by
  obtain ⟨p, e, R, s, m, args, below, meth, c, A, nL, Qc⟩ := X
  obtain ⟨hx, hb, hml, hown, hts, hK, hA, hlocks, hr, hRf, hRl, hN⟩ := C
  intro H locs ls hP hD hS hl
  subst hq
  subst hv
  obtain ⟨s1, s2, s3⟩ := Sc
  exact va_sld hx hb s1 s2 s3 hS hi hd (kk H locs ls hP hD hS hl)
theorem v_slen (q : Nat) (C : xC Y X cc own ret N F Lc) (Sc : xSc X b L xs) (hd : decode cc pc = .ok (.arraylength, 1)) (hq : pc + 1 = q) (kk : xV Y l X Q w nc ns q lv (.int (nI L) :: st)) : xV Y l X Q w nc ns pc lv (.ref b :: st) := by
  obtain ⟨p, e, R, s, m, args, below, meth, c, A, nL, Qc⟩ := X
  obtain ⟨hx, hb, hml, hown, hts, hK, hA, hlocks, hr, hRf, hRl, hN⟩ := C
  intro H locs ls hP hD hS hl
  subst hq
  obtain ⟨s1, s2, s3⟩ := Sc
  exact va_slen hx hb s1 s2 s3 hS hd (kk H locs ls hP hD hS hl)
theorem v_arg (C : xC Y X cc own ret N F Lc) (Sc : xSc X b L xs) (t j : Nat) {n : Int} (hL : L ≤ 2048) (hj : 4 * t + j < L) (h3 : lv[3]? = some (0, .ref b)) (h0 : lv[0]? = some (3, .int (nI (4 * t)))) (d1 : decode cc pc = .ok (.aload_n 0, 1)) (d2 : decode cc (pc + 1) = .ok (.iload_n 3, 1)) (d3 : decode cc (pc + 2) = .ok (.iconst n, 1)) (hn : Int32.ofInt n = nI j) (d4 : decode cc (pc + 3) = .ok (.iadd, 1)) (d5 : decode cc (pc + 4) = .ok (.iaload, 1)) (q : Nat) (hq : pc + 5 = q) (kk : xV Y l X Q w nc ns q lv (.int (xs (4 * t + j)) :: st)) : xV Y l X Q w nc ns pc lv st := by
  subst hq
  refine v_alN (pc + 1) C d1 3 h3 rfl rfl ?_
  refine v_ilN (pc + 2) C d2 0 h0 rfl rfl ?_
  refine v_iconst (pc + 3) C (nI j) d3 hn rfl ?_
  refine v_iadd (pc + 4) C d4 rfl ?_
  rw [nI_add]
  exact v_sld (pc + 5) C Sc _ (vp_in_nI hj (by omega)) (by rw [nI_clamp (by omega)]) d5 rfl kk
theorem v_bool (C : xC Y X cc own ret N F Lc) {x : Int32} {o1 o2 : Int} (q1 q : Nat) (d1 : decode cc pc = .ok (.ifCond .eq o1, 3)) (h1 : (pc : Int) + o1 = (q1 : Int)) (d2 : decode cc (pc + 3) = .ok (.iconst 1, 1)) (d3 : decode cc (pc + 4) = .ok (.goto o2, 3)) (h2 : ((pc + 4 : Nat) : Int) + o2 = (q : Int)) (d4 : decode cc q1 = .ok (.iconst 0, 1)) (h3 : q1 + 1 = q) (kk : xV Y l X Q w nc ns q lv (.int (if x = 0 then nI 0 else nI 1) :: st)) : xV Y l X Q w nc ns pc lv (.int x :: st) := by
  refine v_ifeq (pc + 3) C q1 d1 h1 rfl (fun h => ?_) (fun h => ?_)
  · rw [if_pos h] at kk
    exact v_iconst q C (nI 0) d4 (by decide) h3 kk
  · rw [if_neg h] at kk
    refine v_iconst (pc + 4) C (nI 1) d2 (by decide) rfl ?_
    exact v_goto q C d3 h2 kk
theorem v_tabIn (C : xC Y X cc own ret N F Lc) {df lo hi : Int} {of : Array Int} {len : Nat} {n : Nat} {off : Int} (tgt : Nat) (hd : decode cc pc = .ok (.tableswitch df lo hi of, len)) (hn : n < 2 ^ 31) (hlo : lo = 0) (h2 : ¬ hi < (n : Int)) (ho : of[n]? = some off) (ht : (pc : Int) + off = (tgt : Int)) (kk : xV Y l X Q w nc ns tgt lv st) : xV Y l X Q w nc ns pc lv (.int (nI n) :: st) := by
  obtain ⟨p, e, R, s, m, args, below, meth, c, A, nL, Qc⟩ := X
  obtain ⟨hx, hb, hml, hown, hts, hK, hA, hlocks, hr, hRf, hRl, hN⟩ := C
  intro H locs ls hP hD hS hl
  subst hlo
  exact lv_tableIn hx hb hd (by rw [nI_toInt hn]; omega) (by rw [nI_toInt hn]; exact h2) (by rw [nI_toInt hn]; simpa using ho) ht (kk H locs ls hP hD hS hl)
theorem v_tabOut (C : xC Y X cc own ret N F Lc) {df lo hi : Int} {of : Array Int} {len : Nat} {n : Nat} (tgt : Nat) (hd : decode cc pc = .ok (.tableswitch df lo hi of, len)) (hn : n < 2 ^ 31) (h2 : hi < (n : Int)) (ht : (pc : Int) + df = (tgt : Int)) (kk : xV Y l X Q w nc ns tgt lv st) : xV Y l X Q w nc ns pc lv (.int (nI n) :: st) := by
  obtain ⟨p, e, R, s, m, args, below, meth, c, A, nL, Qc⟩ := X
  obtain ⟨hx, hb, hml, hown, hts, hK, hA, hlocks, hr, hRf, hRl, hN⟩ := C
  intro H locs ls hP hD hS hl
  exact lv_tableOut hx hb hd (Or.inr (by rw [nI_toInt hn]; exact h2)) ht (kk H locs ls hP hD hS hl)
theorem and31 (a : Int32) : ∃ n, n < 32 ∧ a &&& 31 = nI n := by
  refine ⟨(a &&& 31).toBitVec.toNat, ?_, ?_⟩
  · have h : (a &&& 31).toBitVec = a.toBitVec &&& 31#32 := rfl
    rw [h, BitVec.toNat_and]
    exact Nat.lt_of_le_of_lt Nat.and_le_right (by decide)
  · apply Int32.toBitVec_inj.mp
    show (a &&& 31).toBitVec = (Int32.ofNat _).toBitVec
    simp
variable {rc rs : Nat} {y : MethodName} {bytes : ByteArray} {maxL fr lo n idx : Nat} {rt : Option FieldType} {ad ar : Nat → Nat} {M M2 m m2 : xM} {r : Int32} {G : va_W}
theorem v_xvC (q : Nat) (C : xC Y X cc own ret N F Lc) (Kr : xKr X rc rs) (As : List Value) (hw : xmv y bytes maxL rt n) (hc : y.cls = RX6) (hlk : Cond.methodLink own idx y ∈ xw) (hd : decode cc pc = .ok (.invokevirtual idx, 3)) (hq : pc + 3 = q) (hR : fr + 1 ≤ F ∧ 8 + (maxL + 11) + lo ≤ Lc) (hcs : nc ≤ rc ∧ ns ≤ rs) {st0 : List Value} (hst : st0 = As.reverse ++ .ref (ad 32) :: st) (hn : As.length = n) (hsum : (st.map fun v => v.category).sum ≤ 8) (hM : xcI l Y (wC Y ad (G ++ wR Y ar [] m)) y bytes maxL rt fr lo (.ref (ad 32) :: As) M r M2) (kk : xV Y l X Q (wC Y ad G M2 ++ wR Y ar [] m) nc ns q lv (.int r :: st)) : xV Y l X Q (wC Y ad G M ++ wR Y ar [] m) nc ns pc lv st0 :=
  v_xvI q C Kr (wf := wC Y ad (G ++ wR Y ar [] m)) As hw rfl 32 (ci := 5) (T := TX6) (N2 := 6) wC_at_32 (by rw [hc]; rfl) hlk hd hq hR hcs hst hn hsum hM kk
theorem v_xvR (q : Nat) (C : xC Y X cc own ret N F Lc) (Kr : xKr X rc rs) (As : List Value) (hw : xmv y bytes maxL rt n) (hc : y.cls = RX7) (hlk : Cond.methodLink own idx y ∈ xw) (hd : decode cc pc = .ok (.invokevirtual idx, 3)) (hq : pc + 3 = q) (hR : fr + 1 ≤ F ∧ 8 + (maxL + 11) + lo ≤ Lc) (hcs : nc ≤ rc ∧ ns ≤ rs) {st0 : List Value} (hst : st0 = As.reverse ++ .ref (ar 0) :: st) (hn : As.length = n) (hsum : (st.map fun v => v.category).sum ≤ 8) (hM : xcI l Y (wR Y ar G) y bytes maxL rt fr lo (.ref (ar 0) :: As) m r m2) (kk : xV Y l X Q (G ++ wR Y ar [] m2) nc ns q lv (.int r :: st)) : xV Y l X Q (G ++ wR Y ar [] m) nc ns pc lv st0 :=
  v_ex (w2 := wR Y ar G m) (vE.co G (wR Y ar [] m)) (v_xvI q C Kr (wf := wR Y ar G) As hw rfl 0 (ci := 6) (T := TX7) (N2 := 16) wR_at_0 (by rw [hc]; rfl) hlk hd hq hR hcs hst hn hsum hM (v_ex (vE.co (wR Y ar [] m2) G) kk))
end XL
