/-! THE CLAIM OUT OF ONE WALK OF THE LAW'S BODY. Your part is whole_start (and what it stands on); all else here is the same for every law, but numbers. -/
def R_law : String := "SpanningTreeProtocolLaw"
def lw_P (b : Addr) (xs : List Int32) (args : Array Value) (s : State) : Prop := args = #[.ref b] ∧ s.IntsAt b xs ∧ xs.length ≤ 2048 ∧ (Jvm.Cond.and given_1 narrow_1).before args s = true
def lw_Q (_ : Array Value) (s : State) (o : Outcome) (t : State) : Prop := o = .returned (some (.int 1)) ∧ Framed s o t [] 600000 7302250
def lw_Z (below : List Frame) (a : Array Value) (s : State) : State → Prop := fun t => ∃ o, t.status = .running ∧ Ended t below o ∧ lw_Q a s o t
/-- the law's own end, with 1 on the stack, nothing written that was there before, its room as the claim has it -/
theorem lw_ret {p : Program} {l : Launch} {e : Env} {s : State} {m : MethodId} {below : List Frame} {meth : Method} {c : Code} {b : Nat} (hx : p.tables.exec = Jvm.exec) (hb : c.code = code) (hr : meth.sig.returnType = ret) (hlocks : meth.locks = false) {pc : Nat} {H : Heap} {ls : Array Slot} (hdg : decode code pc = .ok (.ireturn, 1)) : W p l e room_1 s m #[Value.ref b] below meth c H [] 600000 7302250 (lw_Z below #[Value.ref b] s) (F0 m pc ls [.int 1]) := by
  intro T hT X
  obtain ⟨fs, hret, hrun, hended, hW, hframe⟩ := X.leave (v := some (.int 1)) (hlocks := hlocks) (fun h => by rw [hr] at h; cases h)
  have hmeth' : T.vm.method? m = some meth := X.method'
  refine ⟨T.setFrames fs, ?_, .returned (some (.int 1)), hrun, hended, rfl, ⟨_, rfl⟩, hW, hframe⟩
  jvm_step X.here [X.here.top, hx, hb, hdg, hmeth', hr, ret, narrow_b1]
  (try refine ⟨rfl, ?_⟩); (try refine ⟨rfl, ?_⟩)
  first | (intro acts; rw [hret _ acts rfl rfl rfl]) | rw [hret _ _ rfl rfl rfl]
  exact Steps.refl _
/-- what holds at the law's entry: the machine, the code, the tables' words (any of lw_tbl by 'hts w (by decide +kernel)'), the script of L ints xs at the cell b, what the Statement gives of the start (any of its parts by flat_of_before) -/
def lw_At (p : Program) (s : State) (m : MethodId) (meth : Method) (c : Code) (b L : Nat) (xs : Nat → Int32) : Prop :=
  p.tables.exec = Jvm.exec ∧ c.code = code ∧ meth.sig.returnType = ret ∧ c.maxLocals = 4 ∧ s.vm.findClass R_law = some m.cls ∧ (∀ w ∈ lw_tbl, w.before #[Value.ref b] s = true) ∧ va_X b L xs s s.heap ∧ b < s.heap.size ∧ meth.locks = false ∧ (Jvm.Cond.and given_1 narrow_1).before #[Value.ref b] s = true
set_option maxRecDepth 20000 in
theorem aoW : Cond.arrayOver (.object RX3) ∈ lw_tbl := List.mem_of_getElem? (i := 269) (by decide +kernel)
theorem z_fO : fO none none = fun _ => none := by
  funext i
  unfold fO oA
  by_cases h : i = 0
  · rw [if_pos h]; rfl
  · rw [if_neg h]
    by_cases h2 : i = 1
    · rw [if_pos h2]; rfl
    · rw [if_neg h2]
theorem law_known {s : State} {b : Nat} (hts : ∀ w ∈ xw, w.before #[Value.ref b] s = true) (hao : va_AO RX3 s) : ∃ Y : xY, va_K Y.1 vwCl (xtys Y) s := by
  obtain ⟨c0, i0, k0⟩ := u_known (C := RX0) (T := TX0) (N := 7) (n := 7) hts inX0 (hts _ mq_179)
  obtain ⟨c1, i1, k1⟩ := u_known (C := RX1) (T := TX1) (N := 4) (n := 4) hts inX1 (hts _ mq_238)
  obtain ⟨c2, i2, k2⟩ := u_known (C := RX3) (T := TX3) (N := 19) (n := 19) hts inX3 (hts _ mq_76)
  obtain ⟨c3, i3, k3⟩ := u_known (C := RX4) (T := TX4) (N := 6) (n := 6) hts inX4 (hts _ mq_213)
  obtain ⟨c4, i4, k4⟩ := u_known (C := RX5) (T := TX5) (N := 2) (n := 2) hts inX5 (hts _ mq_257)
  obtain ⟨c5, i5, k5⟩ := u_known (C := RX6) (T := TX6) (N := 6) (n := 6) hts inX6 (hts _ mq_68)
  obtain ⟨c6, i6, k6⟩ := u_known (C := RX7) (T := TX7) (N := 16) (n := 16) hts inX7 (hts _ mq_663)
  obtain ⟨cI, kI, mI, a1, a2, a3⟩ := Cond.arrayClass_spec (hts _ mq_176)
  obtain ⟨cJ, kJ, mJ, b1, b2, b3⟩ := Cond.arrayClass_spec (hts _ mq_177)
  obtain ⟨cZ, kZ, mZ, d1, d2, d3⟩ := Cond.arrayClass_spec (hts _ mq_717)
  obtain ⟨comp, cQ, kQ, e1, _, e3, e4, e5⟩ := Cond.arrayOver_spec hao
  refine ⟨((fun k => match k with | 0 => c0 | 1 => c1 | 2 => c2 | 3 => c3 | 4 => c4 | 5 => c5 | _ => c6, fun k => match k with | 0 => i0 | 1 => i1 | 2 => i2 | 3 => i3 | 4 => i4 | 5 => i5 | _ => i6), cI, cJ, cZ, cQ), fun k q hq => ?_, fun k q hq => ?_⟩
  · match k, hq with
    | 0, hq => cases hq; exact k0
    | 1, hq => cases hq; exact k1
    | 2, hq => cases hq; exact k2
    | 3, hq => cases hq; exact k3
    | 4, hq => cases hq; exact k4
    | 5, hq => cases hq; exact k5
    | 6, hq => cases hq; exact k6
    | k + 7, hq => simp [vwCl] at hq
  · match k, hq with
    | 0, hq => cases hq; exact ⟨fun n z => ⟨fun k h => (by cases h), kI, a2, mI, a3⟩, a1⟩
    | 1, hq => cases hq; exact ⟨fun n z => ⟨fun k h => (by cases h), kJ, b2, mJ, b3⟩, b1⟩
    | 2, hq => cases hq; exact ⟨fun n z => ⟨fun k h => (by cases h), kZ, d2, mZ, d3⟩, d1⟩
    | 3, hq => cases hq; exact ⟨fun n z => ⟨fun k h => (by cases h), kQ, e3, comp, e4⟩, kQ, comp, e3, e4, e1, e5⟩
    | k + 4, hq => simp at hq
set_option maxRecDepth 100000 in
theorem law_begin {Y : xY} {l : Launch} {X : xE} {Q : State → Prop} {rt0 : Option FieldType} {b L : Nat} {xs : Nat → Int32} (C : xC Y X cL_law RL rt0 4 9 326) (Kr : xKr X 600000 7302250) (Ke : xKe X (va_AO RX3)) (Sc : xSc X b L xs) (hL : L ≤ 2048) (hend : ∀ (w : va_W) (nc ns : Nat) (lv : List (Nat × Value)), nc ≤ 600000 ∧ ns ≤ 7302250 → xV Y l X Q w nc ns 885 lv []) : xV Y l X Q [] 0 0 0 [(0, .ref b)] [] := by
  refine v_new _ C Kr (ci := 5) (C2 := RX6) (T := TX6) tyX6 tyX6_ok rfl inX6 mq_67 mq_68 mq_57 [.null, .null, .null, .null, .null, .null] hfX6 ⟨Nat.le_of_ble_eq_true rfl, Nat.le_of_ble_eq_true rfl⟩ dL_law_0 rfl (fun a6 => ?_)
  refine v_dup _ C dL_law_3 rfl rfl ?_
  refine v_mi _ C Kr (n := 0) (wr := []) (st := [.ref a6]) [] mq_57 mq_71 ⟨by decide, by decide, by decide +kernel⟩ mq_70 rfl mq_69 dL_law_4 rfl ⟨by decide, by decide⟩ ⟨Nat.le_of_ble_eq_true rfl, Nat.le_of_ble_eq_true rfl⟩ rfl rfl (Nat.le_of_ble_eq_true rfl) (fun _ _ => va_AO.moved) Ke (iX6 l Y a6) (fun ad h32 => ?_)
  subst h32
  refine v_asN _ C 1 (lv2 := [(1, .ref (ad 32)), (0, .ref b)]) dL_law_7 rfl rfl (by decide) rfl ?_
  refine v_new _ C Kr (ci := 6) (C2 := RX7) (T := TX7) tyX7 tyX7_ok rfl inX7 mq_662 mq_663 mq_63 [.null, .null, .null, .null, .null, .null, .null, .null, .null, .null, .null, .null, .null, .null, .null, .int 0] hfX7 ⟨Nat.le_of_ble_eq_true rfl, Nat.le_of_ble_eq_true rfl⟩ dL_law_8 rfl (fun a7 => ?_)
  refine v_dup _ C dL_law_11 rfl rfl ?_
  refine v_mi _ C Kr (n := 0) (wr := wC Y ad [svA Y (ad 33) (fun _ => none)] M0) (st := [.ref a7]) [] mq_63 mq_666 ⟨by decide, by decide, by decide +kernel⟩ mq_665 rfl mq_664 dL_law_12 rfl ⟨by decide, by decide⟩ ⟨Nat.le_of_ble_eq_true rfl, Nat.le_of_ble_eq_true rfl⟩ rfl rfl (Nat.le_of_ble_eq_true rfl) vT_mv trivial (iX7 l Y a7) (fun u _ => ?_)
  obtain ⟨ar, har⟩ : ∃ ar : Nat → Nat, ar = fun k => match k with | 0 => a7 | k + 1 => u (k + 1) := ⟨_, rfl⟩
  have ha0 : a7 = ar 0 := by rw [har]
  refine v_eq (w2 := lW Y ad ar none none M0 M0) (by
    show _ = wC Y ad (svA Y (ad 33) (fO none none) :: (oT Y none ++ oT Y none)) M0 ++ wR Y ar [] M0
    rw [z_fO, har]
    rfl) ?_
  clear har
  subst ha0
  refine v_asN _ C 2 (lv2 := [(2, .ref (ar 0)), (1, .ref (ad 32)), (0, .ref b)]) dL_law_15 rfl rfl (by decide) rfl ?_
  refine v_iconst _ C (nI (4 * 0)) dL_law_16 (by decide) rfl ?_
  refine v_isN _ C 3 (lv2 := lvL ad ar b 0) dL_law_17 rfl rfl (by decide) rfl ?_
  exact v_widen ⟨Nat.le_of_ble_eq_true rfl, Nat.le_of_ble_eq_true rfl⟩ (law_loop C Kr Sc hL hend 513 0 rfl _ _ _ M0 M0 none none z_J z_lS)
theorem whole_start {p : Program} {e : Env} {s : State} {m : MethodId} {below : List Frame} {meth : Method} {c : Code} (l : Launch) (hflags : l.flags = flags0) {b L : Nat} {xs : Nat → Int32} (hL : L ≤ 2048) (C0 : lw_At p s m meth c b L xs) : W p l e room_1 s m #[Value.ref b] below meth c s.heap [] 0 0 (lw_Z below #[Value.ref b] s) (entryFrame m ([Value.ref b] : List Value).toArray 4) := by
  obtain ⟨hx, hb, hr, hml, hown, hts, hX, hbl, hlocks, hgv⟩ := id C0
  have htx : ∀ w ∈ xw, w.before #[Value.ref b] s = true := fun w hw => hts w (List.mem_filter.mp hw).1
  have hao : va_AO RX3 s := va_AO.of (hts (Cond.arrayOver (.object RX3)) aoW)
  obtain ⟨Y, hK⟩ := law_known htx hao
  have hl := lv_entry ([.ref b]) (n := 4) (Nat.le_of_ble_eq_true rfl)
  rw [lg_entry_eq]
  have hP : va_P Y.1 vwCl [] s.heap := fun k q h => by simp at h
  have hD : va_D (fun q : Nat => s.heap.size ≤ q) [] := ⟨fun i j p q h => by simp at h, fun k q h => by simp at h⟩
  refine law_begin (Y := Y) (L := L) (xs := xs) (X := (p, e, room_1, s, m, #[Value.ref b], below, meth, c, (fun q : Nat => s.heap.size ≤ q), 4, fun _ _ _ _ => True)) ⟨hx, hb, hml, hown, htx, hK, fun q h => h, hlocks, hr, rfl, rfl, rfl⟩ ⟨rfl, rfl⟩ hao ⟨hX, hbl, Nat.not_le.mpr hbl⟩ hL ?_ s.heap [] _ hP hD va_S.rf hl
  intro w nc ns lv h
  refine v_iconst 886 ⟨hx, hb, hml, hown, htx, hK, fun q h => h, hlocks, hr, rfl, rfl, rfl⟩ 1 dL_law_885 (by decide) rfl ?_
  intro H locs ls hP hD hS hl
  refine va_forget (fun q hq => hS.2.2 q hq) ?_
  refine W.widen (k := 600000) (n := 7302250) h.1 h.2 ?_
  exact lw_ret hx hb hr hlocks dL_law_886
