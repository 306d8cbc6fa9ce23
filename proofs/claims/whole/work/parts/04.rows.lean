theorem xw_good : xw.all goodWord = true := List.all_eq_true.mpr (fun w h => (List.mem_filter.mp h).2)
abbrev xM : Type := (Nat → Nat → Int32) × (Nat → Nat → Int64)
def xI (M : xM) (k j : Nat) (v : Int32) : xM := (fun a => if a = k then upd (M.1 k) j v else M.1 a, M.2)
def xJ (M : xM) (k j : Nat) (v : Int64) : xM := (M.1, fun a => if a = k then vp_updL (M.2 k) j v else M.2 a)
def xrd {ρ α : Type} (n : Nat) (f : Nat → α) (i : Int32) (K : α → Option ρ) : Option ρ := if ¬ (i < 0 ∨ n ≤ i.toNatClampNeg) then K (f i.toNatClampNeg) else none
def xwI {ρ : Type} (n : Nat) (M : xM) (k : Nat) (i v : Int32) (K : xM → Option ρ) : Option ρ := if ¬ (i < 0 ∨ n ≤ i.toNatClampNeg) then K (xI M k i.toNatClampNeg v) else none
def xwJ {ρ : Type} (n : Nat) (M : xM) (k : Nat) (i : Int32) (v : Int64) (K : xM → Option ρ) : Option ρ := if ¬ (i < 0 ∨ n ≤ i.toNatClampNeg) then K (xJ M k i.toNatClampNeg v) else none
def xzb {ρ : Type} (v : Int32) (E : Option ρ) : Option ρ := if v = 0 ∨ v = 1 then E else none
abbrev xY : Type := va_G × ClassId × ClassId × ClassId × ClassId
abbrev xtys (Y : xY) : List (ClassId × FieldType) := [(Y.2.1, .int), (Y.2.2.1, .long), (Y.2.2.2.1, .boolean), (Y.2.2.2.2, .object RX3)]
abbrev xE : Type := Program × Env × Room × State × MethodId × Array Value × List Frame × Method × Code × (Nat → Prop) × Nat × (Array Value → State → Outcome → State → Prop)
def xC (Y : xY) (X : xE) (cc : ByteArray) (own : String) (ret : Option FieldType) (N F Lc : Nat) : Prop := match X with
  | (p, _, R, s, m, args, _, meth, c, A, nL, _) => p.tables.exec = Jvm.exec ∧ c.code = cc ∧ c.maxLocals = nL ∧ s.vm.findClass own = some m.cls ∧ (∀ w ∈ xw, w.before args s = true) ∧ va_K Y.1 vwCl (xtys Y) s ∧ (∀ q : Nat, s.heap.size ≤ q → A q) ∧ meth.locks = false ∧ meth.sig.returnType = ret ∧ R.frames = F ∧ R.locals = Lc ∧ nL = N
def xG (Y : xY) (l : Launch) (X : xE) (wf : xM → va_W) (M : xM) (pc : Nat) (lv : List (Nat × Value)) (st : List Value) : Prop := match X with
  | (p, e, R, s, m, args, below, meth, c, A, nL, Qc) => ∀ (H : Heap) (locs : List Loc) (ls : Array Slot), va_P Y.1 vwCl (wf M) H → va_D A (wf M) → va_S A s.heap H locs → lv_has ls nL lv → W p l e R s m args below meth c H locs 0 0 (MQ below Qc args s 0 0 A) (F0 m pc ls st)
def xPre (Y : xY) (ws : va_W) (sz : Nat) (av : List Value) : Array Value → State → Prop := va_Pc av (fun U => U.heap.size = sz ∧ va_P Y.1 vwCl ws U.heap ∧ va_K Y.1 vwCl (xtys Y) U ∧ va_D (fun _ => True) ws)
def xB (Y : xY) (A : Nat → Prop) (wf : xM → va_W) (M : xM) (t : State) : Prop := va_P Y.1 vwCl (wf M) t.heap ∧ va_K Y.1 vwCl (xtys Y) t ∧ va_D A (wf M)
def xRI (Y : xY) (X : xE) (wf : xM → va_W) (r0 : Int32) (m0 : xM) : Prop := match X with
  | (_, _, _, _, _, _, _, _, _, A, _, Qc) => Qc = va_Qi (fun (r : Int32) (m : xM) => r = r0 ∧ m = m0) (xB Y A wf) A
def xRL (Y : xY) (X : xE) (wf : xM → va_W) (r0 : Int64) (m0 : xM) : Prop := match X with
  | (_, _, _, _, _, _, _, _, _, A, _, Qc) => Qc = va_Ql (fun (r : Int64) (m : xM) => r = r0 ∧ m = m0) (xB Y A wf) A
def xRV (Y : xY) (X : xE) (wf : xM → va_W) (m0 : xM) : Prop := match X with
  | (_, _, _, _, _, _, _, _, _, A, _, Qc) => Qc = va_Qv (fun (m : xM) => m = m0) (xB Y A wf) A
abbrev xRm (fr lo : Nat) : Room := { frames := fr, cells := 0, slots := 0, locals := lo }
def xcI (l : Launch) (Y : xY) (wf : xM → va_W) (y : MethodName) (bytes : ByteArray) (maxL : Nat) (ret : Option FieldType) (fr lo : Nat) (av : List Value) (M : xM) (r0 : Int32) (m0 : xM) : Prop := ∀ sz, Met l y (.code y bytes maxL ret :: xw) (xRm fr lo) (xPre Y (wf M) sz av) (va_Qi (fun (r : Int32) (m : xM) => r = r0 ∧ m = m0) (xB Y (va_A (wf M) sz) wf) (va_A (wf M) sz)) 0 0 (va_A (wf M) sz)
def xcL (l : Launch) (Y : xY) (wf : xM → va_W) (y : MethodName) (bytes : ByteArray) (maxL : Nat) (ret : Option FieldType) (fr lo : Nat) (av : List Value) (M : xM) (r0 : Int64) (m0 : xM) : Prop := ∀ sz, Met l y (.code y bytes maxL ret :: xw) (xRm fr lo) (xPre Y (wf M) sz av) (va_Ql (fun (r : Int64) (m : xM) => r = r0 ∧ m = m0) (xB Y (va_A (wf M) sz) wf) (va_A (wf M) sz)) 0 0 (va_A (wf M) sz)
def xcV (l : Launch) (Y : xY) (wf : xM → va_W) (y : MethodName) (bytes : ByteArray) (maxL : Nat) (ret : Option FieldType) (fr lo : Nat) (av : List Value) (M : xM) (m0 : xM) : Prop := ∀ sz, Met l y (.code y bytes maxL ret :: xw) (xRm fr lo) (xPre Y (wf M) sz av) (va_Qv (fun (m : xM) => m = m0) (xB Y (va_A (wf M) sz) wf) (va_A (wf M) sz)) 0 0 (va_A (wf M) sz)
theorem x_entryI {l : Launch} {Y : xY} {wf : xM → va_W} {y : MethodName} {bytes : ByteArray} {maxL : Nat} {ret : Option FieldType} {fr lo : Nat} {av : List Value} {M : xM} {r0 : Int32} {m0 : xM} {own : String} (lv : List (Nat × Value)) (hy : plainName y.cls = true) (hown : y.cls = own) (hlen : (lg_sl av).length ≤ maxL) (hlv : lv_args 0 av = lv)
    (body : ∀ X : xE, xC Y X bytes own ret maxL fr lo → xRI Y X wf r0 m0 → xG Y l X wf M 0 lv []) : xcI l Y wf y bytes maxL ret fr lo av M r0 m0 := by
  intro sz
  refine Met.ofW (cc := bytes) (maxL := maxL) (ret := ret) hy rfl ?_
  intro p e s m args below meth c s₁ B hml hv
  obtain ⟨rfl, hsz, hP, hK, hD0⟩ := hv
  have hts := atoms_spec (ws := .code y bytes maxL ret :: xw) B.pre
  have hown : s.vm.findClass own = some m.cls := by rw [← hown]; exact findClass_of_methodNamed B.named
  subst hsz
  have hD := hD0.self (sz := s.heap.size)
  have hl := lv_entry av (n := maxL) hlen
  rw [lg_entry_eq]
  rw [hlv] at hl
  exact body (p, e, xRm fr lo, s, m, av.toArray, below, meth, c, va_A (wf M) s.heap.size, maxL, _) ⟨B.exec, B.bytes, hml, hown, fun w hw => hts w (List.mem_cons_of_mem _ hw), hK, fun q h => Or.inr h, B.notSynchronized, B.returns, rfl, rfl, rfl⟩ rfl s.heap [] _ hP hD va_S.rf hl
theorem x_entryL {l : Launch} {Y : xY} {wf : xM → va_W} {y : MethodName} {bytes : ByteArray} {maxL : Nat} {ret : Option FieldType} {fr lo : Nat} {av : List Value} {M : xM} {r0 : Int64} {m0 : xM} {own : String} (lv : List (Nat × Value)) (hy : plainName y.cls = true) (hown : y.cls = own) (hlen : (lg_sl av).length ≤ maxL) (hlv : lv_args 0 av = lv)
    (body : ∀ X : xE, xC Y X bytes own ret maxL fr lo → xRL Y X wf r0 m0 → xG Y l X wf M 0 lv []) : xcL l Y wf y bytes maxL ret fr lo av M r0 m0 := by
  intro sz
  refine Met.ofW (cc := bytes) (maxL := maxL) (ret := ret) hy rfl ?_
  intro p e s m args below meth c s₁ B hml hv
  obtain ⟨rfl, hsz, hP, hK, hD0⟩ := hv
  have hts := atoms_spec (ws := .code y bytes maxL ret :: xw) B.pre
  have hown : s.vm.findClass own = some m.cls := by rw [← hown]; exact findClass_of_methodNamed B.named
  subst hsz
  have hD := hD0.self (sz := s.heap.size)
  have hl := lv_entry av (n := maxL) hlen
  rw [lg_entry_eq]
  rw [hlv] at hl
  exact body (p, e, xRm fr lo, s, m, av.toArray, below, meth, c, va_A (wf M) s.heap.size, maxL, _) ⟨B.exec, B.bytes, hml, hown, fun w hw => hts w (List.mem_cons_of_mem _ hw), hK, fun q h => Or.inr h, B.notSynchronized, B.returns, rfl, rfl, rfl⟩ rfl s.heap [] _ hP hD va_S.rf hl
theorem x_entryV {l : Launch} {Y : xY} {wf : xM → va_W} {y : MethodName} {bytes : ByteArray} {maxL : Nat} {ret : Option FieldType} {fr lo : Nat} {av : List Value} {M : xM} {m0 : xM} {own : String} (lv : List (Nat × Value)) (hy : plainName y.cls = true) (hown : y.cls = own) (hlen : (lg_sl av).length ≤ maxL) (hlv : lv_args 0 av = lv)
    (body : ∀ X : xE, xC Y X bytes own ret maxL fr lo → xRV Y X wf m0 → xG Y l X wf M 0 lv []) : xcV l Y wf y bytes maxL ret fr lo av M m0 := by
  intro sz
  refine Met.ofW (cc := bytes) (maxL := maxL) (ret := ret) hy rfl ?_
  intro p e s m args below meth c s₁ B hml hv
  obtain ⟨rfl, hsz, hP, hK, hD0⟩ := hv
  have hts := atoms_spec (ws := .code y bytes maxL ret :: xw) B.pre
  have hown : s.vm.findClass own = some m.cls := by rw [← hown]; exact findClass_of_methodNamed B.named
  subst hsz
  have hD := hD0.self (sz := s.heap.size)
  have hl := lv_entry av (n := maxL) hlen
  rw [lg_entry_eq]
  rw [hlv] at hl
  exact body (p, e, xRm fr lo, s, m, av.toArray, below, meth, c, va_A (wf M) s.heap.size, maxL, _) ⟨B.exec, B.bytes, hml, hown, fun w hw => hts w (List.mem_cons_of_mem _ hw), hK, fun q h => Or.inr h, B.notSynchronized, B.returns, rfl, rfl, rfl⟩ rfl s.heap [] _ hP hD va_S.rf hl
section XR
variable {Y : xY} {l : Launch} {X : xE} {wf : xM → va_W} {M : xM} {cc : ByteArray} {own : String} {ret : Option FieldType} {N F Lc : Nat} {pc : Nat} {lv : List (Nat × Value)} {st : List Value}
theorem x_ilN (q : Nat) (C : xC Y X cc own ret N F Lc) {k : Fin 4} {i : Nat} {x : Int32} (hd : decode cc pc = .ok (.iload_n k, 1)) (t : Nat) (hv : lv[t]? = some (i, .int x)) (hi : (k : Nat) = i) (hq : pc + 1 = q) (kk : xG Y l X wf M q lv (.int x :: st)) : xG Y l X wf M pc lv (st) := by
  obtain ⟨p, e, R, s, m, args, below, meth, c, A, nL, Qc⟩ := X
  obtain ⟨hx, hb, hml, hown, hts, hK, hA, hlocks, hr, hRf, hRl, hN⟩ := C
  intro H locs ls hP hD hS hl
  subst hq
  exact lv_iload_n hx hb hd hi (lv_at hl t hv) (kk H locs ls hP hD hS hl)
theorem x_il (q : Nat) (C : xC Y X cc own ret N F Lc) {i : Nat} {x : Int32} (hd : decode cc pc = .ok (.iload i, 2)) (t : Nat) (hv : lv[t]? = some (i, .int x)) (hq : pc + 2 = q) (kk : xG Y l X wf M q lv (.int x :: st)) : xG Y l X wf M pc lv (st) := by
  obtain ⟨p, e, R, s, m, args, below, meth, c, A, nL, Qc⟩ := X
  obtain ⟨hx, hb, hml, hown, hts, hK, hA, hlocks, hr, hRf, hRl, hN⟩ := C
  intro H locs ls hP hD hS hl
  subst hq
  exact lv_iload hx hb hd (lv_at hl t hv) (kk H locs ls hP hD hS hl)
theorem x_llN (q : Nat) (C : xC Y X cc own ret N F Lc) {k : Fin 4} {i : Nat} {x : Int64} (hd : decode cc pc = .ok (.lload_n k, 1)) (t : Nat) (hv : lv[t]? = some (i, .long x)) (hi : (k : Nat) = i) (hq : pc + 1 = q) (kk : xG Y l X wf M q lv (.long x :: st)) : xG Y l X wf M pc lv (st) := by
  obtain ⟨p, e, R, s, m, args, below, meth, c, A, nL, Qc⟩ := X
  obtain ⟨hx, hb, hml, hown, hts, hK, hA, hlocks, hr, hRf, hRl, hN⟩ := C
  intro H locs ls hP hD hS hl
  subst hq
  exact lv_lload_n hx hb hd hi (lv_at hl t hv) (kk H locs ls hP hD hS hl)
theorem x_ll (q : Nat) (C : xC Y X cc own ret N F Lc) {i : Nat} {x : Int64} (hd : decode cc pc = .ok (.lload i, 2)) (t : Nat) (hv : lv[t]? = some (i, .long x)) (hq : pc + 2 = q) (kk : xG Y l X wf M q lv (.long x :: st)) : xG Y l X wf M pc lv (st) := by
  obtain ⟨p, e, R, s, m, args, below, meth, c, A, nL, Qc⟩ := X
  obtain ⟨hx, hb, hml, hown, hts, hK, hA, hlocks, hr, hRf, hRl, hN⟩ := C
  intro H locs ls hP hD hS hl
  subst hq
  exact lv_lload hx hb hd (lv_at hl t hv) (kk H locs ls hP hD hS hl)
theorem x_alN (q : Nat) (C : xC Y X cc own ret N F Lc) {k : Fin 4} {i : Nat} {x : Nat} (hd : decode cc pc = .ok (.aload_n k, 1)) (t : Nat) (hv : lv[t]? = some (i, .ref x)) (hi : (k : Nat) = i) (hq : pc + 1 = q) (kk : xG Y l X wf M q lv (.ref x :: st)) : xG Y l X wf M pc lv (st) := by
  obtain ⟨p, e, R, s, m, args, below, meth, c, A, nL, Qc⟩ := X
  obtain ⟨hx, hb, hml, hown, hts, hK, hA, hlocks, hr, hRf, hRl, hN⟩ := C
  intro H locs ls hP hD hS hl
  subst hq
  exact lv_aload_n hx hb hd hi (lv_at hl t hv) (kk H locs ls hP hD hS hl)
theorem x_isN (q : Nat) (C : xC Y X cc own ret N F Lc) {k : Fin 4} (i : Nat) {x : Int32} {lv2 : List (Nat × Value)} (hd : decode cc pc = .ok (.istore_n k, 1)) (hlv : (i, Value.int x) :: lv.filter (fun q => !(q.1 == i) && !(q.1 + 1 == i && q.2.category == 2)) = lv2) (hi : (k : Nat) = i) (hn : i < N) (hq : pc + 1 = q) (kk : xG Y l X wf M q lv2 (st)) : xG Y l X wf M pc lv (.int x :: st) := by
  obtain ⟨p, e, R, s, m, args, below, meth, c, A, nL, Qc⟩ := X
  obtain ⟨hx, hb, hml, hown, hts, hK, hA, hlocks, hr, hRf, hRl, hN⟩ := C
  intro H locs ls hP hD hS hl
  subst hq
  subst hN
  exact lv_istore_n hx hb hd hi hl hn hlv (fun ls hl => kk H locs ls hP hD hS hl)
theorem x_is (q : Nat) (C : xC Y X cc own ret N F Lc) (i : Nat) {x : Int32} {lv2 : List (Nat × Value)} (hd : decode cc pc = .ok (.istore i, 2)) (hlv : (i, Value.int x) :: lv.filter (fun q => !(q.1 == i) && !(q.1 + 1 == i && q.2.category == 2)) = lv2) (hn : i < N) (hq : pc + 2 = q) (kk : xG Y l X wf M q lv2 (st)) : xG Y l X wf M pc lv (.int x :: st) := by
  obtain ⟨p, e, R, s, m, args, below, meth, c, A, nL, Qc⟩ := X
  obtain ⟨hx, hb, hml, hown, hts, hK, hA, hlocks, hr, hRf, hRl, hN⟩ := C
  intro H locs ls hP hD hS hl
  subst hq
  subst hN
  exact lv_istore hx hb hd hl hn hlv (fun ls hl => kk H locs ls hP hD hS hl)
theorem x_lsN (q : Nat) (C : xC Y X cc own ret N F Lc) {k : Fin 4} (i : Nat) {x : Int64} {lv2 : List (Nat × Value)} (hd : decode cc pc = .ok (.lstore_n k, 1)) (hlv : (i, Value.long x) :: lv.filter (fun q => !(q.1 == i) && (!(q.1 == i + 1) && !(q.1 + 1 == i && q.2.category == 2))) = lv2) (hi : (k : Nat) = i) (hn : i + 1 < N) (hq : pc + 1 = q) (kk : xG Y l X wf M q lv2 (st)) : xG Y l X wf M pc lv (.long x :: st) := by
  obtain ⟨p, e, R, s, m, args, below, meth, c, A, nL, Qc⟩ := X
  obtain ⟨hx, hb, hml, hown, hts, hK, hA, hlocks, hr, hRf, hRl, hN⟩ := C
  intro H locs ls hP hD hS hl
  subst hq
  subst hN
  exact lv_lstore_n hx hb hd hi hl hn hlv (fun ls hl => kk H locs ls hP hD hS hl)
theorem x_ls (q : Nat) (C : xC Y X cc own ret N F Lc) (i : Nat) {x : Int64} {lv2 : List (Nat × Value)} (hd : decode cc pc = .ok (.lstore i, 2)) (hlv : (i, Value.long x) :: lv.filter (fun q => !(q.1 == i) && (!(q.1 == i + 1) && !(q.1 + 1 == i && q.2.category == 2))) = lv2) (hn : i + 1 < N) (hq : pc + 2 = q) (kk : xG Y l X wf M q lv2 (st)) : xG Y l X wf M pc lv (.long x :: st) := by
  obtain ⟨p, e, R, s, m, args, below, meth, c, A, nL, Qc⟩ := X
  obtain ⟨hx, hb, hml, hown, hts, hK, hA, hlocks, hr, hRf, hRl, hN⟩ := C
  intro H locs ls hP hD hS hl
  subst hq
  subst hN
  exact lv_lstore hx hb hd hl hn hlv (fun ls hl => kk H locs ls hP hD hS hl)
theorem x_iinc (q : Nat) (C : xC Y X cc own ret N F Lc) {i : Nat} {n : Int} {x : Int32} (v : Int32) {lv2 : List (Nat × Value)} (hd : decode cc pc = .ok (.iinc i n, 3)) (t : Nat) (hv : lv[t]? = some (i, .int x)) (hz : x + Int32.ofInt n = v) (hlv : (i, Value.int v) :: lv.filter (fun q => !(q.1 == i) && !(q.1 + 1 == i && q.2.category == 2)) = lv2) (hn : i < N) (hq : pc + 3 = q) (kk : xG Y l X wf M q lv2 (st)) : xG Y l X wf M pc lv (st) := by
  obtain ⟨p, e, R, s, m, args, below, meth, c, A, nL, Qc⟩ := X
  obtain ⟨hx, hb, hml, hown, hts, hK, hA, hlocks, hr, hRf, hRl, hN⟩ := C
  intro H locs ls hP hD hS hl
  subst hq
  subst hN
  exact lv_iinc hx hb hd hl hv hz hn hlv (fun ls hl => kk H locs ls hP hD hS hl)
theorem x_iconst (q : Nat) (C : xC Y X cc own ret N F Lc) {n : Int} (v : Int32) (hd : decode cc pc = .ok (.iconst n, 1)) (hv : Int32.ofInt n = v) (hq : pc + 1 = q) (kk : xG Y l X wf M q lv (.int v :: st)) : xG Y l X wf M pc lv (st) := by
  obtain ⟨p, e, R, s, m, args, below, meth, c, A, nL, Qc⟩ := X
  obtain ⟨hx, hb, hml, hown, hts, hK, hA, hlocks, hr, hRf, hRl, hN⟩ := C
  intro H locs ls hP hD hS hl
  subst hq
  exact lv_iconst hx hb hd hv (kk H locs ls hP hD hS hl)
theorem x_bipush (q : Nat) (C : xC Y X cc own ret N F Lc) {n : Int} (v : Int32) (hd : decode cc pc = .ok (.bipush n, 2)) (hv : (Int8.ofInt n).toInt32 = v) (hq : pc + 2 = q) (kk : xG Y l X wf M q lv (.int v :: st)) : xG Y l X wf M pc lv (st) := by
  obtain ⟨p, e, R, s, m, args, below, meth, c, A, nL, Qc⟩ := X
  obtain ⟨hx, hb, hml, hown, hts, hK, hA, hlocks, hr, hRf, hRl, hN⟩ := C
  intro H locs ls hP hD hS hl
  subst hq
  exact lv_bipush hx hb hd hv (kk H locs ls hP hD hS hl)
theorem x_sipush (q : Nat) (C : xC Y X cc own ret N F Lc) {n : Int} (v : Int32) (hd : decode cc pc = .ok (.sipush n, 3)) (hv : (Int16.ofInt n).toInt32 = v) (hq : pc + 3 = q) (kk : xG Y l X wf M q lv (.int v :: st)) : xG Y l X wf M pc lv (st) := by
  obtain ⟨p, e, R, s, m, args, below, meth, c, A, nL, Qc⟩ := X
  obtain ⟨hx, hb, hml, hown, hts, hK, hA, hlocks, hr, hRf, hRl, hN⟩ := C
  intro H locs ls hP hD hS hl
  subst hq
  exact lv_sipush hx hb hd hv (kk H locs ls hP hD hS hl)
theorem x_ldc2 (q : Nat) (C : xC Y X cc own ret N F Lc) {idx : Nat} {v : Int64} (hd : decode cc pc = .ok (.ldc2_w idx, 3)) (hw : Cond.constantLong own idx v ∈ xw) (hq : pc + 3 = q) (kk : xG Y l X wf M q lv (.long v :: st)) : xG Y l X wf M pc lv (st) := by
  obtain ⟨p, e, R, s, m, args, below, meth, c, A, nL, Qc⟩ := X
  obtain ⟨hx, hb, hml, hown, hts, hK, hA, hlocks, hr, hRf, hRl, hN⟩ := C
  intro H locs ls hP hD hS hl
  subst hq
  exact lv_ldc2 hx hb hown (hts _ hw) hd (kk H locs ls hP hD hS hl)
theorem x_iadd (q : Nat) (C : xC Y X cc own ret N F Lc) {x y : Int32} (hd : decode cc pc = .ok (.iadd, 1)) (hq : pc + 1 = q) (kk : xG Y l X wf M q lv (.int (x + y) :: st)) : xG Y l X wf M pc lv (.int y :: .int x :: st) := by
  obtain ⟨p, e, R, s, m, args, below, meth, c, A, nL, Qc⟩ := X
  obtain ⟨hx, hb, hml, hown, hts, hK, hA, hlocks, hr, hRf, hRl, hN⟩ := C
  intro H locs ls hP hD hS hl
  subst hq
  exact lv_iadd hx hb hd (kk H locs ls hP hD hS hl)
theorem x_isub (q : Nat) (C : xC Y X cc own ret N F Lc) {x y : Int32} (hd : decode cc pc = .ok (.isub, 1)) (hq : pc + 1 = q) (kk : xG Y l X wf M q lv (.int (x - y) :: st)) : xG Y l X wf M pc lv (.int y :: .int x :: st) := by
  obtain ⟨p, e, R, s, m, args, below, meth, c, A, nL, Qc⟩ := X
  obtain ⟨hx, hb, hml, hown, hts, hK, hA, hlocks, hr, hRf, hRl, hN⟩ := C
  intro H locs ls hP hD hS hl
  subst hq
  exact lv_isub hx hb hd (kk H locs ls hP hD hS hl)
theorem x_imul (q : Nat) (C : xC Y X cc own ret N F Lc) {x y : Int32} (hd : decode cc pc = .ok (.imul, 1)) (hq : pc + 1 = q) (kk : xG Y l X wf M q lv (.int (x * y) :: st)) : xG Y l X wf M pc lv (.int y :: .int x :: st) := by
  obtain ⟨p, e, R, s, m, args, below, meth, c, A, nL, Qc⟩ := X
  obtain ⟨hx, hb, hml, hown, hts, hK, hA, hlocks, hr, hRf, hRl, hN⟩ := C
  intro H locs ls hP hD hS hl
  subst hq
  exact lv_imul hx hb hd (kk H locs ls hP hD hS hl)
theorem x_iand (q : Nat) (C : xC Y X cc own ret N F Lc) {x y : Int32} (hd : decode cc pc = .ok (.iand, 1)) (hq : pc + 1 = q) (kk : xG Y l X wf M q lv (.int (x &&& y) :: st)) : xG Y l X wf M pc lv (.int y :: .int x :: st) := by
  obtain ⟨p, e, R, s, m, args, below, meth, c, A, nL, Qc⟩ := X
  obtain ⟨hx, hb, hml, hown, hts, hK, hA, hlocks, hr, hRf, hRl, hN⟩ := C
  intro H locs ls hP hD hS hl
  subst hq
  exact lv_iand hx hb hd (kk H locs ls hP hD hS hl)
theorem x_ior (q : Nat) (C : xC Y X cc own ret N F Lc) {x y : Int32} (hd : decode cc pc = .ok (.ior, 1)) (hq : pc + 1 = q) (kk : xG Y l X wf M q lv (.int (x ||| y) :: st)) : xG Y l X wf M pc lv (.int y :: .int x :: st) := by
  obtain ⟨p, e, R, s, m, args, below, meth, c, A, nL, Qc⟩ := X
  obtain ⟨hx, hb, hml, hown, hts, hK, hA, hlocks, hr, hRf, hRl, hN⟩ := C
  intro H locs ls hP hD hS hl
  subst hq
  exact lv_ior hx hb hd (kk H locs ls hP hD hS hl)
theorem x_ishl (q : Nat) (C : xC Y X cc own ret N F Lc) {x y : Int32} (hd : decode cc pc = .ok (.ishl, 1)) (hq : pc + 1 = q) (kk : xG Y l X wf M q lv (.int (x <<< (y &&& 31)) :: st)) : xG Y l X wf M pc lv (.int y :: .int x :: st) := by
  obtain ⟨p, e, R, s, m, args, below, meth, c, A, nL, Qc⟩ := X
  obtain ⟨hx, hb, hml, hown, hts, hK, hA, hlocks, hr, hRf, hRl, hN⟩ := C
  intro H locs ls hP hD hS hl
  subst hq
  exact lv_ishl hx hb hd (kk H locs ls hP hD hS hl)
theorem x_ladd (q : Nat) (C : xC Y X cc own ret N F Lc) {x y : Int64} (hd : decode cc pc = .ok (.ladd, 1)) (hq : pc + 1 = q) (kk : xG Y l X wf M q lv (.long (x + y) :: st)) : xG Y l X wf M pc lv (.long y :: .long x :: st) := by
  obtain ⟨p, e, R, s, m, args, below, meth, c, A, nL, Qc⟩ := X
  obtain ⟨hx, hb, hml, hown, hts, hK, hA, hlocks, hr, hRf, hRl, hN⟩ := C
  intro H locs ls hP hD hS hl
  subst hq
  exact lv_ladd hx hb hd (kk H locs ls hP hD hS hl)
theorem x_land (q : Nat) (C : xC Y X cc own ret N F Lc) {x y : Int64} (hd : decode cc pc = .ok (.land, 1)) (hq : pc + 1 = q) (kk : xG Y l X wf M q lv (.long (x &&& y) :: st)) : xG Y l X wf M pc lv (.long y :: .long x :: st) := by
  obtain ⟨p, e, R, s, m, args, below, meth, c, A, nL, Qc⟩ := X
  obtain ⟨hx, hb, hml, hown, hts, hK, hA, hlocks, hr, hRf, hRl, hN⟩ := C
  intro H locs ls hP hD hS hl
  subst hq
  exact lv_land hx hb hd (kk H locs ls hP hD hS hl)
theorem x_lor (q : Nat) (C : xC Y X cc own ret N F Lc) {x y : Int64} (hd : decode cc pc = .ok (.lor, 1)) (hq : pc + 1 = q) (kk : xG Y l X wf M q lv (.long (x ||| y) :: st)) : xG Y l X wf M pc lv (.long y :: .long x :: st) := by
  obtain ⟨p, e, R, s, m, args, below, meth, c, A, nL, Qc⟩ := X
  obtain ⟨hx, hb, hml, hown, hts, hK, hA, hlocks, hr, hRf, hRl, hN⟩ := C
  intro H locs ls hP hD hS hl
  subst hq
  exact lv_lor hx hb hd (kk H locs ls hP hD hS hl)
theorem x_lshl (q : Nat) (C : xC Y X cc own ret N F Lc) {x : Int64} {y : Int32} (hd : decode cc pc = .ok (.lshl, 1)) (hq : pc + 1 = q) (kk : xG Y l X wf M q lv (.long (x <<< (y.toInt64 &&& 63)) :: st)) : xG Y l X wf M pc lv (.int y :: .long x :: st) := by
  obtain ⟨p, e, R, s, m, args, below, meth, c, A, nL, Qc⟩ := X
  obtain ⟨hx, hb, hml, hown, hts, hK, hA, hlocks, hr, hRf, hRl, hN⟩ := C
  intro H locs ls hP hD hS hl
  subst hq
  exact lv_lshl hx hb hd rfl (kk H locs ls hP hD hS hl)
theorem x_lshr (q : Nat) (C : xC Y X cc own ret N F Lc) {x : Int64} {y : Int32} (hd : decode cc pc = .ok (.lshr, 1)) (hq : pc + 1 = q) (kk : xG Y l X wf M q lv (.long (x >>> (y.toInt64 &&& 63)) :: st)) : xG Y l X wf M pc lv (.int y :: .long x :: st) := by
  obtain ⟨p, e, R, s, m, args, below, meth, c, A, nL, Qc⟩ := X
  obtain ⟨hx, hb, hml, hown, hts, hK, hA, hlocks, hr, hRf, hRl, hN⟩ := C
  intro H locs ls hP hD hS hl
  subst hq
  exact lv_lshr hx hb hd rfl (kk H locs ls hP hD hS hl)
theorem x_i2l (q : Nat) (C : xC Y X cc own ret N F Lc) {x : Int32} (hd : decode cc pc = .ok (.i2l, 1)) (hq : pc + 1 = q) (kk : xG Y l X wf M q lv (.long x.toInt64 :: st)) : xG Y l X wf M pc lv (.int x :: st) := by
  obtain ⟨p, e, R, s, m, args, below, meth, c, A, nL, Qc⟩ := X
  obtain ⟨hx, hb, hml, hown, hts, hK, hA, hlocks, hr, hRf, hRl, hN⟩ := C
  intro H locs ls hP hD hS hl
  subst hq
  exact lv_i2l hx hb hd rfl (kk H locs ls hP hD hS hl)
theorem x_l2i (q : Nat) (C : xC Y X cc own ret N F Lc) {x : Int64} (hd : decode cc pc = .ok (.l2i, 1)) (hq : pc + 1 = q) (kk : xG Y l X wf M q lv (.int x.toInt32 :: st)) : xG Y l X wf M pc lv (.long x :: st) := by
  obtain ⟨p, e, R, s, m, args, below, meth, c, A, nL, Qc⟩ := X
  obtain ⟨hx, hb, hml, hown, hts, hK, hA, hlocks, hr, hRf, hRl, hN⟩ := C
  intro H locs ls hP hD hS hl
  subst hq
  exact lv_l2i hx hb hd rfl (kk H locs ls hP hD hS hl)
theorem x_lcmp (q : Nat) (C : xC Y X cc own ret N F Lc) {x y : Int64} (hd : decode cc pc = .ok (.lcmp, 1)) (hq : pc + 1 = q) (kk : xG Y l X wf M q lv (.int (lg_cmp x y) :: st)) : xG Y l X wf M pc lv (.long y :: .long x :: st) := by
  obtain ⟨p, e, R, s, m, args, below, meth, c, A, nL, Qc⟩ := X
  obtain ⟨hx, hb, hml, hown, hts, hK, hA, hlocks, hr, hRf, hRl, hN⟩ := C
  intro H locs ls hP hD hS hl
  subst hq
  exact W.lcmp hx hb hd (kk H locs ls hP hD hS hl)
theorem x_dup (q : Nat) (C : xC Y X cc own ret N F Lc) {va : Value} (hd : decode cc pc = .ok (.dup, 1)) (hc : va.category = 1) (hq : pc + 1 = q) (kk : xG Y l X wf M q lv (va :: va :: st)) : xG Y l X wf M pc lv (va :: st) := by
  obtain ⟨p, e, R, s, m, args, below, meth, c, A, nL, Qc⟩ := X
  obtain ⟨hx, hb, hml, hown, hts, hK, hA, hlocks, hr, hRf, hRl, hN⟩ := C
  intro H locs ls hP hD hS hl
  subst hq
  exact lv_dup hx hb hd hc (kk H locs ls hP hD hS hl)
theorem x_dup2 (q : Nat) (C : xC Y X cc own ret N F Lc) {va vb : Value} (hd : decode cc pc = .ok (.dup2, 1)) (hc : va.category = 1) (hc2 : vb.category = 1) (hq : pc + 1 = q) (kk : xG Y l X wf M q lv (va :: vb :: va :: vb :: st)) : xG Y l X wf M pc lv (va :: vb :: st) := by
  obtain ⟨p, e, R, s, m, args, below, meth, c, A, nL, Qc⟩ := X
  obtain ⟨hx, hb, hml, hown, hts, hK, hA, hlocks, hr, hRf, hRl, hN⟩ := C
  intro H locs ls hP hD hS hl
  subst hq
  exact lv_dup2_11 hx hb hd hc hc2 (kk H locs ls hP hD hS hl)
theorem x_pop (q : Nat) (C : xC Y X cc own ret N F Lc) {va : Value} (hd : decode cc pc = .ok (.pop, 1)) (hc : va.category = 1) (hq : pc + 1 = q) (kk : xG Y l X wf M q lv (st)) : xG Y l X wf M pc lv (va :: st) := by
  obtain ⟨p, e, R, s, m, args, below, meth, c, A, nL, Qc⟩ := X
  obtain ⟨hx, hb, hml, hown, hts, hK, hA, hlocks, hr, hRf, hRl, hN⟩ := C
  intro H locs ls hP hD hS hl
  subst hq
  exact lv_pop hx hb hd hc (kk H locs ls hP hD hS hl)
theorem x_goto (q : Nat) (C : xC Y X cc own ret N F Lc) {off : Int} (hd : decode cc pc = .ok (.goto off, 3)) (ht : (pc : Int) + off = (q : Int)) (kk : xG Y l X wf M q lv (st)) : xG Y l X wf M pc lv (st) := by
  obtain ⟨p, e, R, s, m, args, below, meth, c, A, nL, Qc⟩ := X
  obtain ⟨hx, hb, hml, hown, hts, hK, hA, hlocks, hr, hRf, hRl, hN⟩ := C
  intro H locs ls hP hD hS hl
  exact lv_goto hx hb hd ht (kk H locs ls hP hD hS hl)
theorem x_sub {lv2 : List (Nat × Value)} (ks : List Nat) (hk : lv_pick lv ks = lv2) (kk : xG Y l X wf M pc lv2 st) : xG Y l X wf M pc lv st := by
  obtain ⟨p, e, R, s, m, args, below, meth, c, A, nL, Qc⟩ := X
  intro H locs ls hP hD hS hl
  exact kk H locs ls hP hD hS (lv_sub hl ks hk)
theorem x_if_eq (q : Nat) (C : xC Y X cc own ret N F Lc) (tgt : Nat) {x : Int32} {off : Int} {ρ : Type} {r : ρ} {A B : Option ρ} {_ : Decidable (x = nI 0)} (hd : decode cc pc = .ok (.ifCond .eq off, 3)) (ht : (pc : Int) + off = (tgt : Int)) (hq : pc + 3 = q) (hf : (if x = nI 0 then A else B) = some r) (kt : A = some r → xG Y l X wf M tgt lv (st)) (kf : B = some r → xG Y l X wf M q lv (st)) : xG Y l X wf M pc lv (.int x :: st) := by
  obtain ⟨p, e, R, s, m, args, below, meth, c, A, nL, Qc⟩ := X
  obtain ⟨hx, hb, hml, hown, hts, hK, hA, hlocks, hr, hRf, hRl, hN⟩ := C
  intro H locs ls hP hD hS hl
  subst hq
  exact lv_if_eq hx hb hd ht (fun h => kt (by have h : x = nI 0 := h; rw [if_pos h] at hf; exact hf) H locs ls hP hD hS hl) (fun h => kf (by have h : ¬ (x = nI 0) := h; rw [if_neg h] at hf; exact hf) H locs ls hP hD hS hl)
theorem x_icmp_eq (q : Nat) (C : xC Y X cc own ret N F Lc) (tgt : Nat) {x y : Int32} {off : Int} {ρ : Type} {r : ρ} {A B : Option ρ} {_ : Decidable (x = y)} (hd : decode cc pc = .ok (.if_icmp .eq off, 3)) (ht : (pc : Int) + off = (tgt : Int)) (hq : pc + 3 = q) (hf : (if x = y then A else B) = some r) (kt : A = some r → xG Y l X wf M tgt lv (st)) (kf : B = some r → xG Y l X wf M q lv (st)) : xG Y l X wf M pc lv (.int y :: .int x :: st) := by
  obtain ⟨p, e, R, s, m, args, below, meth, c, A, nL, Qc⟩ := X
  obtain ⟨hx, hb, hml, hown, hts, hK, hA, hlocks, hr, hRf, hRl, hN⟩ := C
  intro H locs ls hP hD hS hl
  subst hq
  exact lv_icmp_eq hx hb hd ht (fun h => kt (by have h : x = y := h; rw [if_pos h] at hf; exact hf) H locs ls hP hD hS hl) (fun h => kf (by have h : ¬ (x = y) := h; rw [if_neg h] at hf; exact hf) H locs ls hP hD hS hl)
theorem x_if_ne (q : Nat) (C : xC Y X cc own ret N F Lc) (tgt : Nat) {x : Int32} {off : Int} {ρ : Type} {r : ρ} {A B : Option ρ} {_ : Decidable (x = nI 0)} (hd : decode cc pc = .ok (.ifCond .ne off, 3)) (ht : (pc : Int) + off = (tgt : Int)) (hq : pc + 3 = q) (hf : (if x = nI 0 then A else B) = some r) (kt : B = some r → xG Y l X wf M tgt lv (st)) (kf : A = some r → xG Y l X wf M q lv (st)) : xG Y l X wf M pc lv (.int x :: st) := by
  obtain ⟨p, e, R, s, m, args, below, meth, c, A, nL, Qc⟩ := X
  obtain ⟨hx, hb, hml, hown, hts, hK, hA, hlocks, hr, hRf, hRl, hN⟩ := C
  intro H locs ls hP hD hS hl
  subst hq
  exact lv_if_ne hx hb hd ht (fun h => kt (by have h : ¬ (x = nI 0) := h; rw [if_neg h] at hf; exact hf) H locs ls hP hD hS hl) (fun h => kf (by have h : x = nI 0 := h; rw [if_pos h] at hf; exact hf) H locs ls hP hD hS hl)
theorem x_icmp_ne (q : Nat) (C : xC Y X cc own ret N F Lc) (tgt : Nat) {x y : Int32} {off : Int} {ρ : Type} {r : ρ} {A B : Option ρ} {_ : Decidable (x = y)} (hd : decode cc pc = .ok (.if_icmp .ne off, 3)) (ht : (pc : Int) + off = (tgt : Int)) (hq : pc + 3 = q) (hf : (if x = y then A else B) = some r) (kt : B = some r → xG Y l X wf M tgt lv (st)) (kf : A = some r → xG Y l X wf M q lv (st)) : xG Y l X wf M pc lv (.int y :: .int x :: st) := by
  obtain ⟨p, e, R, s, m, args, below, meth, c, A, nL, Qc⟩ := X
  obtain ⟨hx, hb, hml, hown, hts, hK, hA, hlocks, hr, hRf, hRl, hN⟩ := C
  intro H locs ls hP hD hS hl
  subst hq
  exact lv_icmp_ne hx hb hd ht (fun h => kt (by have h : ¬ (x = y) := h; rw [if_neg h] at hf; exact hf) H locs ls hP hD hS hl) (fun h => kf (by have h : x = y := h; rw [if_pos h] at hf; exact hf) H locs ls hP hD hS hl)
theorem x_if_lt (q : Nat) (C : xC Y X cc own ret N F Lc) (tgt : Nat) {x : Int32} {off : Int} {ρ : Type} {r : ρ} {A B : Option ρ} {_ : Decidable (x < nI 0)} (hd : decode cc pc = .ok (.ifCond .lt off, 3)) (ht : (pc : Int) + off = (tgt : Int)) (hq : pc + 3 = q) (hf : (if x < nI 0 then A else B) = some r) (kt : A = some r → xG Y l X wf M tgt lv (st)) (kf : B = some r → xG Y l X wf M q lv (st)) : xG Y l X wf M pc lv (.int x :: st) := by
  obtain ⟨p, e, R, s, m, args, below, meth, c, A, nL, Qc⟩ := X
  obtain ⟨hx, hb, hml, hown, hts, hK, hA, hlocks, hr, hRf, hRl, hN⟩ := C
  intro H locs ls hP hD hS hl
  subst hq
  exact lv_if_lt hx hb hd ht (fun h => kt (by have h : x < nI 0 := h; rw [if_pos h] at hf; exact hf) H locs ls hP hD hS hl) (fun h => kf (by have h : ¬ (x < nI 0) := h; rw [if_neg h] at hf; exact hf) H locs ls hP hD hS hl)
theorem x_icmp_lt (q : Nat) (C : xC Y X cc own ret N F Lc) (tgt : Nat) {x y : Int32} {off : Int} {ρ : Type} {r : ρ} {A B : Option ρ} {_ : Decidable (x < y)} (hd : decode cc pc = .ok (.if_icmp .lt off, 3)) (ht : (pc : Int) + off = (tgt : Int)) (hq : pc + 3 = q) (hf : (if x < y then A else B) = some r) (kt : A = some r → xG Y l X wf M tgt lv (st)) (kf : B = some r → xG Y l X wf M q lv (st)) : xG Y l X wf M pc lv (.int y :: .int x :: st) := by
  obtain ⟨p, e, R, s, m, args, below, meth, c, A, nL, Qc⟩ := X
  obtain ⟨hx, hb, hml, hown, hts, hK, hA, hlocks, hr, hRf, hRl, hN⟩ := C
  intro H locs ls hP hD hS hl
  subst hq
  exact lv_icmp_lt hx hb hd ht (fun h => kt (by have h : x < y := h; rw [if_pos h] at hf; exact hf) H locs ls hP hD hS hl) (fun h => kf (by have h : ¬ (x < y) := h; rw [if_neg h] at hf; exact hf) H locs ls hP hD hS hl)
theorem x_if_ge (q : Nat) (C : xC Y X cc own ret N F Lc) (tgt : Nat) {x : Int32} {off : Int} {ρ : Type} {r : ρ} {A B : Option ρ} {_ : Decidable (nI 0 ≤ x)} (hd : decode cc pc = .ok (.ifCond .ge off, 3)) (ht : (pc : Int) + off = (tgt : Int)) (hq : pc + 3 = q) (hf : (if nI 0 ≤ x then A else B) = some r) (kt : A = some r → xG Y l X wf M tgt lv (st)) (kf : B = some r → xG Y l X wf M q lv (st)) : xG Y l X wf M pc lv (.int x :: st) := by
  obtain ⟨p, e, R, s, m, args, below, meth, c, A, nL, Qc⟩ := X
  obtain ⟨hx, hb, hml, hown, hts, hK, hA, hlocks, hr, hRf, hRl, hN⟩ := C
  intro H locs ls hP hD hS hl
  subst hq
  exact lv_if_ge hx hb hd ht (fun h => kt (by have h : nI 0 ≤ x := h; rw [if_pos h] at hf; exact hf) H locs ls hP hD hS hl) (fun h => kf (by have h : ¬ (nI 0 ≤ x) := h; rw [if_neg h] at hf; exact hf) H locs ls hP hD hS hl)
theorem x_icmp_ge (q : Nat) (C : xC Y X cc own ret N F Lc) (tgt : Nat) {x y : Int32} {off : Int} {ρ : Type} {r : ρ} {A B : Option ρ} {_ : Decidable (y ≤ x)} (hd : decode cc pc = .ok (.if_icmp .ge off, 3)) (ht : (pc : Int) + off = (tgt : Int)) (hq : pc + 3 = q) (hf : (if y ≤ x then A else B) = some r) (kt : A = some r → xG Y l X wf M tgt lv (st)) (kf : B = some r → xG Y l X wf M q lv (st)) : xG Y l X wf M pc lv (.int y :: .int x :: st) := by
  obtain ⟨p, e, R, s, m, args, below, meth, c, A, nL, Qc⟩ := X
  obtain ⟨hx, hb, hml, hown, hts, hK, hA, hlocks, hr, hRf, hRl, hN⟩ := C
  intro H locs ls hP hD hS hl
  subst hq
  exact lv_icmp_ge hx hb hd ht (fun h => kt (by have h : y ≤ x := h; rw [if_pos h] at hf; exact hf) H locs ls hP hD hS hl) (fun h => kf (by have h : ¬ (y ≤ x) := h; rw [if_neg h] at hf; exact hf) H locs ls hP hD hS hl)
theorem x_if_gt (q : Nat) (C : xC Y X cc own ret N F Lc) (tgt : Nat) {x : Int32} {off : Int} {ρ : Type} {r : ρ} {A B : Option ρ} {_ : Decidable (nI 0 < x)} (hd : decode cc pc = .ok (.ifCond .gt off, 3)) (ht : (pc : Int) + off = (tgt : Int)) (hq : pc + 3 = q) (hf : (if nI 0 < x then A else B) = some r) (kt : A = some r → xG Y l X wf M tgt lv (st)) (kf : B = some r → xG Y l X wf M q lv (st)) : xG Y l X wf M pc lv (.int x :: st) := by
  obtain ⟨p, e, R, s, m, args, below, meth, c, A, nL, Qc⟩ := X
  obtain ⟨hx, hb, hml, hown, hts, hK, hA, hlocks, hr, hRf, hRl, hN⟩ := C
  intro H locs ls hP hD hS hl
  subst hq
  exact lv_if_gt hx hb hd ht (fun h => kt (by have h : nI 0 < x := h; rw [if_pos h] at hf; exact hf) H locs ls hP hD hS hl) (fun h => kf (by have h : ¬ (nI 0 < x) := h; rw [if_neg h] at hf; exact hf) H locs ls hP hD hS hl)
theorem x_icmp_gt (q : Nat) (C : xC Y X cc own ret N F Lc) (tgt : Nat) {x y : Int32} {off : Int} {ρ : Type} {r : ρ} {A B : Option ρ} {_ : Decidable (y < x)} (hd : decode cc pc = .ok (.if_icmp .gt off, 3)) (ht : (pc : Int) + off = (tgt : Int)) (hq : pc + 3 = q) (hf : (if y < x then A else B) = some r) (kt : A = some r → xG Y l X wf M tgt lv (st)) (kf : B = some r → xG Y l X wf M q lv (st)) : xG Y l X wf M pc lv (.int y :: .int x :: st) := by
  obtain ⟨p, e, R, s, m, args, below, meth, c, A, nL, Qc⟩ := X
  obtain ⟨hx, hb, hml, hown, hts, hK, hA, hlocks, hr, hRf, hRl, hN⟩ := C
  intro H locs ls hP hD hS hl
  subst hq
  exact lv_icmp_gt hx hb hd ht (fun h => kt (by have h : y < x := h; rw [if_pos h] at hf; exact hf) H locs ls hP hD hS hl) (fun h => kf (by have h : ¬ (y < x) := h; rw [if_neg h] at hf; exact hf) H locs ls hP hD hS hl)
theorem x_if_le (q : Nat) (C : xC Y X cc own ret N F Lc) (tgt : Nat) {x : Int32} {off : Int} {ρ : Type} {r : ρ} {A B : Option ρ} {_ : Decidable (x ≤ nI 0)} (hd : decode cc pc = .ok (.ifCond .le off, 3)) (ht : (pc : Int) + off = (tgt : Int)) (hq : pc + 3 = q) (hf : (if x ≤ nI 0 then A else B) = some r) (kt : A = some r → xG Y l X wf M tgt lv (st)) (kf : B = some r → xG Y l X wf M q lv (st)) : xG Y l X wf M pc lv (.int x :: st) := by
  obtain ⟨p, e, R, s, m, args, below, meth, c, A, nL, Qc⟩ := X
  obtain ⟨hx, hb, hml, hown, hts, hK, hA, hlocks, hr, hRf, hRl, hN⟩ := C
  intro H locs ls hP hD hS hl
  subst hq
  exact lv_if_le hx hb hd ht (fun h => kt (by have h : x ≤ nI 0 := h; rw [if_pos h] at hf; exact hf) H locs ls hP hD hS hl) (fun h => kf (by have h : ¬ (x ≤ nI 0) := h; rw [if_neg h] at hf; exact hf) H locs ls hP hD hS hl)
theorem x_icmp_le (q : Nat) (C : xC Y X cc own ret N F Lc) (tgt : Nat) {x y : Int32} {off : Int} {ρ : Type} {r : ρ} {A B : Option ρ} {_ : Decidable (x ≤ y)} (hd : decode cc pc = .ok (.if_icmp .le off, 3)) (ht : (pc : Int) + off = (tgt : Int)) (hq : pc + 3 = q) (hf : (if x ≤ y then A else B) = some r) (kt : A = some r → xG Y l X wf M tgt lv (st)) (kf : B = some r → xG Y l X wf M q lv (st)) : xG Y l X wf M pc lv (.int y :: .int x :: st) := by
  obtain ⟨p, e, R, s, m, args, below, meth, c, A, nL, Qc⟩ := X
  obtain ⟨hx, hb, hml, hown, hts, hK, hA, hlocks, hr, hRf, hRl, hN⟩ := C
  intro H locs ls hP hD hS hl
  subst hq
  exact lv_icmp_le hx hb hd ht (fun h => kt (by have h : x ≤ y := h; rw [if_pos h] at hf; exact hf) H locs ls hP hD hS hl) (fun h => kf (by have h : ¬ (x ≤ y) := h; rw [if_neg h] at hf; exact hf) H locs ls hP hD hS hl)
theorem x_get (q : Nat) (C : xC Y X cc own ret N F Lc) (q0 : Nat) {idx ci k N2 : Nat} {a : Nat} {C2 : String} {T : u_T} {fs : List Value} {v : Value} (he : (wf M)[q0]? = some (a, .inr (ci, fs))) (hv : fs[k]? = some v) (hc : vwCl[ci]? = some (C2, T, N2)) (hin : ∀ w ∈ u_ws C2 T N2, w ∈ xw) (hk : k < N2) (hw : Cond.fieldLink own idx (T k).1 (T k).2.1 (T k).2.2.1 ∈ xw) (hd : decode cc pc = .ok (.getfield idx, 3)) (hq : pc + 3 = q) (kk : xG Y l X wf M q lv (v :: st)) : xG Y l X wf M pc lv (.ref a :: st) := by
  obtain ⟨p, e, R, s, m, args, below, meth, c, A, nL, Qc⟩ := X
  obtain ⟨hx, hb, hml, hown, hts, hK, hA, hlocks, hr, hRf, hRl, hN⟩ := C
  intro H locs ls hP hD hS hl
  subst hq
  exact va_get hx hb hts hin hown hK hP q0 he hc k hk (hts _ hw) (fun _ h9 => h9) hv hd (kk H locs ls hP hD hS hl)
theorem x_putI (q : Nat) (C : xC Y X cc own ret N F Lc) (q0 : Nat) {idx ci k N2 : Nat} {a : Nat} {C2 : String} {T : u_T} {fs : List Value} {v : Int32} {M2 : xM} (ty0 : Nat → FieldType) (hty : ∀ k, k < N2 → parseFieldDescriptor (T k).2.2.1 = some (ty0 k)) (hnm : ∀ a, a < N2 → ∀ b, b < N2 → a ≠ b → (T a).2.1 ≠ (T b).2.1) (he : (wf M)[q0]? = some (a, .inr (ci, fs))) (hs : (wf M).set q0 (a, .inr (ci, fs.set k (.int v))) = wf M2) (hc : vwCl[ci]? = some (C2, T, N2)) (hin : ∀ w ∈ u_ws C2 T N2, w ∈ xw) (hk : k < N2) (hl2 : k < fs.length) (hw : Cond.fieldLink own idx (T k).1 (T k).2.1 (T k).2.2.1 ∈ xw) (hfin : (T k).2.2.2 = false) (hdsc : parseFieldDescriptor (T k).2.2.1 = some .int) (hd : decode cc pc = .ok (.putfield idx, 3)) (hq : pc + 3 = q) (kk : xG Y l X wf M2 q lv (st)) : xG Y l X wf M pc lv (.int v :: .ref a :: st) := by
  obtain ⟨p, e, R, s, m, args, below, meth, c, A, nL, Qc⟩ := X
  obtain ⟨hx, hb, hml, hown, hts, hK, hA, hlocks, hr, hRf, hRl, hN⟩ := C
  intro H locs ls hP hD hS hl
  subst hq
  refine va_put hx hb hts hin ty0 hty hnm hown hK hP hD hS q0 he hc k hk (hts _ hw) (fun _ h9 => h9) hfin hdsc rfl rfl hl2 hd (fun H1 locs1 hP hD hS => ?_)
  rw [hs] at hP hD
  exact kk H1 locs1 ls hP hD hS hl
theorem x_iald (q : Nat) (C : xC Y X cc own ret N F Lc) (q0 : Nat) {n a : Nat} {f : Nat → Int32} {i : Int32} {ρ : Type} {r : ρ} {K : Int32 → Option ρ} (ha : (wf M)[q0]? = some (a, .inl (Y.2.1, n, .inl f))) (hd : decode cc pc = .ok (.iaload, 1)) (hq : pc + 1 = q) (hf : xrd n f i K = some r) (kk : ∀ x : Int32, K x = some r → xG Y l X wf M q lv (.int x :: st)) : xG Y l X wf M pc lv (.int i :: .ref a :: st) := by
  obtain ⟨p, e, R, s, m, args, below, meth, c, A, nL, Qc⟩ := X
  obtain ⟨hx, hb, hml, hown, hts, hK, hA, hlocks, hr, hRf, hRl, hN⟩ := C
  intro H locs ls hP hD hS hl
  subst hq
  unfold xrd at hf
  by_cases hin : ¬ (i < 0 ∨ n ≤ i.toNatClampNeg)
  · rw [if_pos hin] at hf
    exact va_iald hx hb hK hP q0 0 ha rfl hin hd (kk _ hf H locs ls hP hD hS hl)
  · rw [if_neg hin] at hf
    cases hf
theorem x_zald (q : Nat) (C : xC Y X cc own ret N F Lc) (q0 : Nat) {n a : Nat} {f : Nat → Int32} {i : Int32} {ρ : Type} {r : ρ} {K : Int32 → Option ρ} (ha : (wf M)[q0]? = some (a, .inl (Y.2.2.2.1, n, .inl f))) (hd : decode cc pc = .ok (.baload, 1)) (hq : pc + 1 = q) (hf : xrd n f i K = some r) (kk : ∀ x : Int32, K x = some r → xG Y l X wf M q lv (.int x :: st)) : xG Y l X wf M pc lv (.int i :: .ref a :: st) := by
  obtain ⟨p, e, R, s, m, args, below, meth, c, A, nL, Qc⟩ := X
  obtain ⟨hx, hb, hml, hown, hts, hK, hA, hlocks, hr, hRf, hRl, hN⟩ := C
  intro H locs ls hP hD hS hl
  subst hq
  unfold xrd at hf
  by_cases hin : ¬ (i < 0 ∨ n ≤ i.toNatClampNeg)
  · rw [if_pos hin] at hf
    exact va_zald hx hb hK hP q0 2 ha rfl hin hd (kk _ hf H locs ls hP hD hS hl)
  · rw [if_neg hin] at hf
    cases hf
theorem x_lald (q : Nat) (C : xC Y X cc own ret N F Lc) (q0 : Nat) {n a : Nat} {f : Nat → Int64} {i : Int32} {ρ : Type} {r : ρ} {K : Int64 → Option ρ} (ha : (wf M)[q0]? = some (a, .inl (Y.2.2.1, n, .inr (.inl f)))) (hd : decode cc pc = .ok (.laload, 1)) (hq : pc + 1 = q) (hf : xrd n f i K = some r) (kk : ∀ x : Int64, K x = some r → xG Y l X wf M q lv (.long x :: st)) : xG Y l X wf M pc lv (.int i :: .ref a :: st) := by
  obtain ⟨p, e, R, s, m, args, below, meth, c, A, nL, Qc⟩ := X
  obtain ⟨hx, hb, hml, hown, hts, hK, hA, hlocks, hr, hRf, hRl, hN⟩ := C
  intro H locs ls hP hD hS hl
  subst hq
  unfold xrd at hf
  by_cases hin : ¬ (i < 0 ∨ n ≤ i.toNatClampNeg)
  · rw [if_pos hin] at hf
    exact va_lald hx hb hK hP q0 1 ha rfl hin hd (kk _ hf H locs ls hP hD hS hl)
  · rw [if_neg hin] at hf
    cases hf
theorem x_iast (q : Nat) (C : xC Y X cc own ret N F Lc) (q0 : Nat) {n a k : Nat} {f : Nat → Int32} {i : Int32} {x : Int32} {ρ : Type} {r : ρ} {K : xM → Option ρ} (ha : (wf M)[q0]? = some (a, .inl (Y.2.1, n, .inl f))) (hs : ∀ (j : Nat) (v : Int32), (wf M).set q0 (a, .inl (Y.2.1, n, .inl (upd f j v))) = wf (xI M k j v)) (hd : decode cc pc = .ok (.iastore, 1)) (hq : pc + 1 = q) (hf : xwI n M k i x K = some r) (kk : ∀ M2 : xM, K M2 = some r → xG Y l X wf M2 q lv (st)) : xG Y l X wf M pc lv (.int x :: .int i :: .ref a :: st) := by
  obtain ⟨p, e, R, s, m, args, below, meth, c, A, nL, Qc⟩ := X
  obtain ⟨hx, hb, hml, hown, hts, hK, hA, hlocks, hr, hRf, hRl, hN⟩ := C
  intro H locs ls hP hD hS hl
  subst hq
  unfold xwI at hf
  by_cases hin : ¬ (i < 0 ∨ n ≤ i.toNatClampNeg)
  · rw [if_pos hin] at hf
    refine va_iast hx hb hK hP hD hS q0 0 ha rfl hin hd (fun H1 locs1 hP hD hS => ?_)
    rw [hs] at hP hD
    exact kk _ hf H1 locs1 ls hP hD hS hl
  · rw [if_neg hin] at hf
    cases hf
theorem x_zast (q : Nat) (C : xC Y X cc own ret N F Lc) (q0 : Nat) {n a k : Nat} {f : Nat → Int32} {i : Int32} {x : Int32} {ρ : Type} {r : ρ} {K : xM → Option ρ} (ha : (wf M)[q0]? = some (a, .inl (Y.2.2.2.1, n, .inl f))) (hs : ∀ (j : Nat) (v : Int32), (wf M).set q0 (a, .inl (Y.2.2.2.1, n, .inl (upd f j v))) = wf (xI M k j v)) (hd : decode cc pc = .ok (.bastore, 1)) (hq : pc + 1 = q) (hf : xwI n M k i (vp_nar .boolean x) K = some r) (kk : ∀ M2 : xM, K M2 = some r → xG Y l X wf M2 q lv (st)) : xG Y l X wf M pc lv (.int x :: .int i :: .ref a :: st) := by
  obtain ⟨p, e, R, s, m, args, below, meth, c, A, nL, Qc⟩ := X
  obtain ⟨hx, hb, hml, hown, hts, hK, hA, hlocks, hr, hRf, hRl, hN⟩ := C
  intro H locs ls hP hD hS hl
  subst hq
  unfold xwI at hf
  by_cases hin : ¬ (i < 0 ∨ n ≤ i.toNatClampNeg)
  · rw [if_pos hin] at hf
    refine va_zast hx hb hK hP hD hS q0 2 ha rfl hin hd (fun H1 locs1 hP hD hS => ?_)
    rw [hs] at hP hD
    exact kk _ hf H1 locs1 ls hP hD hS hl
  · rw [if_neg hin] at hf
    cases hf
theorem x_last (q : Nat) (C : xC Y X cc own ret N F Lc) (q0 : Nat) {n a k : Nat} {f : Nat → Int64} {i : Int32} {x : Int64} {ρ : Type} {r : ρ} {K : xM → Option ρ} (ha : (wf M)[q0]? = some (a, .inl (Y.2.2.1, n, .inr (.inl f)))) (hs : ∀ (j : Nat) (v : Int64), (wf M).set q0 (a, .inl (Y.2.2.1, n, .inr (.inl (vp_updL f j v)))) = wf (xJ M k j v)) (hd : decode cc pc = .ok (.lastore, 1)) (hq : pc + 1 = q) (hf : xwJ n M k i x K = some r) (kk : ∀ M2 : xM, K M2 = some r → xG Y l X wf M2 q lv (st)) : xG Y l X wf M pc lv (.long x :: .int i :: .ref a :: st) := by
  obtain ⟨p, e, R, s, m, args, below, meth, c, A, nL, Qc⟩ := X
  obtain ⟨hx, hb, hml, hown, hts, hK, hA, hlocks, hr, hRf, hRl, hN⟩ := C
  intro H locs ls hP hD hS hl
  subst hq
  unfold xwJ at hf
  by_cases hin : ¬ (i < 0 ∨ n ≤ i.toNatClampNeg)
  · rw [if_pos hin] at hf
    refine va_last hx hb hK hP hD hS q0 1 ha rfl hin hd (fun H1 locs1 hP hD hS => ?_)
    rw [hs] at hP hD
    exact kk _ hf H1 locs1 ls hP hD hS hl
  · rw [if_neg hin] at hf
    cases hf
theorem x_alenI (q : Nat) (C : xC Y X cc own ret N F Lc) (q0 : Nat) {n a : Nat} {f : Nat → Int32} (v : Int32) (ha : (wf M)[q0]? = some (a, .inl (Y.2.1, n, .inl f))) (hv : Int32.ofNat n = v) (hd : decode cc pc = .ok (.arraylength, 1)) (hq : pc + 1 = q) (kk : xG Y l X wf M q lv (.int v :: st)) : xG Y l X wf M pc lv (.ref a :: st) := by
  obtain ⟨p, e, R, s, m, args, below, meth, c, A, nL, Qc⟩ := X
  obtain ⟨hx, hb, hml, hown, hts, hK, hA, hlocks, hr, hRf, hRl, hN⟩ := C
  intro H locs ls hP hD hS hl
  subst hq
  exact va_alen hx hb hK hP q0 0 ha rfl hv hd (kk H locs ls hP hD hS hl)
theorem x_alenJ (q : Nat) (C : xC Y X cc own ret N F Lc) (q0 : Nat) {n a : Nat} {f : Nat → Int64} (v : Int32) (ha : (wf M)[q0]? = some (a, .inl (Y.2.2.1, n, .inr (.inl f)))) (hv : Int32.ofNat n = v) (hd : decode cc pc = .ok (.arraylength, 1)) (hq : pc + 1 = q) (kk : xG Y l X wf M q lv (.int v :: st)) : xG Y l X wf M pc lv (.ref a :: st) := by
  obtain ⟨p, e, R, s, m, args, below, meth, c, A, nL, Qc⟩ := X
  obtain ⟨hx, hb, hml, hown, hts, hK, hA, hlocks, hr, hRf, hRl, hN⟩ := C
  intro H locs ls hP hD hS hl
  subst hq
  exact va_alen hx hb hK hP q0 1 ha rfl hv hd (kk H locs ls hP hD hS hl)
theorem x_iretP (C : xC Y X cc own ret N F Lc) {r0 : Int32} (HQ : xRI Y X wf r0 M) {v : Int32} {ty : FieldType} (hret : ret = some ty) (hn : narrow ty (.int v) = .int v) (hd : decode cc pc = .ok (.ireturn, 1)) (hf : some v = some r0) : xG Y l X wf M pc lv ([.int v]) := by
  obtain ⟨p, e, R, s, m, args, below, meth, c, A, nL, Qc⟩ := X
  obtain ⟨hx, hb, hml, hown, hts, hK, hA, hlocks, hr, hRf, hRl, hN⟩ := C
  intro H locs ls hP hD hS hl
  have hQ : Qc = _ := HQ
  subst hQ
  subst hret
  cases hf
  exact W.zret hx hb hr hn (fun t ht hW => ⟨⟨_, _, rfl, ⟨rfl, rfl⟩, by rw [ht]; exact hP, va_K.moved hW.alike hK, hD⟩, hS.F ht⟩) hS.2.2 hd hlocks
theorem x_iretM (C : xC Y X cc own ret N F Lc) {z0 : Int32 × xM} (HQ : xRI Y X wf z0.1 z0.2) {v : Int32} {ty : FieldType} (hret : ret = some ty) (hn : narrow ty (.int v) = .int v) (hd : decode cc pc = .ok (.ireturn, 1)) (hf : some (v, M) = some z0) : xG Y l X wf M pc lv ([.int v]) := by
  obtain ⟨p, e, R, s, m, args, below, meth, c, A, nL, Qc⟩ := X
  obtain ⟨hx, hb, hml, hown, hts, hK, hA, hlocks, hr, hRf, hRl, hN⟩ := C
  intro H locs ls hP hD hS hl
  have hQ : Qc = _ := HQ
  subst hQ
  subst hret
  cases hf
  exact W.zret hx hb hr hn (fun t ht hW => ⟨⟨_, _, rfl, ⟨rfl, rfl⟩, by rw [ht]; exact hP, va_K.moved hW.alike hK, hD⟩, hS.F ht⟩) hS.2.2 hd hlocks
theorem x_nz {v : Int32} {ρ : Type} {E : Option ρ} {r : ρ} (hf : xzb v E = some r) : narrow .boolean (.int v) = .int v ∧ E = some r := by
  unfold xzb at hf
  by_cases h : v = 0 ∨ v = 1
  · rw [if_pos h] at hf
    refine ⟨?_, hf⟩
    rcases h with rfl | rfl <;> rfl
  · rw [if_neg h] at hf
    cases hf
theorem x_lretP (C : xC Y X cc own ret N F Lc) {r0 : Int64} (HQ : xRL Y X wf r0 M) {v : Int64} (hret : ret = some .long) (hd : decode cc pc = .ok (.lreturn, 1)) (hf : some v = some r0) : xG Y l X wf M pc lv ([.long v]) := by
  obtain ⟨p, e, R, s, m, args, below, meth, c, A, nL, Qc⟩ := X
  obtain ⟨hx, hb, hml, hown, hts, hK, hA, hlocks, hr, hRf, hRl, hN⟩ := C
  intro H locs ls hP hD hS hl
  have hQ : Qc = _ := HQ
  subst hQ
  subst hret
  cases hf
  exact W.lret hx hb hr (fun t ht hW => ⟨⟨_, _, rfl, ⟨rfl, rfl⟩, by rw [ht]; exact hP, va_K.moved hW.alike hK, hD⟩, hS.F ht⟩) hS.2.2 hd hlocks
theorem x_vret (C : xC Y X cc own ret N F Lc) {m0 : xM} (HQ : xRV Y X wf m0) (hret : ret = none) (hd : decode cc pc = .ok (.return_, 1)) (hf : some M = some m0) : xG Y l X wf M pc lv ([]) := by
  obtain ⟨p, e, R, s, m, args, below, meth, c, A, nL, Qc⟩ := X
  obtain ⟨hx, hb, hml, hown, hts, hK, hA, hlocks, hr, hRf, hRl, hN⟩ := C
  intro H locs ls hP hD hS hl
  have hQ : Qc = _ := HQ
  subst hQ
  subst hret
  cases hf
  exact W.vret hx hb hr (fun t ht hW => ⟨⟨_, rfl, rfl, by rw [ht]; exact hP, va_K.moved hW.alike hK, hD⟩, hS.F ht⟩) hS.2.2 hd hlocks
theorem x_gin (c : Cond) (hc : c ∈ xw) : GoodIn xw (c :: xw) := by
  have h := List.all_eq_true.mp xw_good
  intro w hw
  rcases List.mem_cons.mp hw with rfl | hw
  · exact ⟨hc, good_of_word (h _ hc)⟩
  · exact ⟨hw, good_of_word (h _ hw)⟩
def xmv (y : MethodName) (bytes : ByteArray) (maxL : Nat) (ret : Option FieldType) (n : Nat) : Prop := Cond.instanceMethod y ∈ xw ∧ Cond.selects y.cls y y ∈ xw ∧ Cond.initialized y.cls ∈ xw ∧ Cond.code y bytes maxL ret ∈ xw ∧ y.cls ≠ "java/lang/invoke/MethodHandle" ∧ y.cls ≠ "java/lang/invoke/VarHandle" ∧ (parseMethodDescriptor y.desc).map (fun d => d.parameters.length) = some n
def xms (y : MethodName) (bytes : ByteArray) (maxL : Nat) (ret : Option FieldType) (n : Nat) : Prop := Cond.static y ∈ xw ∧ Cond.initialized y.cls ∈ xw ∧ Cond.code y bytes maxL ret ∈ xw ∧ y.cls ≠ "java/lang/invoke/MethodHandle" ∧ y.cls ≠ "java/lang/invoke/VarHandle" ∧ (parseMethodDescriptor y.desc).map (fun d => d.parameters.length) = some n
theorem x_blind {Y : xY} {ws : va_W} {sz : Nat} {av : List Value} : FrameBlind (xPre Y ws sz av) := by
  intro a U g mk q
  obtain ⟨q0, q1, qP, qK, qD⟩ := q
  exact ⟨q0, q1, qP, va_K.moved (u := U) (U := U.calling g mk a) (Vm.Alike.refl U.vm) qK, qD⟩
theorem x_fr {A : Nat → Prop} {ws : va_W} {H0 H : Heap} {locs : List Loc} (hD : va_D A ws) (hS : va_S A H0 H locs) (hA : ∀ q, H0.size ≤ q → A q) : ∀ q, va_A ws H.size q → A q := by
  intro q h
  rcases h with ⟨k, e, h⟩ | h
  · exact hD.2 k (q, e) h
  · exact hA q (Nat.le_trans hS.1 h)
theorem x_cvIP (q : Nat) (C : xC Y X cc own ret N F Lc) {y : MethodName} {bytes : ByteArray} {maxL : Nat} {rt : Option FieldType} {fr lo n idx : Nat} {b ci N2 : Nat} {T : u_T} {fs : List Value} (As : List Value) (hw : xmv y bytes maxL rt n) (hlk : Cond.methodLink own idx y ∈ xw) (hd : decode cc pc = .ok (.invokevirtual idx, 3)) (hq : pc + 3 = q) (hR : fr + 1 ≤ F ∧ 8 + (maxL + 11) + lo ≤ Lc) (q0 : Nat) (he : (wf M)[q0]? = some (b, .inr (ci, fs))) (hc : vwCl[ci]? = some (y.cls, T, N2)) {st0 : List Value} (hst : st0 = As.reverse ++ .ref b :: st) (hn : As.length = n) (hsum : (st.map fun v => v.category).sum ≤ 8) {ρ : Type} {r : ρ} {Fn : Option (Int32)} {K : Int32 → Option ρ} (hM : ∀ x, Fn = some x → xcI l Y wf y bytes maxL rt fr lo (.ref b :: As) M x M) (hf : Fn.bind K = some r) (kk : ∀ x : Int32, K x = some r → xG Y l X wf M q lv (.int x :: st)) : xG Y l X wf M pc lv (st0) := by
  obtain ⟨p, e, R, s, m, args, below, meth, c, A, nL, Qc⟩ := X
  obtain ⟨hx, hb, hml, hown, hts, hK, hA, hlocks, hr, hRf, hRl, hN⟩ := C
  intro H locs ls hP hD hS hl
  subst hq
  subst hst
  obtain ⟨h1, h2, h3, h4, h5, h6, h7⟩ := hw
  cases hF : Fn with
  | none => rw [hF] at hf; cases hf
  | some x =>
    rw [hF] at hf
    have hM := hM x hF H.size
    have hFc := x_fr hD hS hA
    have hRR : (xRm fr lo).frames + 1 ≤ R.frames ∧ 8 + (maxL + 11) + (xRm fr lo).locals ≤ R.locals := by rw [hRf, hRl]; exact hR
    refine va_calli (va_runV (As := As) (rest := st) ⟨hx, hb, hml, hown, hts⟩ hM ⟨callB_of n hts (x_gin _ h4) rfl rfl rfl (hts _ h3) (hts _ hlk) ⟨h5, h6, h7⟩ hRR, hts _ h1, hts _ h2⟩ ⟨x_blind, va_recv hK hP (ci := ci) (q0 := q0) hc he, fun U hU hW => ⟨rfl, by rw [hU], by rw [hU]; exact hP, va_K.moved hW.alike hK, hD.weaken (fun _ _ _ _ => trivial)⟩⟩ rfl hn hl.1 rfl (lv_room hsum) hd ⟨Nat.zero_le _, Nat.zero_le _⟩) hS (fun q _ h => hFc q h) hFc (fun r1 u t H1 locs1 ht hvm hw hB hz1 hk1 hS1 => ?_)
    obtain ⟨rfl, rfl⟩ := hw
    obtain ⟨hP1, hK1, hD1⟩ := hB
    rw [ht] at hP1
    exact kk _ hf H1 locs1 ls hP1 (hD1.weaken (fun k q _ h => hFc q.1 h)) hS1 hl
theorem x_cvIM (q : Nat) (C : xC Y X cc own ret N F Lc) {y : MethodName} {bytes : ByteArray} {maxL : Nat} {rt : Option FieldType} {fr lo n idx : Nat} {b ci N2 : Nat} {T : u_T} {fs : List Value} (As : List Value) (hw : xmv y bytes maxL rt n) (hlk : Cond.methodLink own idx y ∈ xw) (hd : decode cc pc = .ok (.invokevirtual idx, 3)) (hq : pc + 3 = q) (hR : fr + 1 ≤ F ∧ 8 + (maxL + 11) + lo ≤ Lc) (q0 : Nat) (he : (wf M)[q0]? = some (b, .inr (ci, fs))) (hc : vwCl[ci]? = some (y.cls, T, N2)) {st0 : List Value} (hst : st0 = As.reverse ++ .ref b :: st) (hn : As.length = n) (hsum : (st.map fun v => v.category).sum ≤ 8) {ρ : Type} {r : ρ} {Fn : Option (Int32 × xM)} {K : Int32 × xM → Option ρ} (hM : ∀ z, Fn = some z → xcI l Y wf y bytes maxL rt fr lo (.ref b :: As) M z.1 z.2) (hf : Fn.bind K = some r) (kk : ∀ z : Int32 × xM, K z = some r → xG Y l X wf z.2 q lv (.int z.1 :: st)) : xG Y l X wf M pc lv (st0) := by
  obtain ⟨p, e, R, s, m, args, below, meth, c, A, nL, Qc⟩ := X
  obtain ⟨hx, hb, hml, hown, hts, hK, hA, hlocks, hr, hRf, hRl, hN⟩ := C
  intro H locs ls hP hD hS hl
  subst hq
  subst hst
  obtain ⟨h1, h2, h3, h4, h5, h6, h7⟩ := hw
  cases hF : Fn with
  | none => rw [hF] at hf; cases hf
  | some z =>
    rw [hF] at hf
    have hM := hM z hF H.size
    have hFc := x_fr hD hS hA
    have hRR : (xRm fr lo).frames + 1 ≤ R.frames ∧ 8 + (maxL + 11) + (xRm fr lo).locals ≤ R.locals := by rw [hRf, hRl]; exact hR
    refine va_calli (va_runV (As := As) (rest := st) ⟨hx, hb, hml, hown, hts⟩ hM ⟨callB_of n hts (x_gin _ h4) rfl rfl rfl (hts _ h3) (hts _ hlk) ⟨h5, h6, h7⟩ hRR, hts _ h1, hts _ h2⟩ ⟨x_blind, va_recv hK hP (ci := ci) (q0 := q0) hc he, fun U hU hW => ⟨rfl, by rw [hU], by rw [hU]; exact hP, va_K.moved hW.alike hK, hD.weaken (fun _ _ _ _ => trivial)⟩⟩ rfl hn hl.1 rfl (lv_room hsum) hd ⟨Nat.zero_le _, Nat.zero_le _⟩) hS (fun q _ h => hFc q h) hFc (fun r1 u t H1 locs1 ht hvm hw hB hz1 hk1 hS1 => ?_)
    obtain ⟨rfl, rfl⟩ := hw
    obtain ⟨hP1, hK1, hD1⟩ := hB
    rw [ht] at hP1
    exact kk _ hf H1 locs1 ls hP1 (hD1.weaken (fun k q _ h => hFc q.1 h)) hS1 hl
theorem x_cvLP (q : Nat) (C : xC Y X cc own ret N F Lc) {y : MethodName} {bytes : ByteArray} {maxL : Nat} {rt : Option FieldType} {fr lo n idx : Nat} {b ci N2 : Nat} {T : u_T} {fs : List Value} (As : List Value) (hw : xmv y bytes maxL rt n) (hlk : Cond.methodLink own idx y ∈ xw) (hd : decode cc pc = .ok (.invokevirtual idx, 3)) (hq : pc + 3 = q) (hR : fr + 1 ≤ F ∧ 8 + (maxL + 11) + lo ≤ Lc) (q0 : Nat) (he : (wf M)[q0]? = some (b, .inr (ci, fs))) (hc : vwCl[ci]? = some (y.cls, T, N2)) {st0 : List Value} (hst : st0 = As.reverse ++ .ref b :: st) (hn : As.length = n) (hsum : (st.map fun v => v.category).sum ≤ 8) {ρ : Type} {r : ρ} {Fn : Option (Int64)} {K : Int64 → Option ρ} (hM : ∀ x, Fn = some x → xcL l Y wf y bytes maxL rt fr lo (.ref b :: As) M x M) (hf : Fn.bind K = some r) (kk : ∀ x : Int64, K x = some r → xG Y l X wf M q lv (.long x :: st)) : xG Y l X wf M pc lv (st0) := by
  obtain ⟨p, e, R, s, m, args, below, meth, c, A, nL, Qc⟩ := X
  obtain ⟨hx, hb, hml, hown, hts, hK, hA, hlocks, hr, hRf, hRl, hN⟩ := C
  intro H locs ls hP hD hS hl
  subst hq
  subst hst
  obtain ⟨h1, h2, h3, h4, h5, h6, h7⟩ := hw
  cases hF : Fn with
  | none => rw [hF] at hf; cases hf
  | some x =>
    rw [hF] at hf
    have hM := hM x hF H.size
    have hFc := x_fr hD hS hA
    have hRR : (xRm fr lo).frames + 1 ≤ R.frames ∧ 8 + (maxL + 11) + (xRm fr lo).locals ≤ R.locals := by rw [hRf, hRl]; exact hR
    refine va_calll (va_runV (As := As) (rest := st) ⟨hx, hb, hml, hown, hts⟩ hM ⟨callB_of n hts (x_gin _ h4) rfl rfl rfl (hts _ h3) (hts _ hlk) ⟨h5, h6, h7⟩ hRR, hts _ h1, hts _ h2⟩ ⟨x_blind, va_recv hK hP (ci := ci) (q0 := q0) hc he, fun U hU hW => ⟨rfl, by rw [hU], by rw [hU]; exact hP, va_K.moved hW.alike hK, hD.weaken (fun _ _ _ _ => trivial)⟩⟩ rfl hn hl.1 rfl (lv_room hsum) hd ⟨Nat.zero_le _, Nat.zero_le _⟩) hS (fun q _ h => hFc q h) hFc (fun r1 u t H1 locs1 ht hvm hw hB hz1 hk1 hS1 => ?_)
    obtain ⟨rfl, rfl⟩ := hw
    obtain ⟨hP1, hK1, hD1⟩ := hB
    rw [ht] at hP1
    exact kk _ hf H1 locs1 ls hP1 (hD1.weaken (fun k q _ h => hFc q.1 h)) hS1 hl
theorem x_cvVM (q : Nat) (C : xC Y X cc own ret N F Lc) {y : MethodName} {bytes : ByteArray} {maxL : Nat} {rt : Option FieldType} {fr lo n idx : Nat} {b ci N2 : Nat} {T : u_T} {fs : List Value} (As : List Value) (hw : xmv y bytes maxL rt n) (hlk : Cond.methodLink own idx y ∈ xw) (hd : decode cc pc = .ok (.invokevirtual idx, 3)) (hq : pc + 3 = q) (hR : fr + 1 ≤ F ∧ 8 + (maxL + 11) + lo ≤ Lc) (q0 : Nat) (he : (wf M)[q0]? = some (b, .inr (ci, fs))) (hc : vwCl[ci]? = some (y.cls, T, N2)) {st0 : List Value} (hst : st0 = As.reverse ++ .ref b :: st) (hn : As.length = n) (hsum : (st.map fun v => v.category).sum ≤ 8) {ρ : Type} {r : ρ} {Fn : Option (xM)} {K : xM → Option ρ} (hM : ∀ z, Fn = some z → xcV l Y wf y bytes maxL rt fr lo (.ref b :: As) M z) (hf : Fn.bind K = some r) (kk : ∀ z : xM, K z = some r → xG Y l X wf z q lv (st)) : xG Y l X wf M pc lv (st0) := by
  obtain ⟨p, e, R, s, m, args, below, meth, c, A, nL, Qc⟩ := X
  obtain ⟨hx, hb, hml, hown, hts, hK, hA, hlocks, hr, hRf, hRl, hN⟩ := C
  intro H locs ls hP hD hS hl
  subst hq
  subst hst
  obtain ⟨h1, h2, h3, h4, h5, h6, h7⟩ := hw
  cases hF : Fn with
  | none => rw [hF] at hf; cases hf
  | some z =>
    rw [hF] at hf
    have hM := hM z hF H.size
    have hFc := x_fr hD hS hA
    have hRR : (xRm fr lo).frames + 1 ≤ R.frames ∧ 8 + (maxL + 11) + (xRm fr lo).locals ≤ R.locals := by rw [hRf, hRl]; exact hR
    refine va_callv (va_runV (As := As) (rest := st) ⟨hx, hb, hml, hown, hts⟩ hM ⟨callB_of n hts (x_gin _ h4) rfl rfl rfl (hts _ h3) (hts _ hlk) ⟨h5, h6, h7⟩ hRR, hts _ h1, hts _ h2⟩ ⟨x_blind, va_recv hK hP (ci := ci) (q0 := q0) hc he, fun U hU hW => ⟨rfl, by rw [hU], by rw [hU]; exact hP, va_K.moved hW.alike hK, hD.weaken (fun _ _ _ _ => trivial)⟩⟩ rfl hn hl.1 rfl (lv_room hsum) hd ⟨Nat.zero_le _, Nat.zero_le _⟩) hS (fun q _ h => hFc q h) hFc (fun u t H1 locs1 ht hvm hw hB hz1 hk1 hS1 => ?_)
    subst hw
    obtain ⟨hP1, hK1, hD1⟩ := hB
    rw [ht] at hP1
    exact kk _ hf H1 locs1 ls hP1 (hD1.weaken (fun k q _ h => hFc q.1 h)) hS1 hl
theorem x_csIP (q : Nat) (C : xC Y X cc own ret N F Lc) {y : MethodName} {bytes : ByteArray} {maxL : Nat} {rt : Option FieldType} {fr lo n idx : Nat} (As : List Value) (hw : xms y bytes maxL rt n) (hlk : Cond.methodLink own idx y ∈ xw) (hd : decode cc pc = .ok (.invokestatic idx, 3)) (hq : pc + 3 = q) (hR : fr + 1 ≤ F ∧ 8 + (maxL + 11) + lo ≤ Lc) {st0 : List Value} (hst : st0 = As.reverse ++ st) (hn : As.length = n) (hsum : (st.map fun v => v.category).sum ≤ 8) {ρ : Type} {r : ρ} {Fn : Option (Int32)} {K : Int32 → Option ρ} (hM : ∀ x, Fn = some x → xcI l Y wf y bytes maxL rt fr lo As M x M) (hf : Fn.bind K = some r) (kk : ∀ x : Int32, K x = some r → xG Y l X wf M q lv (.int x :: st)) : xG Y l X wf M pc lv (st0) := by
  obtain ⟨p, e, R, s, m, args, below, meth, c, A, nL, Qc⟩ := X
  obtain ⟨hx, hb, hml, hown, hts, hK, hA, hlocks, hr, hRf, hRl, hN⟩ := C
  intro H locs ls hP hD hS hl
  subst hq
  subst hst
  obtain ⟨h1, h3, h4, h5, h6, h7⟩ := hw
  cases hF : Fn with
  | none => rw [hF] at hf; cases hf
  | some x =>
    rw [hF] at hf
    have hM := hM x hF H.size
    have hFc := x_fr hD hS hA
    have hRR : (xRm fr lo).frames + 1 ≤ R.frames ∧ 8 + (maxL + 11) + (xRm fr lo).locals ≤ R.locals := by rw [hRf, hRl]; exact hR
    refine va_calli (va_runS (As := As) (rest := st) ⟨hx, hb, hml, hown, hts⟩ hM ⟨callB_of n hts (x_gin _ h4) rfl rfl rfl (hts _ h3) (hts _ hlk) ⟨h5, h6, h7⟩ hRR, hts _ h1⟩ ⟨x_blind, fun U hU hW => ⟨rfl, by rw [hU], by rw [hU]; exact hP, va_K.moved hW.alike hK, hD.weaken (fun _ _ _ _ => trivial)⟩⟩ rfl hn hl.1 rfl (lv_room hsum) hd ⟨Nat.zero_le _, Nat.zero_le _⟩) hS (fun q _ h => hFc q h) hFc (fun r1 u t H1 locs1 ht hvm hw hB hz1 hk1 hS1 => ?_)
    obtain ⟨rfl, rfl⟩ := hw
    obtain ⟨hP1, hK1, hD1⟩ := hB
    rw [ht] at hP1
    exact kk _ hf H1 locs1 ls hP1 (hD1.weaken (fun k q _ h => hFc q.1 h)) hS1 hl
theorem x_csIM (q : Nat) (C : xC Y X cc own ret N F Lc) {y : MethodName} {bytes : ByteArray} {maxL : Nat} {rt : Option FieldType} {fr lo n idx : Nat} (As : List Value) (hw : xms y bytes maxL rt n) (hlk : Cond.methodLink own idx y ∈ xw) (hd : decode cc pc = .ok (.invokestatic idx, 3)) (hq : pc + 3 = q) (hR : fr + 1 ≤ F ∧ 8 + (maxL + 11) + lo ≤ Lc) {st0 : List Value} (hst : st0 = As.reverse ++ st) (hn : As.length = n) (hsum : (st.map fun v => v.category).sum ≤ 8) {ρ : Type} {r : ρ} {Fn : Option (Int32 × xM)} {K : Int32 × xM → Option ρ} (hM : ∀ z, Fn = some z → xcI l Y wf y bytes maxL rt fr lo As M z.1 z.2) (hf : Fn.bind K = some r) (kk : ∀ z : Int32 × xM, K z = some r → xG Y l X wf z.2 q lv (.int z.1 :: st)) : xG Y l X wf M pc lv (st0) := by
  obtain ⟨p, e, R, s, m, args, below, meth, c, A, nL, Qc⟩ := X
  obtain ⟨hx, hb, hml, hown, hts, hK, hA, hlocks, hr, hRf, hRl, hN⟩ := C
  intro H locs ls hP hD hS hl
  subst hq
  subst hst
  obtain ⟨h1, h3, h4, h5, h6, h7⟩ := hw
  cases hF : Fn with
  | none => rw [hF] at hf; cases hf
  | some z =>
    rw [hF] at hf
    have hM := hM z hF H.size
    have hFc := x_fr hD hS hA
    have hRR : (xRm fr lo).frames + 1 ≤ R.frames ∧ 8 + (maxL + 11) + (xRm fr lo).locals ≤ R.locals := by rw [hRf, hRl]; exact hR
    refine va_calli (va_runS (As := As) (rest := st) ⟨hx, hb, hml, hown, hts⟩ hM ⟨callB_of n hts (x_gin _ h4) rfl rfl rfl (hts _ h3) (hts _ hlk) ⟨h5, h6, h7⟩ hRR, hts _ h1⟩ ⟨x_blind, fun U hU hW => ⟨rfl, by rw [hU], by rw [hU]; exact hP, va_K.moved hW.alike hK, hD.weaken (fun _ _ _ _ => trivial)⟩⟩ rfl hn hl.1 rfl (lv_room hsum) hd ⟨Nat.zero_le _, Nat.zero_le _⟩) hS (fun q _ h => hFc q h) hFc (fun r1 u t H1 locs1 ht hvm hw hB hz1 hk1 hS1 => ?_)
    obtain ⟨rfl, rfl⟩ := hw
    obtain ⟨hP1, hK1, hD1⟩ := hB
    rw [ht] at hP1
    exact kk _ hf H1 locs1 ls hP1 (hD1.weaken (fun k q _ h => hFc q.1 h)) hS1 hl
theorem x_csLP (q : Nat) (C : xC Y X cc own ret N F Lc) {y : MethodName} {bytes : ByteArray} {maxL : Nat} {rt : Option FieldType} {fr lo n idx : Nat} (As : List Value) (hw : xms y bytes maxL rt n) (hlk : Cond.methodLink own idx y ∈ xw) (hd : decode cc pc = .ok (.invokestatic idx, 3)) (hq : pc + 3 = q) (hR : fr + 1 ≤ F ∧ 8 + (maxL + 11) + lo ≤ Lc) {st0 : List Value} (hst : st0 = As.reverse ++ st) (hn : As.length = n) (hsum : (st.map fun v => v.category).sum ≤ 8) {ρ : Type} {r : ρ} {Fn : Option (Int64)} {K : Int64 → Option ρ} (hM : ∀ x, Fn = some x → xcL l Y wf y bytes maxL rt fr lo As M x M) (hf : Fn.bind K = some r) (kk : ∀ x : Int64, K x = some r → xG Y l X wf M q lv (.long x :: st)) : xG Y l X wf M pc lv (st0) := by
  obtain ⟨p, e, R, s, m, args, below, meth, c, A, nL, Qc⟩ := X
  obtain ⟨hx, hb, hml, hown, hts, hK, hA, hlocks, hr, hRf, hRl, hN⟩ := C
  intro H locs ls hP hD hS hl
  subst hq
  subst hst
  obtain ⟨h1, h3, h4, h5, h6, h7⟩ := hw
  cases hF : Fn with
  | none => rw [hF] at hf; cases hf
  | some x =>
    rw [hF] at hf
    have hM := hM x hF H.size
    have hFc := x_fr hD hS hA
    have hRR : (xRm fr lo).frames + 1 ≤ R.frames ∧ 8 + (maxL + 11) + (xRm fr lo).locals ≤ R.locals := by rw [hRf, hRl]; exact hR
    refine va_calll (va_runS (As := As) (rest := st) ⟨hx, hb, hml, hown, hts⟩ hM ⟨callB_of n hts (x_gin _ h4) rfl rfl rfl (hts _ h3) (hts _ hlk) ⟨h5, h6, h7⟩ hRR, hts _ h1⟩ ⟨x_blind, fun U hU hW => ⟨rfl, by rw [hU], by rw [hU]; exact hP, va_K.moved hW.alike hK, hD.weaken (fun _ _ _ _ => trivial)⟩⟩ rfl hn hl.1 rfl (lv_room hsum) hd ⟨Nat.zero_le _, Nat.zero_le _⟩) hS (fun q _ h => hFc q h) hFc (fun r1 u t H1 locs1 ht hvm hw hB hz1 hk1 hS1 => ?_)
    obtain ⟨rfl, rfl⟩ := hw
    obtain ⟨hP1, hK1, hD1⟩ := hB
    rw [ht] at hP1
    exact kk _ hf H1 locs1 ls hP1 (hD1.weaken (fun k q _ h => hFc q.1 h)) hS1 hl
theorem x_csVM (q : Nat) (C : xC Y X cc own ret N F Lc) {y : MethodName} {bytes : ByteArray} {maxL : Nat} {rt : Option FieldType} {fr lo n idx : Nat} (As : List Value) (hw : xms y bytes maxL rt n) (hlk : Cond.methodLink own idx y ∈ xw) (hd : decode cc pc = .ok (.invokestatic idx, 3)) (hq : pc + 3 = q) (hR : fr + 1 ≤ F ∧ 8 + (maxL + 11) + lo ≤ Lc) {st0 : List Value} (hst : st0 = As.reverse ++ st) (hn : As.length = n) (hsum : (st.map fun v => v.category).sum ≤ 8) {ρ : Type} {r : ρ} {Fn : Option (xM)} {K : xM → Option ρ} (hM : ∀ z, Fn = some z → xcV l Y wf y bytes maxL rt fr lo As M z) (hf : Fn.bind K = some r) (kk : ∀ z : xM, K z = some r → xG Y l X wf z q lv (st)) : xG Y l X wf M pc lv (st0) := by
  obtain ⟨p, e, R, s, m, args, below, meth, c, A, nL, Qc⟩ := X
  obtain ⟨hx, hb, hml, hown, hts, hK, hA, hlocks, hr, hRf, hRl, hN⟩ := C
  intro H locs ls hP hD hS hl
  subst hq
  subst hst
  obtain ⟨h1, h3, h4, h5, h6, h7⟩ := hw
  cases hF : Fn with
  | none => rw [hF] at hf; cases hf
  | some z =>
    rw [hF] at hf
    have hM := hM z hF H.size
    have hFc := x_fr hD hS hA
    have hRR : (xRm fr lo).frames + 1 ≤ R.frames ∧ 8 + (maxL + 11) + (xRm fr lo).locals ≤ R.locals := by rw [hRf, hRl]; exact hR
    refine va_callv (va_runS (As := As) (rest := st) ⟨hx, hb, hml, hown, hts⟩ hM ⟨callB_of n hts (x_gin _ h4) rfl rfl rfl (hts _ h3) (hts _ hlk) ⟨h5, h6, h7⟩ hRR, hts _ h1⟩ ⟨x_blind, fun U hU hW => ⟨rfl, by rw [hU], by rw [hU]; exact hP, va_K.moved hW.alike hK, hD.weaken (fun _ _ _ _ => trivial)⟩⟩ rfl hn hl.1 rfl (lv_room hsum) hd ⟨Nat.zero_le _, Nat.zero_le _⟩) hS (fun q _ h => hFc q h) hFc (fun u t H1 locs1 ht hvm hw hB hz1 hk1 hS1 => ?_)
    subst hw
    obtain ⟨hP1, hK1, hD1⟩ := hB
    rw [ht] at hP1
    exact kk _ hf H1 locs1 ls hP1 (hD1.weaken (fun k q _ h => hFc q.1 h)) hS1 hl
end XR
