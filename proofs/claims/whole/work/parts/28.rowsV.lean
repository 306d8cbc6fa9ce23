def xV (Y : xY) (l : Launch) (X : xE) (Q : State → Prop) (w : va_W) (nc ns : Nat) (pc : Nat) (lv : List (Nat × Value)) (st : List Value) : Prop := match X with
  | (p, e, R, s, m, args, below, meth, c, A, nL, _) => ∀ (H : Heap) (locs : List Loc) (ls : Array Slot), va_P Y.1 vwCl w H → va_D A w → va_S A s.heap H locs → lv_has ls nL lv → W p l e R s m args below meth c H locs nc ns Q (F0 m pc ls st)
def xKr (X : xE) (rc rs : Nat) : Prop := match X with
  | (_, _, R, _, _, _, _, _, _, _, _, _) => R.cells = rc ∧ R.slots = rs
def xKn (X : xE) : Prop := match X with
  | (_, _, _, _, _, _, _, meth, _, _, _, _) => meth.name = "<init>"
def xKe (X : xE) (E : State → Prop) : Prop := match X with
  | (_, _, _, s, _, _, _, _, _, _, _, _) => E s
def xQ (X : xE) (mc ms : Nat) : State → Prop := match X with
  | (_, _, _, s, _, args, below, _, _, A, _, Qc) => MQ below Qc args s mc ms A
def xBw (Y : xY) (A : Nat → Prop) (w : va_W) (t : State) : Prop := va_P Y.1 vwCl w t.heap ∧ va_K Y.1 vwCl (xtys Y) t ∧ va_D A w
def xQV {σ : Type} (Y : xY) (X : xE) (post : σ → Prop) (w1 : σ → va_W) : Prop := match X with
  | (_, _, _, _, _, _, _, _, _, A, _, Qc) => Qc = va_Qv post (fun u t => xBw Y A (w1 u) t) A
def xQI {σ : Type} (Y : xY) (X : xE) (post : Int32 → σ → Prop) (w1 : σ → va_W) : Prop := match X with
  | (_, _, _, _, _, _, _, _, _, A, _, Qc) => Qc = va_Qi post (fun u t => xBw Y A (w1 u) t) A
def vPre (Y : xY) (w : va_W) (sz : Nat) (av : List Value) (E : State → Prop) : Array Value → State → Prop := va_Pc av (fun U => (U.heap.size = sz ∧ va_P Y.1 vwCl w U.heap ∧ va_K Y.1 vwCl (xtys Y) U ∧ va_D (fun _ => True) w) ∧ E U)
def vMv (E : State → Prop) : Prop := ∀ u U : State, u.vm.Alike U.vm → E u → E U
def vT : State → Prop := fun _ => True
theorem vT_mv : vMv vT := fun _ _ _ _ => trivial
theorem v_blind {Y : xY} {w : va_W} {sz : Nat} {av : List Value} {E : State → Prop} (hE : vMv E) : FrameBlind (vPre Y w sz av E) := by
  intro a U g mk q
  obtain ⟨q0, ⟨q1, qP, qK, qD⟩, qE⟩ := q
  exact ⟨q0, ⟨q1, qP, va_K.moved (u := U) (U := U.calling g mk a) (Vm.Alike.refl U.vm) qK, qD⟩, hE U (U.calling g mk a) (Vm.Alike.refl U.vm) qE⟩
abbrev vRm (fr lo mc ms : Nat) : Room := { frames := fr, cells := mc, slots := ms, locals := lo }
def vcV {σ : Type} (l : Launch) (Y : xY) (E : State → Prop) (y : MethodName) (bytes : ByteArray) (maxL : Nat) (fr lo mc ms : Nat) (av : List Value) (w : va_W) (post : σ → Prop) (w1 : σ → va_W) : Prop := ∀ sz, Met l y (.code y bytes maxL none :: xw) (vRm fr lo mc ms) (vPre Y w sz av E) (va_Qv post (fun u t => xBw Y (va_A w sz) (w1 u) t) (va_A w sz)) mc ms (va_A w sz)
def vcI {σ : Type} (l : Launch) (Y : xY) (E : State → Prop) (y : MethodName) (bytes : ByteArray) (maxL : Nat) (ret : Option FieldType) (fr lo mc ms : Nat) (av : List Value) (w : va_W) (post : Int32 → σ → Prop) (w1 : σ → va_W) : Prop := ∀ sz, Met l y (.code y bytes maxL ret :: xw) (vRm fr lo mc ms) (vPre Y w sz av E) (va_Qi post (fun u t => xBw Y (va_A w sz) (w1 u) t) (va_A w sz)) mc ms (va_A w sz)
theorem v_entryV {σ : Type} {l : Launch} {Y : xY} {E : State → Prop} {y : MethodName} {bytes : ByteArray} {maxL fr lo mc ms : Nat} {av : List Value} {w : va_W} {post : σ → Prop} {w1 : σ → va_W} {own : String} (lv : List (Nat × Value)) (hy : plainName y.cls = true) (hown : y.cls = own) (hlen : (lg_sl av).length ≤ maxL) (hlv : lv_args 0 av = lv)
    (body : ∀ X : xE, xC Y X bytes own none maxL fr lo → xKr X mc ms → (y.name = "<init>" → xKn X) → xKe X E → xQV Y X post w1 → xV Y l X (xQ X mc ms) w 0 0 0 lv []) : vcV l Y E y bytes maxL fr lo mc ms av w post w1 := by
  intro sz
  refine Met.ofW (cc := bytes) (maxL := maxL) (ret := none) hy rfl ?_
  intro p e s m args below meth c s₁ B hml hv
  obtain ⟨rfl, ⟨hsz, hP, hK, hD0⟩, hE⟩ := hv
  have hts := atoms_spec (ws := .code y bytes maxL none :: xw) B.pre
  have hown : s.vm.findClass own = some m.cls := by rw [← hown]; exact findClass_of_methodNamed B.named
  have hin : y.name = "<init>" → meth.name = "<init>" := fun h => (name_of_methodNamed B.named B.method).1.trans h
  subst hsz
  have hD := hD0.self (sz := s.heap.size)
  have hl := lv_entry av (n := maxL) hlen
  rw [lg_entry_eq]
  rw [hlv] at hl
  exact body (p, e, vRm fr lo mc ms, s, m, av.toArray, below, meth, c, va_A w s.heap.size, maxL, _) ⟨B.exec, B.bytes, hml, hown, fun w hw => hts w (List.mem_cons_of_mem _ hw), hK, fun q h => Or.inr h, B.notSynchronized, B.returns, rfl, rfl, rfl⟩ ⟨rfl, rfl⟩ hin hE rfl s.heap [] _ hP hD va_S.rf hl
theorem v_entryI {σ : Type} {l : Launch} {Y : xY} {E : State → Prop} {y : MethodName} {bytes : ByteArray} {maxL fr lo mc ms : Nat} {ret : Option FieldType} {av : List Value} {w : va_W} {post : Int32 → σ → Prop} {w1 : σ → va_W} {own : String} (lv : List (Nat × Value)) (hy : plainName y.cls = true) (hown : y.cls = own) (hlen : (lg_sl av).length ≤ maxL) (hlv : lv_args 0 av = lv)
    (body : ∀ X : xE, xC Y X bytes own ret maxL fr lo → xKr X mc ms → xQI Y X post w1 → xV Y l X (xQ X mc ms) w 0 0 0 lv []) : vcI l Y E y bytes maxL ret fr lo mc ms av w post w1 := by
  intro sz
  refine Met.ofW (cc := bytes) (maxL := maxL) (ret := ret) hy rfl ?_
  intro p e s m args below meth c s₁ B hml hv
  obtain ⟨rfl, ⟨hsz, hP, hK, hD0⟩, hE⟩ := hv
  have hts := atoms_spec (ws := .code y bytes maxL ret :: xw) B.pre
  have hown : s.vm.findClass own = some m.cls := by rw [← hown]; exact findClass_of_methodNamed B.named
  subst hsz
  have hD := hD0.self (sz := s.heap.size)
  have hl := lv_entry av (n := maxL) hlen
  rw [lg_entry_eq]
  rw [hlv] at hl
  exact body (p, e, vRm fr lo mc ms, s, m, av.toArray, below, meth, c, va_A w s.heap.size, maxL, _) ⟨B.exec, B.bytes, hml, hown, fun w hw => hts w (List.mem_cons_of_mem _ hw), hK, fun q h => Or.inr h, B.notSynchronized, B.returns, rfl, rfl, rfl⟩ ⟨rfl, rfl⟩ rfl s.heap [] _ hP hD va_S.rf hl
theorem v_join {A0 : Nat → Prop} {D : va_G} {cl : List vw_C} {wc wr w1 : va_W} {H H1 : Heap} (hP : va_P D cl (wr ++ wc) H) (hD : va_D A0 (wr ++ wc)) (hk : ∀ q : Nat, q < H.size → ¬ va_A wc H.size q → H1[q]? = H[q]?) (hF : ∀ q, va_A wc H.size q → A0 q) (hP1 : va_P D cl w1 H1) (hD1 : va_D (va_A wc H.size) w1) : va_P D cl (wr ++ w1) H1 ∧ va_D A0 (wr ++ w1) := by
  have g : ∀ (k : Nat) (q : Nat × va_E), wr[k]? = some q → (wr ++ wc)[k]? = some q := fun k q h => by
    rw [List.getElem?_append_left (List.getElem?_eq_some_iff.mp h).1]; exact h
  have g2 : ∀ (k : Nat) (q : Nat × va_E), wc[k]? = some q → (wr ++ wc)[wr.length + k]? = some q := fun k q h => by
    rw [List.getElem?_append_right (Nat.le_add_right _ _), Nat.add_sub_cancel_left]; exact h
  have apart : ∀ (k : Nat) (q : Nat × va_E), wr[k]? = some q → q.1 < H.size ∧ ¬ va_A wc H.size q.1 := by
    intro k q hq
    have hl := (hP k q (g k q hq)).lt
    refine ⟨hl, fun h => ?_⟩
    rcases h with ⟨k2, e, h⟩ | h
    · have hij := hD.1 k (wr.length + k2) q (q.1, e) (g k q hq) (g2 k2 _ h) rfl
      have := (List.getElem?_eq_some_iff.mp hq).1
      omega
    · omega
  refine ⟨va_P.app (fun k q hq => ?_) hP1, va_D.app ⟨fun i j x y h1 h2 => hD.1 i j x y (g i x h1) (g j y h2), fun k q h => hD.2 k q (g k q h)⟩ (hD1.weaken (fun k q _ h => hF q.1 h)) (fun i j x y hx hy hxy => ?_)⟩
  · obtain ⟨g1, g3⟩ := apart k q hq
    exact (hP k q (g k q hq)).kept (hk q.1 g1 g3)
  · exact (apart i x hx).2 (by rw [hxy]; exact hD1.2 j y hy)
theorem v_subP {D : va_G} {cl : List vw_C} {wc wr : va_W} {H : Heap} (hP : va_P D cl (wr ++ wc) H) : va_P D cl wc H := fun k q h => hP (wr.length + k) q (by rw [List.getElem?_append_right (Nat.le_add_right _ _), Nat.add_sub_cancel_left]; exact h)
theorem v_subD {A : Nat → Prop} {wc wr : va_W} (hD : va_D A (wr ++ wc)) : va_D A wc := by
  have g2 : ∀ (k : Nat) (q : Nat × va_E), wc[k]? = some q → (wr ++ wc)[wr.length + k]? = some q := fun k q h => by
    rw [List.getElem?_append_right (Nat.le_add_right _ _), Nat.add_sub_cancel_left]; exact h
  exact ⟨fun i j x y h1 h2 h3 => by have := hD.1 _ _ x y (g2 i x h1) (g2 j y h2) h3; omega, fun k q h => hD.2 _ q (g2 k q h)⟩
theorem v_exP {D : va_G} {cl : List vw_C} {a b c : va_W} {H : Heap} (h : va_P D cl (a ++ (b ++ c)) H) : va_P D cl (b ++ (a ++ c)) H := by
  have h1 := va_P.swap (a := []) (b := a) (c := b ++ c) h
  have h1 : va_P D cl ((b ++ c) ++ a) H := h1
  have h2 := va_P.swap h1
  rw [List.append_assoc] at h2
  exact h2
theorem v_exD {A : Nat → Prop} {a b c : va_W} (h : va_D A (a ++ (b ++ c))) : va_D A (b ++ (a ++ c)) := by
  have h1 := va_D.swap (a := []) (b := a) (c := b ++ c) h
  have h1 : va_D A ((b ++ c) ++ a) := h1
  have h2 := va_D.swap h1
  rw [List.append_assoc] at h2
  exact h2
def vE (w w2 : va_W) : Prop := (∀ (D : va_G) (cl : List vw_C) (H : Heap), va_P D cl w H → va_P D cl w2 H) ∧ ∀ A : Nat → Prop, va_D A w → va_D A w2
theorem vE.ex (a b c : va_W) : vE (a ++ (b ++ c)) (b ++ (a ++ c)) := ⟨fun _ _ _ h => v_exP h, fun _ h => v_exD h⟩
theorem vE.tr {a b c : va_W} (h1 : vE a b) (h2 : vE b c) : vE a c := ⟨fun D cl H h => h2.1 D cl H (h1.1 D cl H h), fun A h => h2.2 A (h1.2 A h)⟩
theorem vE.rf (a : va_W) : vE a a := ⟨fun _ _ _ h => h, fun _ h => h⟩
theorem vE.of {a b : va_W} (h : a = b) : vE a b := h ▸ vE.rf a
theorem vE.exP (p a b c : va_W) : vE (p ++ (a ++ (b ++ c))) (p ++ (b ++ (a ++ c))) := by
  have h1 : vE (p ++ (a ++ (b ++ c))) ((p ++ a) ++ (b ++ c)) := vE.of (List.append_assoc p a (b ++ c)).symm
  have h2 := vE.ex (p ++ a) b c
  have h3 : vE (b ++ ((p ++ a) ++ c)) (b ++ (p ++ (a ++ c))) := vE.of (by rw [List.append_assoc])
  exact ((h1.tr h2).tr h3).tr (vE.ex b p (a ++ c))
theorem vE.co (a b : va_W) : vE (a ++ b) (b ++ a) := by
  have h := vE.ex a b []
  rw [List.append_nil, List.append_nil] at h
  exact h
section XV
variable {Y : xY} {l : Launch} {X : xE} {Q : State → Prop} {w : va_W} {nc ns : Nat} {cc : ByteArray} {own : String} {ret : Option FieldType} {N F Lc : Nat} {pc : Nat} {lv : List (Nat × Value)} {st : List Value}
theorem v_ilN (q : Nat) (C : xC Y X cc own ret N F Lc) {k : Fin 4} {i : Nat} {x : Int32} (hd : decode cc pc = .ok (.iload_n k, 1)) (t : Nat) (hv : lv[t]? = some (i, .int x)) (hi : (k : Nat) = i) (hq : pc + 1 = q) (kk : xV Y l X Q w nc ns q lv (.int x :: st)) : xV Y l X Q w nc ns pc lv (st) := by
  obtain ⟨p, e, R, s, m, args, below, meth, c, A, nL, Qc⟩ := X
  obtain ⟨hx, hb, hml, hown, hts, hK, hA, hlocks, hr, hRf, hRl, hN⟩ := C
  intro H locs ls hP hD hS hl
  subst hq
  exact lv_iload_n hx hb hd hi (lv_at hl t hv) (kk H locs ls hP hD hS hl)
theorem v_alN (q : Nat) (C : xC Y X cc own ret N F Lc) {k : Fin 4} {i : Nat} {x : Nat} (hd : decode cc pc = .ok (.aload_n k, 1)) (t : Nat) (hv : lv[t]? = some (i, .ref x)) (hi : (k : Nat) = i) (hq : pc + 1 = q) (kk : xV Y l X Q w nc ns q lv (.ref x :: st)) : xV Y l X Q w nc ns pc lv (st) := by
  obtain ⟨p, e, R, s, m, args, below, meth, c, A, nL, Qc⟩ := X
  obtain ⟨hx, hb, hml, hown, hts, hK, hA, hlocks, hr, hRf, hRl, hN⟩ := C
  intro H locs ls hP hD hS hl
  subst hq
  exact lv_aload_n hx hb hd hi (lv_at hl t hv) (kk H locs ls hP hD hS hl)
theorem v_iconst (q : Nat) (C : xC Y X cc own ret N F Lc) {n : Int} (v : Int32) (hd : decode cc pc = .ok (.iconst n, 1)) (hv : Int32.ofInt n = v) (hq : pc + 1 = q) (kk : xV Y l X Q w nc ns q lv (.int v :: st)) : xV Y l X Q w nc ns pc lv (st) := by
  obtain ⟨p, e, R, s, m, args, below, meth, c, A, nL, Qc⟩ := X
  obtain ⟨hx, hb, hml, hown, hts, hK, hA, hlocks, hr, hRf, hRl, hN⟩ := C
  intro H locs ls hP hD hS hl
  subst hq
  exact lv_iconst hx hb hd hv (kk H locs ls hP hD hS hl)
theorem v_bipush (q : Nat) (C : xC Y X cc own ret N F Lc) {n : Int} (v : Int32) (hd : decode cc pc = .ok (.bipush n, 2)) (hv : (Int8.ofInt n).toInt32 = v) (hq : pc + 2 = q) (kk : xV Y l X Q w nc ns q lv (.int v :: st)) : xV Y l X Q w nc ns pc lv (st) := by
  obtain ⟨p, e, R, s, m, args, below, meth, c, A, nL, Qc⟩ := X
  obtain ⟨hx, hb, hml, hown, hts, hK, hA, hlocks, hr, hRf, hRl, hN⟩ := C
  intro H locs ls hP hD hS hl
  subst hq
  exact lv_bipush hx hb hd hv (kk H locs ls hP hD hS hl)
theorem v_sipush (q : Nat) (C : xC Y X cc own ret N F Lc) {n : Int} (v : Int32) (hd : decode cc pc = .ok (.sipush n, 3)) (hv : (Int16.ofInt n).toInt32 = v) (hq : pc + 3 = q) (kk : xV Y l X Q w nc ns q lv (.int v :: st)) : xV Y l X Q w nc ns pc lv (st) := by
  obtain ⟨p, e, R, s, m, args, below, meth, c, A, nL, Qc⟩ := X
  obtain ⟨hx, hb, hml, hown, hts, hK, hA, hlocks, hr, hRf, hRl, hN⟩ := C
  intro H locs ls hP hD hS hl
  subst hq
  exact lv_sipush hx hb hd hv (kk H locs ls hP hD hS hl)
theorem v_iadd (q : Nat) (C : xC Y X cc own ret N F Lc) {x y : Int32} (hd : decode cc pc = .ok (.iadd, 1)) (hq : pc + 1 = q) (kk : xV Y l X Q w nc ns q lv (.int (x + y) :: st)) : xV Y l X Q w nc ns pc lv (.int y :: .int x :: st) := by
  obtain ⟨p, e, R, s, m, args, below, meth, c, A, nL, Qc⟩ := X
  obtain ⟨hx, hb, hml, hown, hts, hK, hA, hlocks, hr, hRf, hRl, hN⟩ := C
  intro H locs ls hP hD hS hl
  subst hq
  exact lv_iadd hx hb hd (kk H locs ls hP hD hS hl)
theorem v_isub (q : Nat) (C : xC Y X cc own ret N F Lc) {x y : Int32} (hd : decode cc pc = .ok (.isub, 1)) (hq : pc + 1 = q) (kk : xV Y l X Q w nc ns q lv (.int (x - y) :: st)) : xV Y l X Q w nc ns pc lv (.int y :: .int x :: st) := by
  obtain ⟨p, e, R, s, m, args, below, meth, c, A, nL, Qc⟩ := X
  obtain ⟨hx, hb, hml, hown, hts, hK, hA, hlocks, hr, hRf, hRl, hN⟩ := C
  intro H locs ls hP hD hS hl
  subst hq
  exact lv_isub hx hb hd (kk H locs ls hP hD hS hl)
theorem v_iand (q : Nat) (C : xC Y X cc own ret N F Lc) {x y : Int32} (hd : decode cc pc = .ok (.iand, 1)) (hq : pc + 1 = q) (kk : xV Y l X Q w nc ns q lv (.int (x &&& y) :: st)) : xV Y l X Q w nc ns pc lv (.int y :: .int x :: st) := by
  obtain ⟨p, e, R, s, m, args, below, meth, c, A, nL, Qc⟩ := X
  obtain ⟨hx, hb, hml, hown, hts, hK, hA, hlocks, hr, hRf, hRl, hN⟩ := C
  intro H locs ls hP hD hS hl
  subst hq
  exact lv_iand hx hb hd (kk H locs ls hP hD hS hl)
theorem v_dup (q : Nat) (C : xC Y X cc own ret N F Lc) {va : Value} (hd : decode cc pc = .ok (.dup, 1)) (hc : va.category = 1) (hq : pc + 1 = q) (kk : xV Y l X Q w nc ns q lv (va :: va :: st)) : xV Y l X Q w nc ns pc lv (va :: st) := by
  obtain ⟨p, e, R, s, m, args, below, meth, c, A, nL, Qc⟩ := X
  obtain ⟨hx, hb, hml, hown, hts, hK, hA, hlocks, hr, hRf, hRl, hN⟩ := C
  intro H locs ls hP hD hS hl
  subst hq
  exact lv_dup hx hb hd hc (kk H locs ls hP hD hS hl)
theorem v_isN (q : Nat) (C : xC Y X cc own ret N F Lc) {k : Fin 4} (i : Nat) {x : Int32} {lv2 : List (Nat × Value)} (hd : decode cc pc = .ok (.istore_n k, 1)) (hlv : (i, Value.int x) :: lv.filter (fun q => !(q.1 == i) && !(q.1 + 1 == i && q.2.category == 2)) = lv2) (hi : (k : Nat) = i) (hn : i < N) (hq : pc + 1 = q) (kk : xV Y l X Q w nc ns q lv2 (st)) : xV Y l X Q w nc ns pc lv (.int x :: st) := by
  obtain ⟨p, e, R, s, m, args, below, meth, c, A, nL, Qc⟩ := X
  obtain ⟨hx, hb, hml, hown, hts, hK, hA, hlocks, hr, hRf, hRl, hN⟩ := C
  intro H locs ls hP hD hS hl
  subst hq
  subst hN
  exact lv_istore_n hx hb hd hi hl hn hlv (fun ls hl => kk H locs ls hP hD hS hl)
theorem v_asN (q : Nat) (C : xC Y X cc own ret N F Lc) {k : Fin 4} (i : Nat) {x : Nat} {lv2 : List (Nat × Value)} (hd : decode cc pc = .ok (.astore_n k, 1)) (hlv : (i, Value.ref x) :: lv.filter (fun q => !(q.1 == i) && !(q.1 + 1 == i && q.2.category == 2)) = lv2) (hi : (k : Nat) = i) (hn : i < N) (hq : pc + 1 = q) (kk : xV Y l X Q w nc ns q lv2 (st)) : xV Y l X Q w nc ns pc lv (.ref x :: st) := by
  obtain ⟨p, e, R, s, m, args, below, meth, c, A, nL, Qc⟩ := X
  obtain ⟨hx, hb, hml, hown, hts, hK, hA, hlocks, hr, hRf, hRl, hN⟩ := C
  intro H locs ls hP hD hS hl
  subst hq
  subst hN
  exact lv_astore_n hx hb hd hi hl hn hlv (fun ls hl => kk H locs ls hP hD hS hl)
theorem v_iinc (q : Nat) (C : xC Y X cc own ret N F Lc) {i : Nat} {n : Int} {x : Int32} (v : Int32) {lv2 : List (Nat × Value)} (hd : decode cc pc = .ok (.iinc i n, 3)) (t : Nat) (hv : lv[t]? = some (i, .int x)) (hz : x + Int32.ofInt n = v) (hlv : (i, Value.int v) :: lv.filter (fun q => !(q.1 == i) && !(q.1 + 1 == i && q.2.category == 2)) = lv2) (hn : i < N) (hq : pc + 3 = q) (kk : xV Y l X Q w nc ns q lv2 (st)) : xV Y l X Q w nc ns pc lv (st) := by
  obtain ⟨p, e, R, s, m, args, below, meth, c, A, nL, Qc⟩ := X
  obtain ⟨hx, hb, hml, hown, hts, hK, hA, hlocks, hr, hRf, hRl, hN⟩ := C
  intro H locs ls hP hD hS hl
  subst hq
  subst hN
  exact lv_iinc hx hb hd hl hv hz hn hlv (fun ls hl => kk H locs ls hP hD hS hl)
theorem v_goto (q : Nat) (C : xC Y X cc own ret N F Lc) {off : Int} (hd : decode cc pc = .ok (.goto off, 3)) (ht : (pc : Int) + off = (q : Int)) (kk : xV Y l X Q w nc ns q lv (st)) : xV Y l X Q w nc ns pc lv (st) := by
  obtain ⟨p, e, R, s, m, args, below, meth, c, A, nL, Qc⟩ := X
  obtain ⟨hx, hb, hml, hown, hts, hK, hA, hlocks, hr, hRf, hRl, hN⟩ := C
  intro H locs ls hP hD hS hl
  exact lv_goto hx hb hd ht (kk H locs ls hP hD hS hl)
theorem v_ifeq (q : Nat) (C : xC Y X cc own ret N F Lc) (tgt : Nat) {x : Int32} {off : Int} (hd : decode cc pc = .ok (.ifCond .eq off, 3)) (ht : (pc : Int) + off = (tgt : Int)) (hq : pc + 3 = q) (kt : x = 0 → xV Y l X Q w nc ns tgt lv (st)) (kf : ¬ x = 0 → xV Y l X Q w nc ns q lv (st)) : xV Y l X Q w nc ns pc lv (.int x :: st) := by
  obtain ⟨p, e, R, s, m, args, below, meth, c, A, nL, Qc⟩ := X
  obtain ⟨hx, hb, hml, hown, hts, hK, hA, hlocks, hr, hRf, hRl, hN⟩ := C
  intro H locs ls hP hD hS hl
  subst hq
  exact lv_if_eq hx hb hd ht (fun h => kt h H locs ls hP hD hS hl) (fun h => kf h H locs ls hP hD hS hl)
theorem v_ifne (q : Nat) (C : xC Y X cc own ret N F Lc) (tgt : Nat) {x : Int32} {off : Int} (hd : decode cc pc = .ok (.ifCond .ne off, 3)) (ht : (pc : Int) + off = (tgt : Int)) (hq : pc + 3 = q) (kt : ¬ x = 0 → xV Y l X Q w nc ns tgt lv (st)) (kf : x = 0 → xV Y l X Q w nc ns q lv (st)) : xV Y l X Q w nc ns pc lv (.int x :: st) := by
  obtain ⟨p, e, R, s, m, args, below, meth, c, A, nL, Qc⟩ := X
  obtain ⟨hx, hb, hml, hown, hts, hK, hA, hlocks, hr, hRf, hRl, hN⟩ := C
  intro H locs ls hP hD hS hl
  subst hq
  exact lv_if_ne hx hb hd ht (fun h => kt h H locs ls hP hD hS hl) (fun h => kf h H locs ls hP hD hS hl)
theorem v_icmpgt (q : Nat) (C : xC Y X cc own ret N F Lc) (tgt : Nat) {x y : Int32} {off : Int} (hd : decode cc pc = .ok (.if_icmp .gt off, 3)) (ht : (pc : Int) + off = (tgt : Int)) (hq : pc + 3 = q) (kt : y < x → xV Y l X Q w nc ns tgt lv (st)) (kf : ¬ y < x → xV Y l X Q w nc ns q lv (st)) : xV Y l X Q w nc ns pc lv (.int y :: .int x :: st) := by
  obtain ⟨p, e, R, s, m, args, below, meth, c, A, nL, Qc⟩ := X
  obtain ⟨hx, hb, hml, hown, hts, hK, hA, hlocks, hr, hRf, hRl, hN⟩ := C
  intro H locs ls hP hD hS hl
  subst hq
  exact lv_icmp_gt hx hb hd ht (fun h => kt h H locs ls hP hD hS hl) (fun h => kf h H locs ls hP hD hS hl)
theorem v_icmpeq (C : xC Y X cc own ret N F Lc) (tgt : Nat) {x y : Int32} {off : Int} (hd : decode cc pc = .ok (.if_icmp .eq off, 3)) (ht : (pc : Int) + off = (tgt : Int)) (h : x = y) (kt : xV Y l X Q w nc ns tgt lv (st)) : xV Y l X Q w nc ns pc lv (.int y :: .int x :: st) := by
  obtain ⟨p, e, R, s, m, args, below, meth, c, A, nL, Qc⟩ := X
  obtain ⟨hx, hb, hml, hown, hts, hK, hA, hlocks, hr, hRf, hRl, hN⟩ := C
  intro H locs ls hP hD hS hl
  exact lv_icmp_eq hx hb hd ht (fun _ => kt H locs ls hP hD hS hl) (fun h2 => absurd h h2)
theorem v_nn (C : xC Y X cc own ret N F Lc) (tgt : Nat) {x : Nat} {off : Int} (hd : decode cc pc = .ok (.ifnonnull off, 3)) (ht : (pc : Int) + off = (tgt : Int)) (kt : xV Y l X Q w nc ns tgt lv (st)) : xV Y l X Q w nc ns pc lv (.ref x :: st) := by
  obtain ⟨p, e, R, s, m, args, below, meth, c, A, nL, Qc⟩ := X
  obtain ⟨hx, hb, hml, hown, hts, hK, hA, hlocks, hr, hRf, hRl, hN⟩ := C
  intro H locs ls hP hD hS hl
  exact lv_ifnonnull hx hb hd ht (kt H locs ls hP hD hS hl)
theorem v_nnN (q : Nat) (C : xC Y X cc own ret N F Lc) {off : Int} (hd : decode cc pc = .ok (.ifnonnull off, 3)) (hq : pc + 3 = q) (kk : xV Y l X Q w nc ns q lv (st)) : xV Y l X Q w nc ns pc lv (.null :: st) := by
  obtain ⟨p, e, R, s, m, args, below, meth, c, A, nL, Qc⟩ := X
  obtain ⟨hx, hb, hml, hown, hts, hK, hA, hlocks, hr, hRf, hRl, hN⟩ := C
  intro H locs ls hP hD hS hl
  subst hq
  exact lv_ifnonnullN hx hb hd (kk H locs ls hP hD hS hl)
theorem v_get (q : Nat) (C : xC Y X cc own ret N F Lc) (q0 : Nat) {idx ci k N2 : Nat} {a : Nat} {C2 : String} {T : u_T} {fs : List Value} {v : Value} (he : w[q0]? = some (a, .inr (ci, fs))) (hv : fs[k]? = some v) (hc : vwCl[ci]? = some (C2, T, N2)) (hin : ∀ w ∈ u_ws C2 T N2, w ∈ xw) (hk : k < N2) (hw : Cond.fieldLink own idx (T k).1 (T k).2.1 (T k).2.2.1 ∈ xw) (hd : decode cc pc = .ok (.getfield idx, 3)) (hq : pc + 3 = q) (kk : xV Y l X Q w nc ns q lv (v :: st)) : xV Y l X Q w nc ns pc lv (.ref a :: st) := by
  obtain ⟨p, e, R, s, m, args, below, meth, c, A, nL, Qc⟩ := X
  obtain ⟨hx, hb, hml, hown, hts, hK, hA, hlocks, hr, hRf, hRl, hN⟩ := C
  intro H locs ls hP hD hS hl
  subst hq
  exact va_get hx hb hts hin hown hK hP q0 he hc k hk (hts _ hw) (fun _ h9 => h9) hv hd (kk H locs ls hP hD hS hl)
theorem v_putI (q : Nat) (C : xC Y X cc own ret N F Lc) (q0 : Nat) {idx ci k N2 : Nat} {a : Nat} {C2 : String} {T : u_T} {fs : List Value} {v : Value} {ty : FieldType} (ty0 : Nat → FieldType) (hty : ∀ k, k < N2 → parseFieldDescriptor (T k).2.2.1 = some (ty0 k)) (hnm : ∀ a, a < N2 → ∀ b, b < N2 → a ≠ b → (T a).2.1 ≠ (T b).2.1) (he : w[q0]? = some (a, .inr (ci, fs))) {w2 : va_W} (hs : w.set q0 (a, .inr (ci, fs.set k v)) = w2) (hc : vwCl[ci]? = some (C2, T, N2)) (hin : ∀ w ∈ u_ws C2 T N2, w ∈ xw) (hk : k < N2) (hl2 : k < fs.length) (hw : Cond.fieldLink own idx (T k).1 (T k).2.1 (T k).2.2.1 ∈ xw) (hfin : (T k).2.2.2 = false) (hdsc : parseFieldDescriptor (T k).2.2.1 = some ty) (hn : narrow ty v = v) (hfit : fits ty v = true) (hd : decode cc pc = .ok (.putfield idx, 3)) (hq : pc + 3 = q) (kk : xV Y l X Q w2 nc ns q lv (st)) : xV Y l X Q w nc ns pc lv (v :: .ref a :: st) := by
  obtain ⟨p, e, R, s, m, args, below, meth, c, A, nL, Qc⟩ := X
  obtain ⟨hx, hb, hml, hown, hts, hK, hA, hlocks, hr, hRf, hRl, hN⟩ := C
  intro H locs ls hP hD hS hl
  subst hq
  refine va_put hx hb hts hin ty0 hty hnm hown hK hP hD hS q0 he hc k hk (hts _ hw) (fun _ h9 => h9) hfin hdsc hn hfit hl2 hd (fun H1 locs1 hP hD hS => ?_)
  rw [hs] at hP hD
  exact kk H1 locs1 ls hP hD hS hl
theorem v_putF (q : Nat) (C : xC Y X cc own ret N F Lc) (q0 : Nat) {idx ci k N2 : Nat} {a : Nat} {C2 : String} {T : u_T} {fs : List Value} {v : Value} {ty : FieldType} (ty0 : Nat → FieldType) (hty : ∀ k, k < N2 → parseFieldDescriptor (T k).2.2.1 = some (ty0 k)) (hnm : ∀ a, a < N2 → ∀ b, b < N2 → a ≠ b → (T a).2.1 ≠ (T b).2.1) (he : w[q0]? = some (a, .inr (ci, fs))) {w2 : va_W} (hs : w.set q0 (a, .inr (ci, fs.set k v)) = w2) (hc : vwCl[ci]? = some (C2, T, N2)) (hin : ∀ w ∈ u_ws C2 T N2, w ∈ xw) (hk : k < N2) (hl2 : k < fs.length) (hw : Cond.fieldLink own idx (T k).1 (T k).2.1 (T k).2.2.1 ∈ xw) (hfin : (T k).2.2.2 = true) (Kn : xKn X) (hdecl : (T k).1 = own) (hdsc : parseFieldDescriptor (T k).2.2.1 = some ty) (hn : narrow ty v = v) (hfit : fits ty v = true) (hd : decode cc pc = .ok (.putfield idx, 3)) (hq : pc + 3 = q) (kk : xV Y l X Q w2 nc ns q lv (st)) : xV Y l X Q w nc ns pc lv (v :: .ref a :: st) := by
  obtain ⟨p, e, R, s, m, args, below, meth, c, A, nL, Qc⟩ := X
  obtain ⟨hx, hb, hml, hown, hts, hK, hA, hlocks, hr, hRf, hRl, hN⟩ := C
  intro H locs ls hP hD hS hl
  subst hq
  refine va_putF hx hb hts hin ty0 hty hnm hown hK hP hD hS q0 he hc k hk (hts _ hw) (fun _ h9 => h9) hfin Kn hdecl hdsc hn hfit hl2 hd (fun H1 locs1 hP hD hS => ?_)
  rw [hs] at hP hD
  exact kk H1 locs1 ls hP hD hS hl
theorem v_new (q : Nat) (C : xC Y X cc own ret N F Lc) {rc rs : Nat} (Kr : xKr X rc rs) {idx ci N2 : Nat} {C2 : String} {T : u_T} (ty : Nat → FieldType) (hty : ∀ k, k < N2 → parseFieldDescriptor (T k).2.2.1 = some (ty k)) (hc : vwCl[ci]? = some (C2, T, N2)) (hin : ∀ w ∈ u_ws C2 T N2, w ∈ xw) (hcl : Cond.classLink own idx C2 ∈ xw) (hinst : Cond.instantiable C2 N2 ∈ xw) (hini : Cond.initialized C2 ∈ xw) (fs : List Value) (hfs : ∀ j, j < N2 → defaultValue (ty j) = vp_V fs j) (hcs : nc + 1 ≤ rc ∧ ns + N2 ≤ rs) (hd : decode cc pc = .ok (.new idx, 3)) (hq : pc + 3 = q) (kk : ∀ a : Nat, xV Y l X Q (w ++ [(a, .inr (ci, fs))]) (nc + 1) (ns + N2) q lv (.ref a :: st)) : xV Y l X Q w nc ns pc lv (st) := by
  obtain ⟨p, e, R, s, m, args, below, meth, c, A, nL, Qc⟩ := X
  obtain ⟨hx, hb, hml, hown, hts, hK, hA, hlocks, hr, hRf, hRl, hN⟩ := C
  intro H locs ls hP hD hS hl
  subst hq
  obtain ⟨hrc, hrs⟩ := Kr
  exact va_new hx hb hts hin ty hty hown (hts _ hcl) (hts _ hinst) (hts _ hini) hK hP hD hS hA hc hfs (by rw [hrc]; exact hcs.1) (by rw [hrs]; exact hcs.2) hd (fun a H1 hP hD hS => kk a H1 locs ls hP hD hS hl)
theorem v_newI (q : Nat) (C : xC Y X cc own ret N F Lc) {rc rs : Nat} (Kr : xKr X rc rs) {n : Int32} (N2 : Nat) (ha : Cond.arrayClass .int ∈ xw) (hn : ¬ n < 0) (hN2 : n.toNatClampNeg = N2) (hbytes : N2 * componentBytes .int ≤ 536870912) (hcs : nc + 1 ≤ rc ∧ ns + N2 ≤ rs) (hd : decode cc pc = .ok (.newarray .int, 2)) (hq : pc + 2 = q) (kk : ∀ a : Nat, xV Y l X Q (w ++ [(a, .inl (Y.2.1, N2, .inl (fun _ => 0)))]) (nc + 1) (ns + N2) q lv (.ref a :: st)) : xV Y l X Q w nc ns pc lv (.int n :: st) := by
  obtain ⟨p, e, R, s, m, args, below, meth, c, A, nL, Qc⟩ := X
  obtain ⟨hx, hb, hml, hown, hts, hK, hA, hlocks, hr, hRf, hRl, hN⟩ := C
  intro H locs ls hP hD hS hl
  subst hq
  obtain ⟨hrc, hrs⟩ := Kr
  refine va_newa (atype := .int) (a0 := (N2, .inl (fun _ => 0))) hx hb (hts _ ha) (ty := .int) rfl hK hP hD hS hA (fun _ => rfl) hn hN2 hbytes (by rw [hrc]; exact hcs.1) (by rw [hrs]; exact hcs.2) hd (fun a cA H1 hK1 hP hD hS => ?_)
  have e1 : s.vm.findClass ("[" ++ (FieldType.toString .int)) = some cA := (hK1.2 4 (cA, .int) rfl).2
  have e2 : s.vm.findClass ("[" ++ (FieldType.toString .int)) = some Y.2.1 := (hK.2 0 (Y.2.1, .int) rfl).2
  have e3 : cA = Y.2.1 := Option.some.inj (e1.symm.trans e2)
  subst e3
  exact kk a H1 locs ls hP hD hS hl
theorem v_newJ (q : Nat) (C : xC Y X cc own ret N F Lc) {rc rs : Nat} (Kr : xKr X rc rs) {n : Int32} (N2 : Nat) (ha : Cond.arrayClass .long ∈ xw) (hn : ¬ n < 0) (hN2 : n.toNatClampNeg = N2) (hbytes : N2 * componentBytes .long ≤ 536870912) (hcs : nc + 1 ≤ rc ∧ ns + N2 ≤ rs) (hd : decode cc pc = .ok (.newarray .long, 2)) (hq : pc + 2 = q) (kk : ∀ a : Nat, xV Y l X Q (w ++ [(a, .inl (Y.2.2.1, N2, .inr (.inl (fun _ => 0))))]) (nc + 1) (ns + N2) q lv (.ref a :: st)) : xV Y l X Q w nc ns pc lv (.int n :: st) := by
  obtain ⟨p, e, R, s, m, args, below, meth, c, A, nL, Qc⟩ := X
  obtain ⟨hx, hb, hml, hown, hts, hK, hA, hlocks, hr, hRf, hRl, hN⟩ := C
  intro H locs ls hP hD hS hl
  subst hq
  obtain ⟨hrc, hrs⟩ := Kr
  refine va_newa (atype := .long) (a0 := (N2, .inr (.inl (fun _ => 0)))) hx hb (hts _ ha) (ty := .long) rfl hK hP hD hS hA (fun _ => rfl) hn hN2 hbytes (by rw [hrc]; exact hcs.1) (by rw [hrs]; exact hcs.2) hd (fun a cA H1 hK1 hP hD hS => ?_)
  have e1 : s.vm.findClass ("[" ++ (FieldType.toString .long)) = some cA := (hK1.2 4 (cA, .long) rfl).2
  have e2 : s.vm.findClass ("[" ++ (FieldType.toString .long)) = some Y.2.2.1 := (hK.2 1 (Y.2.2.1, .long) rfl).2
  have e3 : cA = Y.2.2.1 := Option.some.inj (e1.symm.trans e2)
  subst e3
  exact kk a H1 locs ls hP hD hS hl
theorem v_newZ (q : Nat) (C : xC Y X cc own ret N F Lc) {rc rs : Nat} (Kr : xKr X rc rs) {n : Int32} (N2 : Nat) (ha : Cond.arrayClass .boolean ∈ xw) (hn : ¬ n < 0) (hN2 : n.toNatClampNeg = N2) (hbytes : N2 * componentBytes .boolean ≤ 536870912) (hcs : nc + 1 ≤ rc ∧ ns + N2 ≤ rs) (hd : decode cc pc = .ok (.newarray .boolean, 2)) (hq : pc + 2 = q) (kk : ∀ a : Nat, xV Y l X Q (w ++ [(a, .inl (Y.2.2.2.1, N2, .inl (fun _ => 0)))]) (nc + 1) (ns + N2) q lv (.ref a :: st)) : xV Y l X Q w nc ns pc lv (.int n :: st) := by
  obtain ⟨p, e, R, s, m, args, below, meth, c, A, nL, Qc⟩ := X
  obtain ⟨hx, hb, hml, hown, hts, hK, hA, hlocks, hr, hRf, hRl, hN⟩ := C
  intro H locs ls hP hD hS hl
  subst hq
  obtain ⟨hrc, hrs⟩ := Kr
  refine va_newa (atype := .boolean) (a0 := (N2, .inl (fun _ => 0))) hx hb (hts _ ha) (ty := .boolean) rfl hK hP hD hS hA (fun _ => rfl) hn hN2 hbytes (by rw [hrc]; exact hcs.1) (by rw [hrs]; exact hcs.2) hd (fun a cA H1 hK1 hP hD hS => ?_)
  have e1 : s.vm.findClass ("[" ++ (FieldType.toString .boolean)) = some cA := (hK1.2 4 (cA, .boolean) rfl).2
  have e2 : s.vm.findClass ("[" ++ (FieldType.toString .boolean)) = some Y.2.2.2.1 := (hK.2 2 (Y.2.2.2.1, .boolean) rfl).2
  have e3 : cA = Y.2.2.2.1 := Option.some.inj (e1.symm.trans e2)
  subst e3
  exact kk a H1 locs ls hP hD hS hl
theorem v_newq (q : Nat) (C : xC Y X cc own ret N F Lc) {rc rs : Nat} (Kr : xKr X rc rs) (Ke : xKe X (va_AO RX3)) {idx : Nat} {n : Int32} (N2 : Nat) (hcl : Cond.classLink own idx RX3 ∈ xw) (hn : ¬ n < 0) (hN2 : n.toNatClampNeg = N2) (hbytes : N2 * 4 ≤ 536870912) (hcs : nc + 1 ≤ rc ∧ ns + N2 ≤ rs) (hd : decode cc pc = .ok (.anewarray idx, 3)) (hq : pc + 3 = q) (kk : ∀ a : Nat, xV Y l X Q (w ++ [(a, .inl (Y.2.2.2.2, N2, .inr (.inr (.inr (.inr (fun _ => none))))))]) (nc + 1) (ns + N2) q lv (.ref a :: st)) : xV Y l X Q w nc ns pc lv (.int n :: st) := by
  obtain ⟨p, e, R, s, m, args, below, meth, c, A, nL, Qc⟩ := X
  obtain ⟨hx, hb, hml, hown, hts, hK, hA, hlocks, hr, hRf, hRl, hN⟩ := C
  intro H locs ls hP hD hS hl
  subst hq
  obtain ⟨hrc, hrs⟩ := Kr
  refine va_newq hx hb hown (hts _ hcl) Ke hK hP hD hS hA hn hN2 hbytes (by rw [hrc]; exact hcs.1) (by rw [hrs]; exact hcs.2) hd (fun a cA H1 hK1 hP hD hS => ?_)
  obtain ⟨_, _, _, _, _, e1⟩ := (hK1.2 4 (cA, .object RX3) rfl).2
  obtain ⟨_, _, _, _, _, e2⟩ := (hK.2 3 (Y.2.2.2.2, .object RX3) rfl).2
  have e3 : cA = Y.2.2.2.2 := Option.some.inj (e1.symm.trans e2)
  subst e3
  exact kk a H1 locs ls hP hD hS hl
theorem v_objInit (q : Nat) (C : xC Y X cc own ret N F Lc) {idx a : Nat} (hlk : Cond.methodLink own idx objectInit ∈ xw) (hin : Cond.instanceMethod objectInit ∈ xw) (hcode : Cond.code objectInit object_method_1_code 1 none ∈ xw) (hd : decode cc pc = .ok (.invokespecial idx, 3)) (hF : 1 ≤ F ∧ 12 ≤ Lc) (hst : st = []) (hq : pc + 3 = q) (kk : xV Y l X Q w nc ns q lv (st)) : xV Y l X Q w nc ns pc lv (.ref a :: st) := by
  obtain ⟨p, e, R, s, m, args, below, meth, c, A, nL, Qc⟩ := X
  obtain ⟨hx, hb, hml, hown, hts, hK, hA, hlocks, hr, hRf, hRl, hN⟩ := C
  intro H locs ls hP hD hS hl
  subst hq
  subst hst
  refine W.objInit hx hb hown (hts _ hlk) (hts _ hin) (hts _ hcode) rfl (by rw [hml]; exact hl.1) rfl hd (by rw [hRf]; exact hF.1) (by rw [hRl]; exact hF.2) ?_
  exact kk H locs ls hP hD hS hl
theorem v_mi (q : Nat) (C : xC Y X cc own ret N F Lc) {rc rs : Nat} (Kr : xKr X rc rs) {σ : Type} {E : State → Prop} {y : MethodName} {bytes : ByteArray} {maxL fr lo mc ms n idx : Nat} {b : Nat} {wr wc : va_W} {post : σ → Prop} {w1 : σ → va_W} (As : List Value) (hini : Cond.initialized y.cls ∈ xw) (hcode : Cond.code y bytes maxL none ∈ xw) (hdn : y.cls ≠ "java/lang/invoke/MethodHandle" ∧ y.cls ≠ "java/lang/invoke/VarHandle" ∧ (parseMethodDescriptor y.desc).map (fun d => d.parameters.length) = some n) (hin : Cond.instanceMethod y ∈ xw) (hy1 : y.name = "<init>") (hlk : Cond.methodLink own idx y ∈ xw) (hd : decode cc pc = .ok (.invokespecial idx, 3)) (hq : pc + 3 = q) (hR : fr + 1 ≤ F ∧ 8 + (maxL + 11) + lo ≤ Lc) (hcs : nc + mc ≤ rc ∧ ns + ms ≤ rs) {st0 : List Value} (hst : st0 = As.reverse ++ .ref b :: st) (hn : As.length = n) (hsum : (st.map fun v => v.category).sum ≤ 8) (hE : vMv E) (Ke : xKe X E) (hM : vcV l Y E y bytes maxL fr lo mc ms (.ref b :: As) wc post w1) (kk : ∀ u : σ, post u → xV Y l X Q (wr ++ w1 u) (nc + mc) (ns + ms) q lv (st)) : xV Y l X Q (wr ++ wc) nc ns pc lv (st0) := by
  obtain ⟨p, e, R, s, m, args, below, meth, c, A, nL, Qc⟩ := X
  obtain ⟨hx, hb, hml, hown, hts, hK, hA, hlocks, hr, hRf, hRl, hN⟩ := C
  intro H locs ls hP hD hS hl
  subst hq
  subst hst
  obtain ⟨hrc, hrs⟩ := Kr
  have hM := hM H.size
  have hPc := v_subP hP
  have hDc := v_subD hD
  have hFc := x_fr hDc hS hA
  have hRR : (vRm fr lo mc ms).frames + 1 ≤ R.frames ∧ 8 + (maxL + 11) + (vRm fr lo mc ms).locals ≤ R.locals := by rw [hRf, hRl]; exact hR
  refine va_callv (va_runI (As := As) (rest := st) ⟨hx, hb, hml, hown, hts⟩ hM ⟨callB_of n hts (x_gin _ hcode) rfl rfl rfl (hts _ hini) (hts _ hlk) hdn hRR, hy1, hts _ hin⟩ ⟨v_blind hE, fun U hU hW => ⟨rfl, ⟨by rw [hU], by rw [hU]; exact hPc, va_K.moved hW.alike hK, hDc.weaken (fun _ _ _ _ => trivial)⟩, hE s U hW.alike Ke⟩⟩ rfl hn hl.1 rfl (lv_room hsum) hd ⟨by rw [hrc]; exact hcs.1, by rw [hrs]; exact hcs.2⟩) hS (fun q _ h => hFc q h) hFc (fun u t H1 locs1 ht hvm hw hB hz1 hk1 hS1 => ?_)
  obtain ⟨hP1, hK1, hD1⟩ := hB
  rw [ht] at hP1
  obtain ⟨hP2, hD2⟩ := v_join hP hD hk1 hFc hP1 hD1
  exact kk u hw H1 locs1 ls hP2 hD2 hS1 hl
theorem v_mvV (q : Nat) (C : xC Y X cc own ret N F Lc) {rc rs : Nat} (Kr : xKr X rc rs) {σ : Type} {E : State → Prop} {y : MethodName} {bytes : ByteArray} {maxL fr lo mc ms n idx : Nat} {post : σ → Prop} {w1 : σ → va_W} (As : List Value) (hini : Cond.initialized y.cls ∈ xw) (hcode : Cond.code y bytes maxL none ∈ xw) (hdn : y.cls ≠ "java/lang/invoke/MethodHandle" ∧ y.cls ≠ "java/lang/invoke/VarHandle" ∧ (parseMethodDescriptor y.desc).map (fun d => d.parameters.length) = some n) (q0 : Nat) {b ci N2 : Nat} {T : u_T} {fs : List Value} (he : w[q0]? = some (b, .inr (ci, fs))) (hc : vwCl[ci]? = some (y.cls, T, N2)) (hin : Cond.instanceMethod y ∈ xw) (hsel : Cond.selects y.cls y y ∈ xw) (hlk : Cond.methodLink own idx y ∈ xw) (hd : decode cc pc = .ok (.invokevirtual idx, 3)) (hq : pc + 3 = q) (hR : fr + 1 ≤ F ∧ 8 + (maxL + 11) + lo ≤ Lc) (hcs : nc + mc ≤ rc ∧ ns + ms ≤ rs) {st0 : List Value} (hst : st0 = As.reverse ++ .ref b :: st) (hn : As.length = n) (hsum : (st.map fun v => v.category).sum ≤ 8) (hE : vMv E) (Ke : xKe X E) (hM : vcV l Y E y bytes maxL fr lo mc ms (.ref b :: As) w post w1) (kk : ∀ u : σ, post u → xV Y l X Q (w1 u) (nc + mc) (ns + ms) q lv (st)) : xV Y l X Q w nc ns pc lv (st0) := by
  obtain ⟨p, e, R, s, m, args, below, meth, c, A, nL, Qc⟩ := X
  obtain ⟨hx, hb, hml, hown, hts, hK, hA, hlocks, hr, hRf, hRl, hN⟩ := C
  intro H locs ls hP hD hS hl
  subst hq
  subst hst
  obtain ⟨hrc, hrs⟩ := Kr
  have hM := hM H.size
  have hFc := x_fr hD hS hA
  have hRR : (vRm fr lo mc ms).frames + 1 ≤ R.frames ∧ 8 + (maxL + 11) + (vRm fr lo mc ms).locals ≤ R.locals := by rw [hRf, hRl]; exact hR
  refine va_callv (va_runV (As := As) (rest := st) ⟨hx, hb, hml, hown, hts⟩ hM ⟨callB_of n hts (x_gin _ hcode) rfl rfl rfl (hts _ hini) (hts _ hlk) hdn hRR, hts _ hin, hts _ hsel⟩ ⟨v_blind hE, va_recv hK hP (ci := ci) (q0 := q0) hc he, fun U hU hW => ⟨rfl, ⟨by rw [hU], by rw [hU]; exact hP, va_K.moved hW.alike hK, hD.weaken (fun _ _ _ _ => trivial)⟩, hE s U hW.alike Ke⟩⟩ rfl hn hl.1 rfl (lv_room hsum) hd ⟨by rw [hrc]; exact hcs.1, by rw [hrs]; exact hcs.2⟩) hS (fun q _ h => hFc q h) hFc (fun u t H1 locs1 ht hvm hw hB hz1 hk1 hS1 => ?_)
  obtain ⟨hP1, hK1, hD1⟩ := hB
  rw [ht] at hP1
  exact kk u hw H1 locs1 ls hP1 (hD1.weaken (fun k q _ h => hFc q.1 h)) hS1 hl
theorem v_mvI (q : Nat) (C : xC Y X cc own ret N F Lc) {rc rs : Nat} (Kr : xKr X rc rs) {σ : Type} {E : State → Prop} {y : MethodName} {bytes : ByteArray} {maxL fr lo mc ms n idx : Nat} {rt : Option FieldType} {post : Int32 → σ → Prop} {w1 : σ → va_W} (As : List Value) (hini : Cond.initialized y.cls ∈ xw) (hcode : Cond.code y bytes maxL rt ∈ xw) (hdn : y.cls ≠ "java/lang/invoke/MethodHandle" ∧ y.cls ≠ "java/lang/invoke/VarHandle" ∧ (parseMethodDescriptor y.desc).map (fun d => d.parameters.length) = some n) (q0 : Nat) {b ci N2 : Nat} {T : u_T} {fs : List Value} (he : w[q0]? = some (b, .inr (ci, fs))) (hc : vwCl[ci]? = some (y.cls, T, N2)) (hin : Cond.instanceMethod y ∈ xw) (hsel : Cond.selects y.cls y y ∈ xw) (hlk : Cond.methodLink own idx y ∈ xw) (hd : decode cc pc = .ok (.invokevirtual idx, 3)) (hq : pc + 3 = q) (hR : fr + 1 ≤ F ∧ 8 + (maxL + 11) + lo ≤ Lc) (hcs : nc + mc ≤ rc ∧ ns + ms ≤ rs) {st0 : List Value} (hst : st0 = As.reverse ++ .ref b :: st) (hn : As.length = n) (hsum : (st.map fun v => v.category).sum ≤ 8) (hE : vMv E) (Ke : xKe X E) (hM : vcI l Y E y bytes maxL rt fr lo mc ms (.ref b :: As) w post w1) (kk : ∀ (r : Int32) (u : σ), post r u → xV Y l X Q (w1 u) (nc + mc) (ns + ms) q lv (.int r :: st)) : xV Y l X Q w nc ns pc lv (st0) := by
  obtain ⟨p, e, R, s, m, args, below, meth, c, A, nL, Qc⟩ := X
  obtain ⟨hx, hb, hml, hown, hts, hK, hA, hlocks, hr, hRf, hRl, hN⟩ := C
  intro H locs ls hP hD hS hl
  subst hq
  subst hst
  obtain ⟨hrc, hrs⟩ := Kr
  have hM := hM H.size
  have hFc := x_fr hD hS hA
  have hRR : (vRm fr lo mc ms).frames + 1 ≤ R.frames ∧ 8 + (maxL + 11) + (vRm fr lo mc ms).locals ≤ R.locals := by rw [hRf, hRl]; exact hR
  refine va_calli (va_runV (As := As) (rest := st) ⟨hx, hb, hml, hown, hts⟩ hM ⟨callB_of n hts (x_gin _ hcode) rfl rfl rfl (hts _ hini) (hts _ hlk) hdn hRR, hts _ hin, hts _ hsel⟩ ⟨v_blind hE, va_recv hK hP (ci := ci) (q0 := q0) hc he, fun U hU hW => ⟨rfl, ⟨by rw [hU], by rw [hU]; exact hP, va_K.moved hW.alike hK, hD.weaken (fun _ _ _ _ => trivial)⟩, hE s U hW.alike Ke⟩⟩ rfl hn hl.1 rfl (lv_room hsum) hd ⟨by rw [hrc]; exact hcs.1, by rw [hrs]; exact hcs.2⟩) hS (fun q _ h => hFc q h) hFc (fun r1 u t H1 locs1 ht hvm hw hB hz1 hk1 hS1 => ?_)
  obtain ⟨hP1, hK1, hD1⟩ := hB
  rw [ht] at hP1
  exact kk r1 u hw H1 locs1 ls hP1 (hD1.weaken (fun k q _ h => hFc q.1 h)) hS1 hl
theorem v_msV (q : Nat) (C : xC Y X cc own ret N F Lc) {rc rs : Nat} (Kr : xKr X rc rs) {σ : Type} {E : State → Prop} {y : MethodName} {bytes : ByteArray} {maxL fr lo mc ms n idx : Nat} {post : σ → Prop} {w1 : σ → va_W} (As : List Value) (hini : Cond.initialized y.cls ∈ xw) (hcode : Cond.code y bytes maxL none ∈ xw) (hdn : y.cls ≠ "java/lang/invoke/MethodHandle" ∧ y.cls ≠ "java/lang/invoke/VarHandle" ∧ (parseMethodDescriptor y.desc).map (fun d => d.parameters.length) = some n) (hstat : Cond.static y ∈ xw) (hlk : Cond.methodLink own idx y ∈ xw) (hd : decode cc pc = .ok (.invokestatic idx, 3)) (hq : pc + 3 = q) (hR : fr + 1 ≤ F ∧ 8 + (maxL + 11) + lo ≤ Lc) (hcs : nc + mc ≤ rc ∧ ns + ms ≤ rs) {st0 : List Value} (hst : st0 = As.reverse ++ st) (hn : As.length = n) (hsum : (st.map fun v => v.category).sum ≤ 8) (hE : vMv E) (Ke : xKe X E) (hM : vcV l Y E y bytes maxL fr lo mc ms As w post w1) (kk : ∀ u : σ, post u → xV Y l X Q (w1 u) (nc + mc) (ns + ms) q lv (st)) : xV Y l X Q w nc ns pc lv (st0) := by
  obtain ⟨p, e, R, s, m, args, below, meth, c, A, nL, Qc⟩ := X
  obtain ⟨hx, hb, hml, hown, hts, hK, hA, hlocks, hr, hRf, hRl, hN⟩ := C
  intro H locs ls hP hD hS hl
  subst hq
  subst hst
  obtain ⟨hrc, hrs⟩ := Kr
  have hM := hM H.size
  have hFc := x_fr hD hS hA
  have hRR : (vRm fr lo mc ms).frames + 1 ≤ R.frames ∧ 8 + (maxL + 11) + (vRm fr lo mc ms).locals ≤ R.locals := by rw [hRf, hRl]; exact hR
  refine va_callv (va_runS (As := As) (rest := st) ⟨hx, hb, hml, hown, hts⟩ hM ⟨callB_of n hts (x_gin _ hcode) rfl rfl rfl (hts _ hini) (hts _ hlk) hdn hRR, hts _ hstat⟩ ⟨v_blind hE, fun U hU hW => ⟨rfl, ⟨by rw [hU], by rw [hU]; exact hP, va_K.moved hW.alike hK, hD.weaken (fun _ _ _ _ => trivial)⟩, hE s U hW.alike Ke⟩⟩ rfl hn hl.1 rfl (lv_room hsum) hd ⟨by rw [hrc]; exact hcs.1, by rw [hrs]; exact hcs.2⟩) hS (fun q _ h => hFc q h) hFc (fun u t H1 locs1 ht hvm hw hB hz1 hk1 hS1 => ?_)
  obtain ⟨hP1, hK1, hD1⟩ := hB
  rw [ht] at hP1
  exact kk u hw H1 locs1 ls hP1 (hD1.weaken (fun k q _ h => hFc q.1 h)) hS1 hl
theorem v_xvI (q : Nat) (C : xC Y X cc own ret N F Lc) {rc rs : Nat} (Kr : xKr X rc rs) {y : MethodName} {bytes : ByteArray} {maxL fr lo n idx : Nat} {rt : Option FieldType} {wf : xM → va_W} {M M2 : xM} {r : Int32} (As : List Value) (hw : xmv y bytes maxL rt n) (hwf : w = wf M) (q0 : Nat) {b ci N2 : Nat} {T : u_T} {fs : List Value} (he : w[q0]? = some (b, .inr (ci, fs))) (hc : vwCl[ci]? = some (y.cls, T, N2)) (hlk : Cond.methodLink own idx y ∈ xw) (hd : decode cc pc = .ok (.invokevirtual idx, 3)) (hq : pc + 3 = q) (hR : fr + 1 ≤ F ∧ 8 + (maxL + 11) + lo ≤ Lc) (hcs : nc ≤ rc ∧ ns ≤ rs) {st0 : List Value} (hst : st0 = As.reverse ++ .ref b :: st) (hn : As.length = n) (hsum : (st.map fun v => v.category).sum ≤ 8) (hM : xcI l Y wf y bytes maxL rt fr lo (.ref b :: As) M r M2) (kk : xV Y l X Q (wf M2) nc ns q lv (.int r :: st)) : xV Y l X Q w nc ns pc lv (st0) := by
  obtain ⟨p, e, R, s, m, args, below, meth, c, A, nL, Qc⟩ := X
  obtain ⟨hx, hb, hml, hown, hts, hK, hA, hlocks, hr, hRf, hRl, hN⟩ := C
  intro H locs ls hP hD hS hl
  subst hq
  subst hst
  subst hwf
  obtain ⟨h1, h2, h3, h4, h5, h6, h7⟩ := hw
  obtain ⟨hrc, hrs⟩ := Kr
  have hM := hM H.size
  have hFc := x_fr hD hS hA
  have hRR : (xRm fr lo).frames + 1 ≤ R.frames ∧ 8 + (maxL + 11) + (xRm fr lo).locals ≤ R.locals := by rw [hRf, hRl]; exact hR
  refine va_calli (va_runV (As := As) (rest := st) ⟨hx, hb, hml, hown, hts⟩ hM ⟨callB_of n hts (x_gin _ h4) rfl rfl rfl (hts _ h3) (hts _ hlk) ⟨h5, h6, h7⟩ hRR, hts _ h1, hts _ h2⟩ ⟨x_blind, va_recv hK hP (ci := ci) (q0 := q0) hc he, fun U hU hW => ⟨rfl, by rw [hU], by rw [hU]; exact hP, va_K.moved hW.alike hK, hD.weaken (fun _ _ _ _ => trivial)⟩⟩ rfl hn hl.1 rfl (lv_room hsum) hd ⟨by rw [hrc]; exact hcs.1, by rw [hrs]; exact hcs.2⟩) hS (fun q _ h => hFc q h) hFc (fun r1 u t H1 locs1 ht hvm hw hB hz1 hk1 hS1 => ?_)
  obtain ⟨rfl, rfl⟩ := hw
  obtain ⟨hP1, hK1, hD1⟩ := hB
  rw [ht] at hP1
  exact kk H1 locs1 ls hP1 (hD1.weaken (fun k q _ h => hFc q.1 h)) hS1 hl
theorem v_xsI (q : Nat) (C : xC Y X cc own ret N F Lc) {rc rs : Nat} (Kr : xKr X rc rs) {y : MethodName} {bytes : ByteArray} {maxL fr lo n idx : Nat} {rt : Option FieldType} {wf : xM → va_W} {M M2 : xM} {r : Int32} (As : List Value) (hw : xms y bytes maxL rt n) (hwf : w = wf M)  (hlk : Cond.methodLink own idx y ∈ xw) (hd : decode cc pc = .ok (.invokestatic idx, 3)) (hq : pc + 3 = q) (hR : fr + 1 ≤ F ∧ 8 + (maxL + 11) + lo ≤ Lc) (hcs : nc ≤ rc ∧ ns ≤ rs) {st0 : List Value} (hst : st0 = As.reverse ++ st) (hn : As.length = n) (hsum : (st.map fun v => v.category).sum ≤ 8) (hM : xcI l Y wf y bytes maxL rt fr lo As M r M2) (kk : xV Y l X Q (wf M2) nc ns q lv (.int r :: st)) : xV Y l X Q w nc ns pc lv (st0) := by
  obtain ⟨p, e, R, s, m, args, below, meth, c, A, nL, Qc⟩ := X
  obtain ⟨hx, hb, hml, hown, hts, hK, hA, hlocks, hr, hRf, hRl, hN⟩ := C
  intro H locs ls hP hD hS hl
  subst hq
  subst hst
  subst hwf
  obtain ⟨h1, h3, h4, h5, h6, h7⟩ := hw
  obtain ⟨hrc, hrs⟩ := Kr
  have hM := hM H.size
  have hFc := x_fr hD hS hA
  have hRR : (xRm fr lo).frames + 1 ≤ R.frames ∧ 8 + (maxL + 11) + (xRm fr lo).locals ≤ R.locals := by rw [hRf, hRl]; exact hR
  refine va_calli (va_runS (As := As) (rest := st) ⟨hx, hb, hml, hown, hts⟩ hM ⟨callB_of n hts (x_gin _ h4) rfl rfl rfl (hts _ h3) (hts _ hlk) ⟨h5, h6, h7⟩ hRR, hts _ h1⟩ ⟨x_blind, fun U hU hW => ⟨rfl, by rw [hU], by rw [hU]; exact hP, va_K.moved hW.alike hK, hD.weaken (fun _ _ _ _ => trivial)⟩⟩ rfl hn hl.1 rfl (lv_room hsum) hd ⟨by rw [hrc]; exact hcs.1, by rw [hrs]; exact hcs.2⟩) hS (fun q _ h => hFc q h) hFc (fun r1 u t H1 locs1 ht hvm hw hB hz1 hk1 hS1 => ?_)
  obtain ⟨rfl, rfl⟩ := hw
  obtain ⟨hP1, hK1, hD1⟩ := hB
  rw [ht] at hP1
  exact kk H1 locs1 ls hP1 (hD1.weaken (fun k q _ h => hFc q.1 h)) hS1 hl
theorem v_aald (q : Nat) (C : xC Y X cc own ret N F Lc) (q0 : Nat) {n a : Nat} {f : Nat → Option Nat} {i : Int32} (v : Value) (ha : w[q0]? = some (a, .inl (Y.2.2.2.2, n, .inr (.inr (.inr (.inr f)))))) (hi : vp_in i n) (hv : va_rf (f i.toNatClampNeg) = v) (hd : decode cc pc = .ok (.aaload, 1)) (hq : pc + 1 = q) (kk : xV Y l X Q w nc ns q lv (v :: st)) : xV Y l X Q w nc ns pc lv (.int i :: .ref a :: st) := by
  obtain ⟨p, e, R, s, m, args, below, meth, c, A, nL, Qc⟩ := X
  obtain ⟨hx, hb, hml, hown, hts, hK, hA, hlocks, hr, hRf, hRl, hN⟩ := C
  intro H locs ls hP hD hS hl
  subst hq
  subst hv
  exact va_aldq hx hb hK hP q0 3 ha rfl hi hd (kk H locs ls hP hD hS hl)
theorem v_aast (q : Nat) (C : xC Y X cc own ret N F Lc) (q0 qk ci : Nat) {r : vw_C} {n a b : Nat} {vs : List Value} {f : Nat → Option Nat} {i : Int32} {w2 : va_W} (ha : w[q0]? = some (a, .inl (Y.2.2.2.2, n, .inr (.inr (.inr (.inr f)))))) (hv : w[qk]? = some (b, .inr (ci, vs))) (hc : vwCl[ci]? = some r) (hr3 : r.1 = RX3) (hi : vp_in i n) (hs : w.set q0 (a, .inl (Y.2.2.2.2, n, .inr (.inr (.inr (.inr (va_up f i.toNatClampNeg (some b))))))) = w2) (hd : decode cc pc = .ok (.aastore, 1)) (hq : pc + 1 = q) (kk : xV Y l X Q w2 nc ns q lv (st)) : xV Y l X Q w nc ns pc lv (.ref b :: .int i :: .ref a :: st) := by
  obtain ⟨p, e, R, s, m, args, below, meth, c, A, nL, Qc⟩ := X
  obtain ⟨hx, hb, hml, hown, hts, hK, hA, hlocks, hr, hRf, hRl, hN⟩ := C
  intro H locs ls hP hD hS hl
  subst hq
  refine va_astq hx hb hK hP hD hS q0 3 qk ci ha (by rw [hr3]; rfl) hv hc hi hd (fun H1 locs1 hP hD hS => ?_)
  rw [hs] at hP hD
  exact kk H1 locs1 ls hP hD hS hl
theorem v_alen (q : Nat) (C : xC Y X cc own ret N F Lc) (q0 : Nat) {n a : Nat} {f : Nat → Int32} (v : Int32) (ha : w[q0]? = some (a, .inl (Y.2.1, n, .inl f))) (hv : Int32.ofNat n = v) (hd : decode cc pc = .ok (.arraylength, 1)) (hq : pc + 1 = q) (kk : xV Y l X Q w nc ns q lv (.int v :: st)) : xV Y l X Q w nc ns pc lv (.ref a :: st) := by
  obtain ⟨p, e, R, s, m, args, below, meth, c, A, nL, Qc⟩ := X
  obtain ⟨hx, hb, hml, hown, hts, hK, hA, hlocks, hr, hRf, hRl, hN⟩ := C
  intro H locs ls hP hD hS hl
  subst hq
  exact va_alen hx hb hK hP q0 0 ha rfl hv hd (kk H locs ls hP hD hS hl)
theorem v_vret (C : xC Y X cc own ret N F Lc) {σ : Type} {post : σ → Prop} {w1 : σ → va_W} (HQ : xQV Y X post w1) {mc ms : Nat} (hcs : nc ≤ mc ∧ ns ≤ ms) (hret : ret = none) (u : σ) (hu : post u) (hw : vE w (w1 u)) (hd : decode cc pc = .ok (.return_, 1)) : xV Y l X (xQ X mc ms) w nc ns pc lv [] := by
  obtain ⟨p, e, R, s, m, args, below, meth, c, A, nL, Qc⟩ := X
  obtain ⟨hx, hb, hml, hown, hts, hK, hA, hlocks, hr, hRf, hRl, hN⟩ := C
  intro H locs ls hP hD hS hl
  have hQ : Qc = _ := HQ
  subst hQ
  subst hret
  refine W.widen (k := mc) (n := ms) hcs.1 hcs.2 ?_
  exact W.vret hx hb hr (fun t ht hW => ⟨⟨u, rfl, hu, by rw [ht]; exact hw.1 _ _ _ hP, va_K.moved hW.alike hK, hw.2 _ hD⟩, hS.F ht⟩) hS.2.2 hd hlocks
theorem v_iret (C : xC Y X cc own ret N F Lc) {σ : Type} {post : Int32 → σ → Prop} {w1 : σ → va_W} (HQ : xQI Y X post w1) {mc ms : Nat} (hcs : nc ≤ mc ∧ ns ≤ ms) (hret : ret = some .int) {v : Int32} (u : σ) (hu : post v u) (hw : vE w (w1 u)) (hd : decode cc pc = .ok (.ireturn, 1)) : xV Y l X (xQ X mc ms) w nc ns pc lv [.int v] := by
  obtain ⟨p, e, R, s, m, args, below, meth, c, A, nL, Qc⟩ := X
  obtain ⟨hx, hb, hml, hown, hts, hK, hA, hlocks, hr, hRf, hRl, hN⟩ := C
  intro H locs ls hP hD hS hl
  have hQ : Qc = _ := HQ
  subst hQ
  subst hret
  refine W.widen (k := mc) (n := ms) hcs.1 hcs.2 ?_
  exact W.zret hx hb hr rfl (fun t ht hW => ⟨⟨v, u, rfl, hu, by rw [ht]; exact hw.1 _ _ _ hP, va_K.moved hW.alike hK, hw.2 _ hD⟩, hS.F ht⟩) hS.2.2 hd hlocks
theorem v_ex {w2 : va_W} (h : vE w w2) (kk : xV Y l X Q w2 nc ns pc lv st) : xV Y l X Q w nc ns pc lv st := by
  obtain ⟨p, e, R, s, m, args, below, meth, c, A, nL, Qc⟩ := X
  intro H locs ls hP hD hS hl
  exact kk H locs ls (h.1 _ _ _ hP) (h.2 _ hD) hS hl
theorem v_widen {nc2 ns2 : Nat} (h : nc ≤ nc2 ∧ ns ≤ ns2) (kk : xV Y l X Q w nc2 ns2 pc lv st) : xV Y l X Q w nc ns pc lv st := by
  obtain ⟨p, e, R, s, m, args, below, meth, c, A, nL, Qc⟩ := X
  intro H locs ls hP hD hS hl
  exact W.widen h.1 h.2 (kk H locs ls hP hD hS hl)
theorem v_eq {w2 : va_W} (h : w = w2) (kk : xV Y l X Q w2 nc ns pc lv st) : xV Y l X Q w nc ns pc lv st := h ▸ kk
theorem v_sub {lv2 : List (Nat × Value)} (ks : List Nat) (hk : lv_pick lv ks = lv2) (kk : xV Y l X Q w nc ns pc lv2 st) : xV Y l X Q w nc ns pc lv st := by
  obtain ⟨p, e, R, s, m, args, below, meth, c, A, nL, Qc⟩ := X
  intro H locs ls hP hD hS hl
  exact kk H locs ls hP hD hS (lv_sub hl ks hk)
end XV
