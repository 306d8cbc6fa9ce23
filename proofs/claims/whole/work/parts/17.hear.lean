noncomputable def zNq (S : Nat → Nat) (p : Nat) : Option Nat := if zAct S p then (match zHe S p (S 2) with
  | none => none
  | some q => if zM S p 4 = 0 ∨ zOw S q ≤ zMk S p ∨ (zM S p 2 = zId S (S (21 + q)) ∧ zM S p 3 = q) then some q else none) else none
noncomputable def zH (S : Nat → Nat) (p v : Nat) : Nat := match zNq S p with
  | none => if v = 4 then zM S p 4 - 1 else zM S p v
  | some q => if v = 0 then zRt S (S (21 + q)) else if v = 1 then zRc S (S (21 + q)) else if v = 2 then zId S (S (21 + q)) else if v = 3 then q else 6 - zAge S (S (21 + q))
noncomputable def zS1 (S : Nat → Nat) (n : Nat) : Nat → Nat := fun j => if 165 ≤ j ∧ j < 165 + 5 * n then zH S ((j - 165) / 5) ((j - 165) % 5) else S j
section HB
variable {S : Nat → Nat} {m : xM}
theorem zS1_out {n j : Nat} (hn : n ≤ 24) (hj : j < 165 ∨ 285 ≤ j) : zS1 S n j = S j := if_neg (by omega)
theorem zS1_M {n p v : Nat} (hv : v < 5) : zM (zS1 S n) p v = if p < n then zH S p v else zM S p v := by
  show (if 165 ≤ 165 + 5 * p + v ∧ 165 + 5 * p + v < 165 + 5 * n then zH S ((165 + 5 * p + v - 165) / 5) ((165 + 5 * p + v - 165) % 5) else S (165 + 5 * p + v)) = _
  by_cases c : p < n
  · rw [if_pos c, if_pos (by omega), show (165 + 5 * p + v - 165) / 5 = p by omega, show (165 + 5 * p + v - 165) % 5 = v by omega]
  · rw [if_neg c, if_neg (by omega)]
    rfl
theorem zS1_s {n j : Nat} : zS1 S (n + 1) j = if j = 165 + 5 * n + 0 then zH S n 0 else if j = 165 + 5 * n + 1 then zH S n 1 else if j = 165 + 5 * n + 2 then zH S n 2 else if j = 165 + 5 * n + 3 then zH S n 3 else if j = 165 + 5 * n + 4 then zH S n 4 else zS1 S n j := by
  unfold zS1
  by_cases c0 : j = 165 + 5 * n + 0
  · subst c0; rw [if_pos rfl, if_pos (by omega), show (165 + 5 * n + 0 - 165) / 5 = n by omega, show (165 + 5 * n + 0 - 165) % 5 = 0 by omega]
  rw [if_neg c0]
  by_cases c1 : j = 165 + 5 * n + 1
  · subst c1; rw [if_pos rfl, if_pos (by omega), show (165 + 5 * n + 1 - 165) / 5 = n by omega, show (165 + 5 * n + 1 - 165) % 5 = 1 by omega]
  rw [if_neg c1]
  by_cases c2 : j = 165 + 5 * n + 2
  · subst c2; rw [if_pos rfl, if_pos (by omega), show (165 + 5 * n + 2 - 165) / 5 = n by omega, show (165 + 5 * n + 2 - 165) % 5 = 2 by omega]
  rw [if_neg c2]
  by_cases c3 : j = 165 + 5 * n + 3
  · subst c3; rw [if_pos rfl, if_pos (by omega), show (165 + 5 * n + 3 - 165) / 5 = n by omega, show (165 + 5 * n + 3 - 165) % 5 = 3 by omega]
  rw [if_neg c3]
  by_cases c4 : j = 165 + 5 * n + 4
  · subst c4; rw [if_pos rfl, if_pos (by omega), show (165 + 5 * n + 4 - 165) / 5 = n by omega, show (165 + 5 * n + 4 - 165) % 5 = 4 by omega]
  rw [if_neg c4]
  by_cases c : 165 ≤ j ∧ j < 165 + 5 * n
  · rw [if_pos c, if_pos (by omega)]
  · rw [if_neg c, if_neg (by omega)]
theorem zNq_in (w : WF S) {p q : Nat} (h : zNq S p = some q) : zAct S p ∧ zHe S p (S 2) = some q ∧ q < S 2 ∧ zSn S q ∧ (zM S p 4 = 0 ∨ zOw S q ≤ zMk S p ∨ (zM S p 2 = zId S (S (21 + q)) ∧ zM S p 3 = q)) := by
  unfold zNq at h
  by_cases a : zAct S p
  · rw [if_pos a] at h
    cases e : zHe S p (S 2) with
    | none => rw [e] at h; cases h
    | some r =>
      rw [e] at h
      have h : (if zM S p 4 = 0 ∨ zOw S r ≤ zMk S p ∨ (zM S p 2 = zId S (S (21 + r)) ∧ zM S p 3 = r) then some r else none) = some q := h
      by_cases d : zM S p 4 = 0 ∨ zOw S r ≤ zMk S p ∨ (zM S p 2 = zId S (S (21 + r)) ∧ zM S p 3 = r)
      · rw [if_pos d] at h
        cases h
        have := zHe_in e
        exact ⟨a, rfl, this.1, this.2.2.1, d⟩
      · rw [if_neg d] at h
        cases h
  · rw [if_neg a] at h
    cases h
theorem zS1_wf (w : WF S) {n : Nat} (hn : n ≤ 24) : WF (zS1 S n) := by
  have o : ∀ j, j < 165 ∨ 285 ≤ j → zS1 S n j = S j := fun j hj => zS1_out hn hj
  obtain ⟨a1, a2, a3, a4, a5, a6, a7, a8⟩ := id w
  refine ⟨?_, ?_, ?_, ?_, ?_, ?_, ?_, ?_⟩
  · rw [o 0 (by omega), o 1 (by omega), o 2 (by omega), o 3 (by omega)]; exact a1
  · intro b hb; rw [o _ (by omega), o _ (by omega)]; exact a2 b hb
  · intro p hp
    rw [o _ (by omega), o _ (by omega), o _ (by omega), o _ (by omega), o _ (by omega)]
    obtain ⟨b1, b2, b3, b4, b5, b6⟩ := a3 p hp
    refine ⟨b1, b2, b3, b4, b5, ?_⟩
    rw [zS1_M (by decide)]
    by_cases c : p < n
    · rw [if_pos c]
      unfold zH
      cases e : zNq S p with
      | none => show (if 4 = 4 then zM S p 4 - 1 else zM S p 4) ≤ 6; rw [if_pos rfl]; omega
      | some q => show 6 - zAge S (S (21 + q)) ≤ 6; omega
    · rw [if_neg c]; exact b6
  · intro p hp
    rw [o 2 (by omega)] at hp
    have : S 2 ≤ 24 := a1.2.2.1
    rw [o (21 + p) (by omega), o (45 + p) (by omega), o 0 (by omega), o 1 (by omega)]
    exact a4 p hp
  · intro p hp
    rw [o _ (by omega), o _ (by omega)]
    exact a5 p hp
  · intro p hp
    rw [zS1_M (by decide), zS1_M (by decide), zS1_M (by decide), zS1_M (by decide), zS1_M (by decide)]
    by_cases c : p < n
    · rw [if_pos c, if_pos c, if_pos c, if_pos c, if_pos c]
      unfold zH
      cases e : zNq S p with
      | none =>
        show 0 < (if 4 = 4 then zM S p 4 - 1 else zM S p 4) → _
        intro h0
        rw [if_pos rfl] at h0
        obtain ⟨g1, g2, g3, g4⟩ := a6 p hp (by omega)
        refine ⟨?_, ?_, ?_, ?_⟩
        · show (if 0 = 4 then zM S p 4 - 1 else zM S p 0) < 256; rw [if_neg (by decide)]; exact g1
        · show (if 1 = 4 then zM S p 4 - 1 else zM S p 1) + 100 * (if 4 = 4 then zM S p 4 - 1 else zM S p 4) ≤ 600; rw [if_neg (by decide), if_pos rfl]; omega
        · show (if 2 = 4 then zM S p 4 - 1 else zM S p 2) < 256; rw [if_neg (by decide)]; exact g3
        · show (if 3 = 4 then zM S p 4 - 1 else zM S p 3) < 24; rw [if_neg (by decide)]; exact g4
      | some q =>
        intro _
        obtain ⟨-, -, q1, q2, -⟩ := zNq_in w e
        have : S 2 ≤ 24 := a1.2.2.1
        have hb := (a3 q (by omega)).1
        have hr := zAge_le w (b := S (21 + q))
        have hs := q2.2
        refine ⟨zRt_lt w hb, ?_, zId_lt w hb, ?_⟩
        · show zRc S (S (21 + q)) + 100 * (6 - zAge S (S (21 + q))) ≤ 600; omega
        · show q < 24; omega
    · rw [if_neg c, if_neg c, if_neg c, if_neg c, if_neg c]
      exact a6 p hp
  · intro s hs; rw [o _ (by omega)]; exact a7 s hs
  · intro k hk; rw [o _ (by omega), o _ (by omega)]; exact a8 k hk
theorem zS1_act (w : WF S) {n p : Nat} (hn : n ≤ 24) (hp : p < 24) : zAct (zS1 S n) p ↔ zAct S p := by
  have hb := (w.2.2.1 p hp).1
  unfold zAct
  rw [zS1_out hn (by omega), zS1_out (j := 21 + p) hn (by omega), zS1_out hn (by omega)]
theorem zS1_id {n b : Nat} (hn : n ≤ 24) (hb : b < 8) : zId (zS1 S n) b = zId S b := by
  unfold zId
  rw [zS1_out hn (by omega)]
noncomputable def zAg (S : Nat → Nat) (p : Nat) : Int32 := if zSn S p then nI (zAge S (S (21 + p))) else (-1)
def SR1 (S : Nat → Nat) (p : Nat) (m : xM) : Prop := m.1 9 p = zAg S p ∧ m.1 10 p = nI (zRt S (S (21 + p))) ∧ m.1 11 p = nI (zRc S (S (21 + p)))
def SR (S : Nat → Nat) (m : xM) : Prop := ∀ p, p < S 2 → SR1 S p m
theorem eR_sent (h : RA S m) (w : WF S) (hL : LR S m) (hP : RPo S m) : ∃ m', fX7_sendAll m = some m' ∧ Fq [9, 10, 11] [] m m' ∧ SR S m' := by
  obtain ⟨w0, w1, w2, w3⟩ := w.1
  have key := lp0 (fun (k : xM → Option xM) n M v => fX7_sendAll_L2 k n M v) (fun i m' => Fq [9, 10, 11] [] m m' ∧ ∀ p, p < i → SR1 S p m') (S 2) (by omega) m ⟨Fq.rf, fun b hb => by omega⟩ ?_ ?_
  · obtain ⟨m', ⟨f, hs⟩, e⟩ := key
    unfold fX7_sendAll
    exact ⟨m', e _, f, hs⟩
  · intro k n m' hI
    have h' : RA S m' := h.fr hI.1 (by decide)
    show fX7_sendAll_B2 k m' (nI (S 2)) _ = k m'
    unfold fX7_sendAll_B2
    simp (disch := omega) only [eR_ports h', ob, qle, Nat.le_refl, if_true]
  · intro n i m' hi hI
    have f1 := hI.1
    have h' : RA S m' := h.fr f1 (by decide)
    have hi24 : i < 24 := by omega
    obtain ⟨b1, b2, b3, b4, b5, b6⟩ := w.2.2.1 i hi24
    obtain ⟨hb, -⟩ := w.2.2.2.1 i hi
    obtain ⟨l1, l2, l3⟩ := hL _ hb
    have l1' : m'.1 5 (S (21 + i)) = zo9 (zRp S (S (21 + i))) := by rw [f1.1 5 (by decide)]; exact l1
    have l2' : m'.1 6 (S (21 + i)) = nI (zRt S (S (21 + i))) := by rw [f1.1 6 (by decide)]; exact l2
    have l3' : m'.1 7 (S (21 + i)) = nI (zRc S (S (21 + i))) := by rw [f1.1 7 (by decide)]; exact l3
    have hP' : m'.1 8 i = nI (zRo S i) := by rw [f1.1 8 (by decide)]; exact hP i hi
    have ha := (zAge_le w (b := S (21 + i))).1
    have hr := zRo_le (S := S) i
    have e69 : ∀ (v : Int32) (b2 : xM → Int32 → Option xM), fX7_sendAll_j69 m' (nI i) (nI (S (21 + i))) v (nI i) b2 = b2 (xI (xI (xI m' 9 i v) 10 i (nI (zRt S (S (21 + i))))) 11 i (nI (zRc S (S (21 + i))))) (nI (i + 1)) := by
      intro v b2
      unfold fX7_sendAll_j69
      simp (disch := omega) only [xwIN, xrdN, rIn _ _ _ (show 6 ≠ 9 by decide), rIn _ _ _ (show 7 ≠ 9 by decide), rIn _ _ _ (show 7 ≠ 10 by decide), l2', l3', nI_add]
    have e43 : ∀ (b2 : xM → Int32 → Option xM), fX7_sendAll_j43 m' (nI i) (nI (S (21 + i))) (nI (zAge S (S (21 + i)))) b2 = b2 (xI (xI (xI m' 9 i (zAg S i)) 10 i (nI (zRt S (S (21 + i))))) 11 i (nI (zRc S (S (21 + i))))) (nI (i + 1)) := by
      intro b2
      unfold fX7_sendAll_j43
      simp (disch := omega) only [xrdN, hP', qeq, qlt]
      unfold zAg
      by_cases d : zRo S i = 2
      · rw [if_pos d]
        by_cases d2 : zAge S (S (21 + i)) ≤ 5
        · rw [if_neg (by omega), if_pos ⟨d, d2⟩]; exact e69 _ _
        · rw [if_pos (by omega), if_neg (fun z => d2 z.2)]; exact e69 _ _
      · rw [if_neg d, if_neg (fun z => d z.1)]; exact e69 _ _
    refine ⟨_, ⟨((f1.I (k := 9) (by decide) i (zAg S i)).I (k := 10) (by decide) i (nI (zRt S (S (21 + i))))).I (k := 11) (by decide) i (nI (zRc S (S (21 + i)))), fun p hp => ?_⟩, fun k => ?_⟩
    · unfold SR1
      rw [rI1, rIn _ _ _ (show 9 ≠ 11 by decide), rIn _ _ _ (show 9 ≠ 10 by decide), rI1, rIn _ _ _ (show 10 ≠ 11 by decide), rI1, rIn _ _ _ (show 10 ≠ 9 by decide), rIn _ _ _ (show 11 ≠ 10 by decide), rIn _ _ _ (show 11 ≠ 9 by decide)]
      by_cases c : p = i
      · subst c; rw [us, us, us]; exact ⟨rfl, rfl, rfl⟩
      · rw [un _ _ c, un _ _ c, un _ _ c]; exact hI.2 p (by omega)
    · show fX7_sendAll_B2 k m' (nI i) _ = _
      unfold fX7_sendAll_B2
      simp (disch := omega) only [eR_ports h', ob, qle, eR_br h' hi24, xrdN, l1']
      rw [if_neg (by omega)]
      cases e : zRp S (S (21 + i)) with
      | none =>
        have hz : zAge S (S (21 + i)) = 0 := by unfold zAge; rw [e]
        simp only [zo9, q9g, if_false]
        have := e43 (fun M v1 => fX7_sendAll_L2 k n M v1)
        rw [hz] at this
        exact this
      | some q =>
        have a1 := (zRp_in e).1
        have a2 := (w.2.2.1 q (by omega)).2.2.2.2.2
        have hz : zAge S (S (21 + i)) = 7 - zM S q 4 := by unfold zAge; rw [e]
        simp (disch := omega) only [zo9, qg0, if_true, eR_msg h' (show q < 24 by omega) (show 4 < 5 by decide), ob, pk_sub, ← hz]
        exact e43 (fun M v1 => fX7_sendAll_L2 k n M v1)
theorem eR_bs {n : Nat} (hn : n ≤ 24) (h : RA (zS1 S n) m) (w : WF S) (hS : SR S m) {q r : Nat} (hq : q < S 2) (hr : r < S 2) : fX7_isBetterSent m (nI q) (nI r) = some (zb (zOw S q < zOw S r)) := by
  obtain ⟨w0, w1, w2, w3⟩ := w.1
  have o : ∀ j, j < 165 ∨ 285 ≤ j → zS1 S n j = S j := fun j hj => zS1_out hn hj
  obtain ⟨-, s1, s2⟩ := hS q hq
  obtain ⟨-, t1, t2⟩ := hS r hr
  have b1 := (w.2.2.1 q (by omega)).1
  have b2 := (w.2.2.1 r (by omega)).1
  have c1 := zRc_le w (b := S (21 + q))
  have c2 := zRc_le w (b := S (21 + r))
  unfold fX7_isBetterSent
  simp (disch := omega) only [xrdN, s1, s2, t1, t2, eR_br h (show q < 24 by omega), eR_br h (show r < 24 by omega), ob, o (21 + q) (by omega), o (21 + r) (by omega), eR_id h b1, eR_id h b2, zS1_id hn b1, zS1_id hn b2]
  rw [eR_bet m (zRt_lt w b1) (by omega) (zId_lt w b1) (by omega) (zRt_lt w b2) (by omega) (zId_lt w b2) (by omega)]
  simp only [ob, xzb_zb]
  rfl
theorem zAg_neg (w : WF S) (p : Nat) : (zAg S p < nI 0) = ¬ zSn S p := by
  have ha := (zAge_le w (b := S (21 + p))).1
  unfold zAg
  by_cases c : zSn S p
  · rw [if_pos c, qn0 (by omega)]; exact propext ⟨False.elim, fun z => z c⟩
  · rw [if_neg c]; exact propext ⟨fun _ => c, fun _ => by decide⟩
theorem eR_heard {n : Nat} (hn : n ≤ 24) (h : RA (zS1 S n) m) (w : WF S) (hS : SR S m) {p : Nat} (hp : p < S 2) : fX7_heardBy m (nI p) = some (zo9 (zHe S p (S 2))) := by
  obtain ⟨w0, w1, w2, w3⟩ := w.1
  have o : ∀ j, j < 165 ∨ 285 ≤ j → zS1 S n j = S j := fun j hj => zS1_out hn hj
  have hports : fX7_ports m = some (nI (S 2)) := by rw [eR_ports h, o 2 (by omega)]
  have h2p := (w.2.2.1 p (by omega)).2.1
  have key := lp0 (fun (k : Int32 → Option Int32) n (s : Int32) v => fX7_heardBy_L5 m (nI p) k n s v) (fun i s => s = zo9 (zHe S p i)) (S 2) (by omega) (-9) rfl ?_ ?_
  · obtain ⟨s, e, hk⟩ := key
    unfold fX7_heardBy
    rw [hk, e]
  · intro k n s hI
    show fX7_heardBy_B5 m (nI p) k s (nI (S 2)) _ = k s
    unfold fX7_heardBy_B5
    simp (disch := omega) only [hports, ob, qle, Nat.le_refl, if_true]
  · intro n i s hi hI
    have h2i := (w.2.2.1 i (by omega)).2.1
    obtain ⟨s1, s2, s3⟩ := hS i hi
    refine ⟨zo9 (zHe S p (i + 1)), rfl, fun k => ?_⟩
    show fX7_heardBy_B5 m (nI p) k s (nI i) (fun v2 v3 => fX7_heardBy_L5 m (nI p) k n v2 v3) = fX7_heardBy_L5 m (nI p) k n _ (nI (i + 1))
    have skip : fX7_heardBy_j53 m (nI p) s (nI i) (nI 0) (fun v2 v3 => fX7_heardBy_L5 m (nI p) k n v2 v3) = fX7_heardBy_L5 m (nI p) k n s (nI (i + 1)) := by
      unfold fX7_heardBy_j53 fX7_heardBy_j78
      rw [if_pos rfl, nI_add]
    unfold fX7_heardBy_B5
    simp (disch := omega) only [hports, ob, qle, qeq, xrdN, s1, zAg_neg w, nI_add, h (45 + i) (by omega), h (45 + p) (by omega), o (45 + i) (by omega), o (45 + p) (by omega)]
    rw [if_neg (by omega)]
    by_cases c : i ≠ p ∧ zSn S i ∧ S (45 + i) = S (45 + p)
    · rw [if_neg c.1, if_neg (fun z => z c.2.1), if_pos c.2.2]
      have hz : zHe S p (i + 1) = (match zHe S p i with
        | none => some i
        | some q => if zOw S i < zOw S q then some i else some q) := if_pos c
      unfold fX7_heardBy_j53 fX7_heardBy_j78
      simp (disch := omega) only [qeq, nI_add]
      rw [if_neg (by decide), hz, hI]
      cases e : zHe S p i with
      | none => simp only [zo9, q9l, if_true]
      | some q =>
        have q1 := (zHe_in e).1
        simp (disch := omega) only [zo9, qn0, if_false, eR_bs hn h w hS hi (show q < S 2 by omega), ob, zb0]
        by_cases d : zOw S i < zOw S q
        · rw [if_pos d, if_neg (fun z => z d)]
        · rw [if_neg d, if_pos d]
    · have hz : zHe S p (i + 1) = zHe S p i := if_neg c
      rw [hz, ← hI]
      by_cases c1 : i = p
      · rw [if_pos c1]; exact skip
      · rw [if_neg c1]
        by_cases c2 : zSn S i
        · rw [if_neg (fun z => z c2), if_neg (fun z => c ⟨c1, c2, z⟩)]; exact skip
        · rw [if_pos c2]; exact skip
theorem eR_hear {p : Nat} (h : RA (zS1 S p) m) (w : WF S) (hS : SR S m) (hp : p < S 2) : ∃ m', fX7_hear m (nI p) = some m' ∧ Fq [1] [] m m' ∧ RA (zS1 S (p + 1)) m' := by
  obtain ⟨w0, w1, w2, w3⟩ := w.1
  have hp24 : p < 24 := by omega
  have hn : p ≤ 24 := by omega
  have o : ∀ j, j < 165 ∨ 285 ≤ j → zS1 S p j = S j := fun j hj => zS1_out hn hj
  have w' := zS1_wf w hn
  have zm : ∀ v, v < 5 → zM (zS1 S p) p v = zM S p v := fun v hv => by rw [zS1_M hv, if_neg (by omega)]
  have l6 := (w.2.2.1 p hp24).2.2.2.2.2
  have n10 : (nI 1 = nI 0) = False := by decide
  have msg : ∀ v, v < 5 → fX7_message m (nI p) (nI v) = some (nI (zM S p v)) := fun v hv => by rw [eR_msg h hp24 hv, zm v hv]
  have sto : fX7_stores m (nI p) = some (zb (0 < zM S p 4)) := by
    rw [eR_sto h w' hp24]; simp only [zm 4 (by decide)]
  -- keep or age
  have keep : ∀ v2 v3 : Int32, zNq S p = none → ∃ m', fX7_hear_j148 m (nI p) v2 v3 (nI 0) = some m' ∧ Fq [1] [] m m' ∧ RA (zS1 S (p + 1)) m' := by
    intro v2 v3 hq
    have hH : ∀ v, zH S p v = if v = 4 then zM S p 4 - 1 else zM S p v := fun v => by unfold zH; rw [hq]
    have same : ∀ j, j ≠ 165 + 5 * p + 4 → zS1 S (p + 1) j = zS1 S p j := by
      intro j hj
      rw [zS1_s]
      by_cases c0 : j = 165 + 5 * p + 0
      · rw [if_pos c0, hH, if_neg (by decide), c0]; exact (zm 0 (by decide)).symm
      rw [if_neg c0]
      by_cases c1 : j = 165 + 5 * p + 1
      · rw [if_pos c1, hH, if_neg (by decide), c1]; exact (zm 1 (by decide)).symm
      rw [if_neg c1]
      by_cases c2 : j = 165 + 5 * p + 2
      · rw [if_pos c2, hH, if_neg (by decide), c2]; exact (zm 2 (by decide)).symm
      rw [if_neg c2]
      by_cases c3 : j = 165 + 5 * p + 3
      · rw [if_pos c3, hH, if_neg (by decide), c3]; exact (zm 3 (by decide)).symm
      rw [if_neg c3, if_neg hj]
    have at4 : zS1 S (p + 1) (165 + 5 * p + 4) = zM S p 4 - 1 := by
      rw [zS1_s, if_neg (by omega), if_neg (by omega), if_neg (by omega), if_neg (by omega), if_pos rfl, hH, if_pos rfl]
    unfold fX7_hear_j148
    rw [if_pos rfl, sto]
    simp only [ob, zb0]
    by_cases c : 0 < zM S p 4
    · rw [if_neg (fun z => z c)]
      simp (disch := omega) only [pk_mul, nI_add, xrdN, xwIN, h (165 + 5 * p + 4) (by omega), show zS1 S p (165 + 5 * p + 4) = zM S p 4 from zm 4 (by decide), pk_sub]
      refine ⟨_, rfl, Fq.rf.I (by decide) _ _, fun j hj => ?_⟩
      rw [rI1]
      by_cases d : j = 165 + 5 * p + 4
      · subst d; rw [us, at4]
      · rw [un _ _ d, same j d]; exact h j hj
    · rw [if_pos c]
      refine ⟨m, rfl, Fq.rf, fun j hj => ?_⟩
      by_cases d : j = 165 + 5 * p + 4
      · subst d
        rw [at4, h _ hj, show zS1 S p (165 + 5 * p + 4) = zM S p 4 from zm 4 (by decide), show zM S p 4 - 1 = zM S p 4 by omega]
      · rw [same j d]; exact h j hj
  have take : ∀ q, zNq S p = some q → ∃ m', fX7_hear_j148 m (nI p) (nI q) (nI (zId S (S (21 + q)))) (nI 1) = some m' ∧ Fq [1] [] m m' ∧ RA (zS1 S (p + 1)) m' := by
    intro q hq
    obtain ⟨-, -, q1, q2, -⟩ := zNq_in w hq
    obtain ⟨s1, s2, s3⟩ := hS q q1
    have s1' : m.1 9 q = nI (zAge S (S (21 + q))) := by rw [s1]; exact if_pos q2
    have hs := q2.2
    unfold fX7_hear_j148
    rw [if_neg (by rw [n10]; exact id)]
    simp (disch := omega) only [pk_mul, nI_add, xrdN, xwIN, s2, s3, s1', rIn _ _ _ (show 9 ≠ 1 by decide), rIn _ _ _ (show 11 ≠ 1 by decide), pk_sub]
    refine ⟨_, rfl, ((((Fq.rf.I (by decide) _ _).I (by decide) _ _).I (by decide) _ _).I (by decide) _ _).I (by decide) _ _, fun j hj => ?_⟩
    have hH : ∀ v, zH S p v = if v = 0 then zRt S (S (21 + q)) else if v = 1 then zRc S (S (21 + q)) else if v = 2 then zId S (S (21 + q)) else if v = 3 then q else 6 - zAge S (S (21 + q)) := fun v => by unfold zH; rw [hq]
    rw [rI1, rI1, rI1, rI1, rI1, zS1_s]
    by_cases c0 : j = 165 + 5 * p + 0
    · subst c0; rw [if_pos rfl, un _ _ (by omega), un _ _ (by omega), un _ _ (by omega), un _ _ (by omega), us, hH]; rfl
    rw [if_neg c0]
    by_cases c1 : j = 165 + 5 * p + 1
    · subst c1; rw [if_pos rfl, un _ _ (by omega), un _ _ (by omega), un _ _ (by omega), us, hH]; rfl
    rw [if_neg c1]
    by_cases c2 : j = 165 + 5 * p + 2
    · subst c2; rw [if_pos rfl, un _ _ (by omega), un _ _ (by omega), us, hH]; rfl
    rw [if_neg c2]
    by_cases c3 : j = 165 + 5 * p + 3
    · subst c3; rw [if_pos rfl, un _ _ (by omega), us, hH]; rfl
    rw [if_neg c3]
    by_cases c4 : j = 165 + 5 * p + 4
    · subst c4; rw [if_pos rfl, us, hH]; rfl
    rw [if_neg c4, un _ _ c4, un _ _ c3, un _ _ c2, un _ _ c1, un _ _ c0]
    exact h j hj
  unfold fX7_hear
  have hact : fX7_isActive m (nI p) = some (zb (zAct S p)) := by
    rw [eR_act h w' hp24]
    by_cases a : zAct S p
    · rw [zbt a, zbt ((zS1_act w hn hp24).mpr a)]
    · rw [zbf a, zbf (fun z => a ((zS1_act w hn hp24).mp z))]
  rw [hact]
  simp only [ob, zb0]
  have dead : ∀ v : Int32, zNq S p = none → v = (-9) → ∃ m', fX7_hear_j18 m (nI p) v = some m' ∧ Fq [1] [] m m' ∧ RA (zS1 S (p + 1)) m' := by
    intro v hq hv
    subst hv
    unfold fX7_hear_j18
    simp only [q9g, if_false]
    unfold fX7_hear_j36
    simp only [q9l, if_true]
    unfold fX7_hear_j46
    rw [if_pos rfl]
    exact keep _ _ hq
  by_cases a : zAct S p
  · rw [if_neg (fun z => z a), eR_heard hn h w hS hp]
    simp only [ob]
    cases e : zHe S p (S 2) with
    | none =>
      have hq : zNq S p = none := by unfold zNq; rw [if_pos a, e]
      exact dead _ hq rfl
    | some q =>
      have q1 := (zHe_in e).1
      have hq : zNq S p = if zM S p 4 = 0 ∨ zOw S q ≤ zMk S p ∨ (zM S p 2 = zId S (S (21 + q)) ∧ zM S p 3 = q) then some q else none := by unfold zNq; rw [if_pos a, e]
      have b1 := (w.2.2.1 q (by omega)).1
      have hi := zId_lt w b1
      obtain ⟨s1, s2, s3⟩ := hS q q1
      have c1 := zRc_le w (b := S (21 + q))
      unfold fX7_hear_j18
      simp (disch := omega) only [zo9, qg0, if_true, eR_br h (show q < 24 by omega), ob, o (21 + q) (by omega), eR_id h b1, zS1_id hn b1]
      unfold fX7_hear_j36
      simp (disch := omega) only [qn0, if_false]
      unfold fX7_hear_j46
      rw [if_neg (by rw [n10]; exact id), sto]
      simp only [ob, zb0]
      by_cases c : 0 < zM S p 4
      · obtain ⟨g1, g2, g3, g4⟩ := w.2.2.2.2.2.1 p hp24 c
        rw [if_neg (fun z => z c)]
        simp (disch := omega) only [msg 0 (by decide), msg 1 (by decide), msg 2 (by decide), msg 3 (by decide), ob, xrdN, s2, s3]
        rw [eR_bet m g1 (by omega) g3 (by omega) (zRt_lt w b1) (by omega) hi (by omega)]
        simp (disch := omega) only [ob, qeq]
        have hb : zPk (zM S p 0) (zM S p 1) (zM S p 2) (zM S p 3) < zPk (zRt S (S (21 + q))) (zRc S (S (21 + q))) (zId S (S (21 + q))) q ↔ zMk S p < zOw S q := Iff.rfl
        have e129 : ∀ s0 : Int32, fX7_hear_j129 m (nI p) (nI q) (nI (zId S (S (21 + q)))) (zb (zPk (zM S p 0) (zM S p 1) (zM S p 2) (zM S p 3) < zPk (zRt S (S (21 + q))) (zRc S (S (21 + q))) (zId S (S (21 + q))) q)) s0 = if zMk S p < zOw S q then (if s0 = nI 0 then fX7_hear_j148 m (nI p) (nI q) (nI (zId S (S (21 + q)))) (nI 0) else fX7_hear_j148 m (nI p) (nI q) (nI (zId S (S (21 + q)))) (nI 1)) else fX7_hear_j148 m (nI p) (nI q) (nI (zId S (S (21 + q)))) (nI 1) := by
          intro s0
          unfold fX7_hear_j129 fX7_hear_j146
          simp only [zb0]
          by_cases d : zMk S p < zOw S q
          · rw [if_neg (fun z => z d), if_pos d]
          · rw [if_pos (fun z => d (hb.mp z)), if_neg d]
        simp only [e129]
        by_cases d : zMk S p < zOw S q
        · by_cases d1 : zM S p 2 = zId S (S (21 + q))
          · rw [if_pos d1]
            by_cases d2 : zM S p 3 = q
            · rw [if_pos d2, if_pos d, if_neg (by rw [n10]; exact id)]
              exact take q (by rw [hq]; exact if_pos (Or.inr (Or.inr ⟨d1, d2⟩)))
            · rw [if_neg d2, if_pos d, if_pos trivial]
              exact keep _ _ (by rw [hq]; exact if_neg (fun z => by rcases z with z | z | z; omega; omega; exact d2 z.2))
          · rw [if_neg d1, if_pos d, if_pos trivial]
            exact keep _ _ (by rw [hq]; exact if_neg (fun z => by rcases z with z | z | z; omega; omega; exact d1 z.1))
        · have tk := take q (by rw [hq]; exact if_pos (Or.inr (Or.inl (by omega))))
          by_cases d1 : zM S p 2 = zId S (S (21 + q))
          · rw [if_pos d1]
            by_cases d2 : zM S p 3 = q
            · rw [if_pos d2, if_neg d]; exact tk
            · rw [if_neg d2, if_neg d]; exact tk
          · rw [if_neg d1, if_neg d]; exact tk
      · rw [if_pos c]
        exact take q (by rw [hq]; exact if_pos (Or.inl (by omega)))
  · rw [if_pos a]
    have hq : zNq S p = none := by unfold zNq; rw [if_neg a]
    exact dead _ hq rfl
end HB
