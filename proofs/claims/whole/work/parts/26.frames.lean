def QQ (mk : Nat) (sg : Nat → Nat) (pt : Nat → Option Nat) (M m : xM) : Prop := M.1 27 0 = nI mk ∧ m.1 0 0 = nI mk ∧ mk ≤ 64 ∧ ∀ k, k < mk → M.1 28 k = nI (sg k) ∧ M.1 29 k = zo1 (pt k) ∧ m.1 14 k = nI (sg k) ∧ m.1 15 k = zo9 (pt k) ∧ sg k < 10 ∧ ∀ p, pt k = some p → p < 24
def FS (sl sv : Nat → Int32) (S0 : Nat → Nat) (mk0 : Nat) (sg0 : Nat → Nat) (pt0 : Nat → Option Nat) (M m : xM) : Prop := ∃ (S : Nat → Nat) (mk : Nat) (sg : Nat → Nat) (pt : Nat → Option Nat), J S sl sv M m ∧ QQ mk sg pt M m ∧ mk0 ≤ mk ∧ (∀ k, k < mk0 → sg k = sg0 k ∧ pt k = pt0 k) ∧ ∀ j, j < 293 → S j = S0 j
section FR
variable {S S0 : Nat → Nat} {M m : xM} {sl sv : Nat → Int32} {mk0 : Nat} {sg0 : Nat → Nat} {pt0 : Nat → Option Nat}
theorem wf_e (w : WF S) {k v : Nat} (hk : (293 ≤ k ∧ k < 357 ∧ v < 24) ∨ (357 ≤ k ∧ k < 421 ∧ v ≤ 10) ∨ 421 ≤ k) : WF (upS S k v) := by
  have o : ∀ i, i ≠ k → upS S k v i = S i := fun i z => upS_n _ _ z
  have o1 : upS S k v k = v := upS_s _ _ _
  generalize upS S k v = U at o o1
  obtain ⟨a1, a2, a3, a4, a5, a6, a7, a8⟩ := w
  refine ⟨?_, ?_, ?_, ?_, ?_, ?_, ?_, ?_⟩
  · rw [o 0 (by omega), o 1 (by omega), o 2 (by omega), o 3 (by omega)]; exact a1
  · intro b hb; rw [o _ (by omega), o _ (by omega)]; exact a2 b hb
  · intro p hp
    unfold zM
    rw [o (21 + p) (by omega), o (45 + p) (by omega), o (69 + p) (by omega), o (93 + p) (by omega), o (117 + p) (by omega), o (165 + 5 * p + 4) (by omega)]
    exact a3 p hp
  · intro p hp
    rw [o 2 (by omega)] at hp
    have : S 2 ≤ 24 := a1.2.2.1
    rw [o (21 + p) (by omega), o (45 + p) (by omega), o 0 (by omega), o 1 (by omega)]
    exact a4 p hp
  · intro p hp; rw [o _ (by omega), o _ (by omega)]; exact a5 p hp
  · intro p hp
    unfold zM
    rw [o (165 + 5 * p + 0) (by omega), o (165 + 5 * p + 1) (by omega), o (165 + 5 * p + 2) (by omega), o (165 + 5 * p + 3) (by omega), o (165 + 5 * p + 4) (by omega)]
    exact a6 p hp
  · intro s hs; rw [o _ (by omega)]; exact a7 s hs
  · intro i hi
    have := a8 i hi
    constructor
    · by_cases d : 293 + i = k
      · rw [d, o1]; omega
      · rw [o _ d]; exact this.1
    · by_cases d : 357 + i = k
      · rw [d, o1]; omega
      · rw [o _ d]; exact this.2
theorem wq_e (w : WF S) (q : WQ S) {k v : Nat} (hk : 293 ≤ k) : WQ (upS S k v) := by
  intro p hp hs
  have b1 := (w.2.2.1 p hp).1
  rw [upS_n _ _ (by omega)] at hs
  refine ⟨by rw [upS_n _ _ (by omega)]; exact (q p hp hs).1, ?_⟩
  unfold zAct
  rw [upS_n _ _ (by omega), upS_n (j := 21 + p) _ _ (by omega), upS_n _ _ (by omega)]
  exact (q p hp hs).2
theorem J.e (j : J S sl sv M m) {r o n i v : Nat} (ht : (r, o, n) ∈ zT) (h7 : r ≠ 7) (hi : i < n) (hv : (293 ≤ o + i ∧ o + i < 357 ∧ v < 24) ∨ (357 ≤ o + i ∧ o + i < 421 ∧ v ≤ 10) ∨ 421 ≤ o + i) : J (upS S (o + i) v) sl sv (xI M r i (nI v)) (xI m 1 (o + i) (nI v)) := by
  obtain ⟨h, g, g2, g3, w, q⟩ := j
  refine ⟨h.up ht hi h7, g.up, ?_, ?_, wf_e w hv, wq_e w q (by omega)⟩
  · rw [rIn _ _ _ (by decide)]; exact g2
  · rw [rIn _ _ _ (by decide)]; exact g3
theorem QQ.fr {mk : Nat} {sg : Nat → Nat} {pt : Nat → Option Nat} {M' m' : xM} (h : QQ mk sg pt M m) (e1 : M'.1 27 = M.1 27) (e2 : M'.1 28 = M.1 28) (e3 : M'.1 29 = M.1 29) (e4 : m'.1 0 = m.1 0) (e5 : m'.1 14 = m.1 14) (e6 : m'.1 15 = m.1 15) : QQ mk sg pt M' m' := by
  unfold QQ
  rw [e1, e2, e3, e4, e5, e6]
  exact h
theorem f_tx (F : FS sl sv S0 mk0 sg0 pt0 M m) {s : Nat} (hs : s < 10) (q : Option Nat) (hq : ∀ p, q = some p → p < 24) : ∃ M' m', fX1_transmit M (nI s) (zo1 q) = some M' ∧ fX7_transmit m (nI s) (zo9 q) = some m' ∧ FS sl sv S0 mk0 sg0 pt0 M' m' := by
  obtain ⟨S, mk, sg, pt, j, ⟨q1, q2, q3, q4⟩, hm, hp, hS⟩ := F
  unfold fX1_transmit fX7_transmit
  rw [q1, q2]
  simp (disch := omega) only [qlt, qle]
  by_cases c : mk < 64
  · rw [if_pos c, if_neg (by omega)]
    have j1 : J S sl sv (xI (xI (xI M 28 mk (nI s)) 29 mk (zo1 q)) 27 0 (nI (mk + 1))) (xI (xI (xI m 14 mk (nI s)) 15 mk (zo9 q)) 0 0 (nI (mk + 1))) :=
      (j.frC (((Fq.rf.I (ks := [28, 29, 27]) (js := []) (by decide) _ _).I (k := 29) (by decide) _ _).I (k := 27) (by decide) _ _) (by decide) (by decide)).frR (((Fq.rf.I (ks := [14, 15, 0]) (js := []) (by decide) _ _).I (k := 15) (by decide) _ _).I (k := 0) (by decide) _ _) (by decide) (by decide) (by decide)
    have r14 := j1.1.r14 s hs
    have r421 := j1.2.1 (421 + s) (by omega)
    have n0 : (xI (xI M 28 mk (nI s)) 29 mk (zo1 q)).1 27 0 = nI mk := by rw [rIn _ _ _ (by decide), rIn _ _ _ (by decide)]; exact q1
    have n1 : (xI M 28 mk (nI s)).1 27 0 = nI mk := by rw [rIn _ _ _ (by decide)]; exact q1
    have n2 : (xI (xI m 14 mk (nI s)) 15 mk (zo9 q)).1 0 0 = nI mk := by rw [rIn _ _ _ (by decide), rIn _ _ _ (by decide)]; exact q2
    have n3 : (xI m 14 mk (nI s)).1 0 0 = nI mk := by rw [rIn _ _ _ (by decide)]; exact q2
    simp (disch := omega) only [xwIN, n1, n3, xpf, n0, n2, nI_add, xrdN, r14, r421]
    have j2 := j1.e (r := 14) (o := 421) (n := 10) (i := s) (v := S (421 + s) + 1) (by decide) (by decide) hs (by omega)
    refine ⟨_, _, rfl, rfl, upS S (421 + s) (S (421 + s) + 1), mk + 1, fun k => if k = mk then s else sg k, fun k => if k = mk then q else pt k, j2, ⟨?_, ?_, by omega, fun k hk => ?_⟩, by omega, fun k hk => ?_, fun i hi => ?_⟩
    · rw [rIn _ _ _ (by decide), rI1, us]
    · rw [rIn _ _ _ (by decide), rI1, us]
    · simp only [rIn _ _ _ (show 28 ≠ 14 by decide), rIn _ _ _ (show 28 ≠ 27 by decide), rIn _ _ _ (show 28 ≠ 29 by decide), rIn _ _ _ (show 29 ≠ 14 by decide), rIn _ _ _ (show 29 ≠ 27 by decide), rIn _ _ _ (show 29 ≠ 28 by decide), rIn _ _ _ (show 14 ≠ 1 by decide), rIn _ _ _ (show 14 ≠ 0 by decide), rIn _ _ _ (show 14 ≠ 15 by decide), rIn _ _ _ (show 15 ≠ 1 by decide), rIn _ _ _ (show 15 ≠ 0 by decide), rIn _ _ _ (show 15 ≠ 14 by decide), rI1]
      by_cases d : k = mk
      · subst d
        simp only [us, if_true]
        exact ⟨trivial, trivial, trivial, trivial, hs, hq⟩
      · rw [if_neg d, if_neg d, un _ _ d, un _ _ d, un _ _ d, un _ _ d]
        exact q4 k (by omega)
    · show (if k = mk then s else sg k) = sg0 k ∧ (if k = mk then q else pt k) = pt0 k
      rw [if_neg (show ¬ k = mk by omega), if_neg (show ¬ k = mk by omega)]; exact hp k hk
    · rw [upS_n _ _ (by omega)]; exact hS i hi
  · rw [if_neg c, if_pos (by omega)]
    exact ⟨M, m, rfl, rfl, S, mk, sg, pt, j, ⟨q1, q2, q3, q4⟩, hm, hp, hS⟩
theorem f_flood (w0 : WF S0) (F : FS sl sv S0 mk0 sg0 pt0 M m) {b p : Nat} (hb : b < 8) (hp : p < 24) : ∃ M' m', fX1_flood M (nI b) (nI p) = some M' ∧ fX7_receive_j168 m (nI p) (nI b) = some m' ∧ FS sl sv S0 mk0 sg0 pt0 M' m' := by
  obtain ⟨w00, w01, w02, w03⟩ := w0.1
  have key : ∀ (d i n : Nat) (M m : xM), FS sl sv S0 mk0 sg0 pt0 M m → S0 2 = i + d → d < n → ∃ M' m', (∀ k, fX1_flood_L2 (nI b) (nI p) k n M (nI i) = k M') ∧ (∀ k, fX7_receive_L171 (nI p) (nI b) k n m (nI i) = k m') ∧ FS sl sv S0 mk0 sg0 pt0 M' m' := by
    intro d
    induction d with
    | zero =>
      intro i n M m F he hn
      obtain ⟨n, rfl⟩ : ∃ k, n = k + 1 := ⟨n - 1, by omega⟩
      obtain ⟨S, mk, sg, pt, j, q, hm, hpp, hS⟩ := id F
      have n2 : M.1 0 2 = nI (S0 2) := by rw [j.1.n2, hS 2 (by omega)]
      have np : fX7_ports m = some (nI (S0 2)) := by rw [eR_ports j.2.1, hS 2 (by omega)]
      refine ⟨M, m, fun k => ?_, fun k => ?_, F⟩
      · show fX1_flood_B2 (nI b) (nI p) k M (nI i) _ = _
        unfold fX1_flood_B2
        simp (disch := omega) only [n2, qle]
        rw [if_pos (by omega)]
      · show fX7_receive_B171 (nI p) (nI b) k m (nI i) _ = _
        unfold fX7_receive_B171
        simp (disch := omega) only [np, ob, qle]
        rw [if_pos (by omega)]
    | succ d ih =>
      intro i n M m F he hn
      obtain ⟨n, rfl⟩ : ∃ k, n = k + 1 := ⟨n - 1, by omega⟩
      obtain ⟨S, mk, sg, pt, j, q, hm, hpp, hS⟩ := id F
      have hi24 : i < 24 := by omega
      have n2 : M.1 0 2 = nI (S0 2) := by rw [j.1.n2, hS 2 (by omega)]
      have np : fX7_ports m = some (nI (S0 2)) := by rw [eR_ports j.2.1, hS 2 (by omega)]
      have r3 : M.1 3 i = nI (S0 (21 + i)) := by rw [j.1.r3 i hi24, hS _ (by omega)]
      have r4 : M.1 4 i = nI (S0 (45 + i)) := by rw [j.1.r4 i hi24, hS _ (by omega)]
      have r7 : M.1 7 i = nI (S0 (117 + i)) := by rw [j.1.r7 i hi24, hS _ (by omega)]
      have t3 : fX7_bridgeOf m (nI i) = some (nI (S0 (21 + i))) := by rw [eR_br j.2.1 hi24, hS _ (by omega)]
      have t4 : m.1 1 (45 + i) = nI (S0 (45 + i)) := by rw [j.2.1 _ (by omega), hS _ (by omega)]
      have t7 : m.1 1 (117 + i) = nI (S0 (117 + i)) := by rw [j.2.1 _ (by omega), hS _ (by omega)]
      obtain ⟨b1, b2, b3, b4, b5, b6⟩ := w0.2.2.1 i hi24
      have cls : ∀ k, fX1_flood_L2 (nI b) (nI p) k (n + 1) M (nI i) = if S0 (21 + i) = b ∧ i ≠ p ∧ S0 (117 + i) = 4 then ((fX1_transmit M (nI (S0 (45 + i))) (nI i)).bind fun z4 => fX1_flood_L2 (nI b) (nI p) k n z4 (nI (i + 1))) else fX1_flood_L2 (nI b) (nI p) k n M (nI (i + 1)) := by
        intro k
        show fX1_flood_B2 (nI b) (nI p) k M (nI i) _ = _
        unfold fX1_flood_B2 fX3_isForwarding
        simp (disch := omega) only [n2, qle, xrdN, r3, r4, r7, qeq, some_zb, ob, zb0, nI_add]
        rw [if_neg (show ¬ S0 2 ≤ i by omega)]
        by_cases c1 : S0 (21 + i) = b
        · rw [if_pos c1]
          by_cases c2 : i = p
          · rw [if_pos c2, if_neg (fun z => z.2.1 c2)]
          · rw [if_neg c2]
            by_cases c3 : S0 (117 + i) = 4
            · rw [if_neg (fun z => z c3), if_pos ⟨c1, c2, c3⟩]
            · rw [if_pos c3, if_neg (fun z => c3 z.2.2)]
        · rw [if_neg c1, if_neg (fun z => c1 z.1)]
      have ref : ∀ k, fX7_receive_L171 (nI p) (nI b) k (n + 1) m (nI i) = if S0 (21 + i) = b ∧ i ≠ p ∧ S0 (117 + i) = 4 then ((fX7_transmit m (nI (S0 (45 + i))) (nI i)).bind fun z4 => fX7_receive_L171 (nI p) (nI b) k n z4 (nI (i + 1))) else fX7_receive_L171 (nI p) (nI b) k n m (nI (i + 1)) := by
        intro k
        show fX7_receive_B171 (nI p) (nI b) k m (nI i) _ = _
        unfold fX7_receive_B171
        simp (disch := omega) only [np, ob, qle, t3, nI_add, xrdN, t7, t4, qeq]
        rw [if_neg (show ¬ S0 2 ≤ i by omega)]
        by_cases c2 : i = p
        · rw [if_pos c2, if_neg (fun z => z.2.1 c2)]
        · rw [if_neg c2]
          by_cases c1 : S0 (21 + i) = b
          · rw [if_pos c1]
            by_cases c3 : S0 (117 + i) = 4
            · rw [if_pos c3, if_pos ⟨c1, c2, c3⟩]
            · rw [if_neg c3, if_neg (fun z => c3 z.2.2)]
          · rw [if_neg c1, if_neg (fun z => c1 z.1)]
      by_cases c : S0 (21 + i) = b ∧ i ≠ p ∧ S0 (117 + i) = 4
      · obtain ⟨M1, m1, e1, e2, F1⟩ := f_tx F b2 (some i) (fun p z => by cases z; exact hi24)
        have e1 : fX1_transmit M (nI (S0 (45 + i))) (nI i) = some M1 := e1
        have e2 : fX7_transmit m (nI (S0 (45 + i))) (nI i) = some m1 := e2
        obtain ⟨M', m', k1, k2, F'⟩ := ih (i + 1) n M1 m1 F1 (by omega) (by omega)
        refine ⟨M', m', fun k => ?_, fun k => ?_, F'⟩
        · rw [cls k, if_pos c, e1]; exact k1 k
        · rw [ref k, if_pos c, e2]; exact k2 k
      · obtain ⟨M', m', k1, k2, F'⟩ := ih (i + 1) n M m F (by omega) (by omega)
        refine ⟨M', m', fun k => ?_, fun k => ?_, F'⟩
        · rw [cls k, if_neg c]; exact k1 k
        · rw [ref k, if_neg c]; exact k2 k
  obtain ⟨M', m', k1, k2, F'⟩ := key (S0 2) 0 512 M m F (by omega) (by omega)
  unfold fX1_flood fX7_receive_j168
  exact ⟨M', m', k1 _, k2 _, F'⟩
theorem f_pass (w0 : WF S0) (F : FS sl sv S0 mk0 sg0 pt0 M m) {p : Nat} (hp : p < 24) (tv : Option Nat) (ht : ∀ t, tv = some t → t < 8) : ∃ M' m', fX1_passOn M (nI p) (zo1 tv) = some M' ∧ fX7_receive_j63 m (nI p) (zo1 tv) (nI (S0 (21 + p))) (nI 4) = some m' ∧ FS sl sv S0 mk0 sg0 pt0 M' m' := by
  obtain ⟨b1, b2, b3, b4, b5, b6⟩ := w0.2.2.1 p hp
  obtain ⟨S, mk, sg, pt, j, q, hm, hpp, hS⟩ := id F
  have r3 : M.1 3 p = nI (S0 (21 + p)) := by rw [j.1.r3 p hp, hS _ (by omega)]
  obtain ⟨M1, m1, e1, e2, F1⟩ := f_flood w0 F b1 hp
  have fl1 : fX1_passOn_j48 M (nI p) (nI (S0 (21 + p))) = some M1 := by unfold fX1_passOn_j48; rw [e1]; rfl
  have fl2 : fX7_receive_j124 m (nI p) (nI (S0 (21 + p))) (nI 0) (-9) = some m1 := by
    unfold fX7_receive_j124
    rw [if_pos rfl]; exact e2
  unfold fX1_passOn fX7_receive_j63
  rw [if_pos rfl]
  simp (disch := omega) only [xrdN, r3]
  cases tv with
  | none =>
    refine ⟨M1, m1, ?_, ?_, F1⟩
    · rw [if_pos (show zo1 none = -1 from rfl)]
      unfold fX1_passOn_j28
      rw [if_pos rfl]
      exact fl1
    · rw [if_pos (show zo1 none < nI 0 by decide)]
      unfold fX7_receive_j97
      rw [if_pos rfl]
      exact fl2
  | some t =>
    have ht8 := ht t rfl
    have c1 : S0 (21 + p) * 8 + t = 8 * S0 (21 + p) + t := by omega
    have hk : 8 * S0 (21 + p) + t < 64 := by omega
    obtain ⟨l1, l2⟩ := j.2.2.2.2.1.2.2.2.2.2.2.2 (8 * S0 (21 + p) + t) hk
    have r13 := j.1.r13 _ hk
    have r12 := j.1.r12 _ hk
    have s13 := j.2.1 (357 + (8 * S0 (21 + p) + t)) (by omega)
    have s12 := j.2.1 (293 + (8 * S0 (21 + p) + t)) (by omega)
    simp only [show zo1 (some t) = nI t from rfl]
    unfold fX3_learnedPort fX3_entryIndex fX7_cell
    simp (disch := omega) only [qm1, if_false, qn0, ob, pk_mul, nI_add, c1, xrdN, r13, r12, s13, qle]
    by_cases d : S (357 + (8 * S0 (21 + p) + t)) ≤ 0
    · rw [if_pos d, if_pos d]
      refine ⟨M1, m1, ?_, ?_, F1⟩
      · simp only [ob]
        unfold fX1_passOn_j28
        rw [if_pos rfl]
        exact fl1
      · unfold fX7_receive_j97
        rw [if_pos rfl]
        exact fl2
    · rw [if_neg d, if_neg d]
      simp only [ob]
      generalize hw : S (293 + (8 * S0 (21 + p) + t)) = w at l1 r12 s12
      have r7 : M.1 7 w = nI (S0 (117 + w)) := by rw [j.1.r7 w l1, hS _ (by omega)]
      have t7 : m.1 1 (117 + w) = nI (S0 (117 + w)) := by rw [j.2.1 _ (by omega), hS _ (by omega)]
      have r4 : M.1 4 w = nI (S0 (45 + w)) := by rw [j.1.r4 w l1, hS _ (by omega)]
      have t4 : m.1 1 (45 + w) = nI (S0 (45 + w)) := by rw [j.2.1 _ (by omega), hS _ (by omega)]
      obtain ⟨c1', c2', c3', c4', c5', c6'⟩ := w0.2.2.1 w l1
      have ref1 : fX7_receive_j97 m (nI p) (nI t) (nI (S0 (21 + p))) (nI 1) = fX7_receive_j124 m (nI p) (nI (S0 (21 + p))) (nI 1) (nI w) := by
        unfold fX7_receive_j97 fX7_cell
        simp (disch := omega) only [n10f, if_false, ob, pk_mul, nI_add, xrdN, s12]
      rw [ref1]
      unfold fX1_passOn_j28 fX7_receive_j124 fX3_isForwarding
      simp only [n10f, if_false]
      simp (disch := omega) only [qm1, if_false, xrdN, r7, nI_add, t7, qeq, some_zb, ob, zb0, r4, t4]
      by_cases c : S0 (117 + w) = 4
      · rw [if_neg (fun z => z c), if_pos c]
        by_cases e : w = p
        · rw [if_pos e, if_pos e]
          exact ⟨M, m, rfl, rfl, F⟩
        · rw [if_neg e, if_neg e]
          obtain ⟨M2, m2, x1, x2, F2⟩ := f_tx F c2' (some w) (fun p z => by cases z; exact l1)
          have x1 : fX1_transmit M (nI (S0 (45 + w))) (nI w) = some M2 := x1
          have x2 : fX7_transmit m (nI (S0 (45 + w))) (nI w) = some m2 := x2
          rw [x1, x2]
          exact ⟨M2, m2, rfl, rfl, F2⟩
      · rw [if_pos c, if_neg c]
        exact ⟨M1, m1, fl1, e2, F1⟩
theorem f_visit (w0 : WF S0) (F : FS sl sv S0 mk0 sg0 pt0 M m) {p fm : Nat} (hp : p < 24) (hf : fm < 8) (tv : Option Nat) (ht : ∀ t, tv = some t → t < 8) : ∃ M' m', fX1_visitPort M (nI p) (nI fm) (zo1 tv) = some M' ∧ fX7_receive m (nI p) (nI fm) (zo1 tv) = some m' ∧ FS sl sv S0 mk0 sg0 pt0 M' m' := by
  obtain ⟨b1, b2, b3, b4, b5, b6⟩ := w0.2.2.1 p hp
  obtain ⟨S, mk, sg, pt, j, q, hm, hpp, hS⟩ := id F
  have r3 : M.1 3 p = nI (S0 (21 + p)) := by rw [j.1.r3 p hp, hS _ (by omega)]
  have r7 : M.1 7 p = nI (S0 (117 + p)) := by rw [j.1.r7 p hp, hS _ (by omega)]
  have t3 : fX7_bridgeOf m (nI p) = some (nI (S0 (21 + p))) := by rw [eR_br j.2.1 hp, hS _ (by omega)]
  have t7 : m.1 1 (117 + p) = nI (S0 (117 + p)) := by rw [j.2.1 _ (by omega), hS _ (by omega)]
  have c1 : S0 (21 + p) * 8 + fm = 8 * S0 (21 + p) + fm := by omega
  have hk : 8 * S0 (21 + p) + fm < 64 := by omega
  -- behind learning
  have after : ∀ (M m : xM), FS sl sv S0 mk0 sg0 pt0 M m → ∃ M' m', fX1_visitPort_j32 M (nI p) (zo1 tv) (nI (S0 (117 + p))) = some M' ∧ fX7_receive_j63 m (nI p) (zo1 tv) (nI (S0 (21 + p))) (nI (S0 (117 + p))) = some m' ∧ FS sl sv S0 mk0 sg0 pt0 M' m' := by
    intro M m F
    by_cases c : S0 (117 + p) = 4
    · obtain ⟨M', m', e1, e2, F'⟩ := f_pass w0 F hp tv ht
      refine ⟨M', m', ?_, ?_, F'⟩
      · unfold fX1_visitPort_j32
        rw [c, if_pos rfl, e1]; rfl
      · rw [c]; exact e2
    · refine ⟨M, m, ?_, ?_, F⟩
      · unfold fX1_visitPort_j32
        simp (disch := omega) only [qeq]
        exact if_neg c
      · unfold fX7_receive_j63
        simp (disch := omega) only [qeq]
        exact if_neg c
  have learn : ∃ M' m', fX1_visitPort_j23 M (nI p) (nI fm) (zo1 tv) (nI (S0 (117 + p))) = some M' ∧ fX7_receive_j30 m (nI p) (nI fm) (zo1 tv) (nI (S0 (21 + p))) (nI (S0 (117 + p))) = some m' ∧ FS sl sv S0 mk0 sg0 pt0 M' m' := by
    have j1 := j.e (r := 12) (o := 293) (n := 64) (i := 8 * S0 (21 + p) + fm) (v := p) (by decide) (by decide) hk (by omega)
    have j2 := j1.e (r := 13) (o := 357) (n := 64) (i := 8 * S0 (21 + p) + fm) (v := 10) (by decide) (by decide) hk (by omega)
    have q2 : QQ mk sg pt (xI (xI M 12 (8 * S0 (21 + p) + fm) (nI p)) 13 (8 * S0 (21 + p) + fm) (nI 10)) (xI (xI m 1 (293 + (8 * S0 (21 + p) + fm)) (nI p)) 1 (357 + (8 * S0 (21 + p) + fm)) (nI 10)) := by
      refine q.fr ?_ ?_ ?_ ?_ ?_ ?_
      · rw [rIn _ _ _ (by decide), rIn _ _ _ (by decide)]
      · rw [rIn _ _ _ (by decide), rIn _ _ _ (by decide)]
      · rw [rIn _ _ _ (by decide), rIn _ _ _ (by decide)]
      · rw [rIn _ _ _ (by decide), rIn _ _ _ (by decide)]
      · rw [rIn _ _ _ (by decide), rIn _ _ _ (by decide)]
      · rw [rIn _ _ _ (by decide), rIn _ _ _ (by decide)]
    obtain ⟨M', m', e1, e2, F'⟩ := after _ _ ⟨_, mk, sg, pt, j2, q2, hm, hpp, fun i hi => by rw [upS_n _ _ (by omega), upS_n _ _ (by omega)]; exact hS i hi⟩
    refine ⟨M', m', ?_, ?_, F'⟩
    · unfold fX1_visitPort_j23 fX3_learn fX3_entryIndex
      simp (disch := omega) only [xrdN, r3, ob, pk_mul, nI_add, c1, xwIN]
      exact e1
    · unfold fX7_receive_j30 fX7_cell
      simp (disch := omega) only [ob, pk_mul, nI_add, xwIN]
      exact e2
  unfold fX1_visitPort fX7_receive
  simp (disch := omega) only [xrdN, r7, t3, ob, nI_add, t7, qeq]
  by_cases d3 : S0 (117 + p) = 3
  · rw [if_pos d3, if_pos d3]; exact learn
  rw [if_neg d3, if_neg d3]
  by_cases d4 : S0 (117 + p) = 4
  · rw [if_pos d4, if_pos d4]; exact learn
  rw [if_neg d4, if_neg d4]
  exact after M m F
theorem f_visits (w0 : WF S0) (F : FS sl sv S0 mk0 sg0 pt0 M m) {kx fm : Nat} (hkx : kx < mk0) (hf : fm < 8) (tv : Option Nat) (ht : ∀ t, tv = some t → t < 8) (hs : sg0 kx < 10) (hpt : ∀ p, pt0 kx = some p → p < 24) (hmk : mk0 ≤ 64) : ∃ M' m', fX1_visitPorts M (nI (sg0 kx)) (zo1 (pt0 kx)) (nI fm) (zo1 tv) = some M' ∧ (∀ K, fX7_send_L83 (nI fm) (zo1 tv) (nI kx) K 512 m (nI 0) = K m') ∧ FS sl sv S0 mk0 sg0 pt0 M' m' := by
  obtain ⟨w00, w01, w02, w03⟩ := w0.1
  have key : ∀ (d i n : Nat) (M m : xM), FS sl sv S0 mk0 sg0 pt0 M m → S0 2 = i + d → d < n → ∃ M' m', (∀ k, fX1_visitPorts_L3 (nI (sg0 kx)) (zo1 (pt0 kx)) (nI fm) (zo1 tv) k n M (nI i) = k M') ∧ (∀ k, fX7_send_L83 (nI fm) (zo1 tv) (nI kx) k n m (nI i) = k m') ∧ FS sl sv S0 mk0 sg0 pt0 M' m' := by
    intro d
    induction d with
    | zero =>
      intro i n M m F he hn
      obtain ⟨n, rfl⟩ : ∃ k, n = k + 1 := ⟨n - 1, by omega⟩
      obtain ⟨S, mk, sg, pt, j, q, hm, hpp, hS⟩ := id F
      have n2 : M.1 0 2 = nI (S0 2) := by rw [j.1.n2, hS 2 (by omega)]
      have np : fX7_ports m = some (nI (S0 2)) := by rw [eR_ports j.2.1, hS 2 (by omega)]
      refine ⟨M, m, fun k => ?_, fun k => ?_, F⟩
      · show fX1_visitPorts_B3 _ _ _ _ k M (nI i) _ = _
        unfold fX1_visitPorts_B3
        simp (disch := omega) only [n2, qle]
        rw [if_pos (by omega)]
      · show fX7_send_B83 _ _ _ k m (nI i) _ = _
        unfold fX7_send_B83
        simp (disch := omega) only [np, ob, qle]
        rw [if_pos (by omega)]
    | succ d ih =>
      intro i n M m F he hn
      obtain ⟨n, rfl⟩ : ∃ k, n = k + 1 := ⟨n - 1, by omega⟩
      obtain ⟨S, mk, sg, pt, j, q, hm, hpp, hS⟩ := id F
      have hi24 : i < 24 := by omega
      have n2 : M.1 0 2 = nI (S0 2) := by rw [j.1.n2, hS 2 (by omega)]
      have np : fX7_ports m = some (nI (S0 2)) := by rw [eR_ports j.2.1, hS 2 (by omega)]
      have r4 : M.1 4 i = nI (S0 (45 + i)) := by rw [j.1.r4 i hi24, hS _ (by omega)]
      have t4 : m.1 1 (45 + i) = nI (S0 (45 + i)) := by rw [j.2.1 _ (by omega), hS _ (by omega)]
      obtain ⟨b1, b2, b3, b4, b5, b6⟩ := w0.2.2.1 i hi24
      obtain ⟨x1, x2, x3, x4, x5, x6⟩ := q.2.2.2 kx (by omega)
      rw [(hpp kx hkx).1] at x3
      rw [(hpp kx hkx).2] at x4
      have eqS : EqS S0 S := fun i hi => hS i (by omega)
      have act := zAct_ag w0 eqS hi24
      have ca : fX3_isActive M (nI i) = some (zb (zAct S0 i)) := by
        rw [eC_act j.1 j.2.2.2.2.1 hi24]
        by_cases a : zAct S0 i
        · rw [zbt a, zbt (act.mpr a)]
        · rw [zbf a, zbf (fun z => a (act.mp z))]
      have ra : fX7_isActive m (nI i) = some (zb (zAct S0 i)) := by
        rw [eR_act j.2.1 j.2.2.2.2.1 hi24]
        by_cases a : zAct S0 i
        · rw [zbt a, zbt (act.mpr a)]
        · rw [zbf a, zbf (fun z => a (act.mp z))]
      have p1 : (nI i = zo1 (pt0 kx)) = (pt0 kx = some i) := by
        rw [← zo1_eq (o := pt0 kx) (p := i) (fun q z => by have := hpt q z; omega) (by omega)]
        exact propext ⟨Eq.symm, Eq.symm⟩
      have p9 : (nI i = zo9 (pt0 kx)) = (pt0 kx = some i) := by
        rw [← zo9_eq (o := pt0 kx) (p := i) (fun q z => by have := hpt q z; omega) (by omega)]
        exact propext ⟨Eq.symm, Eq.symm⟩
      have cls : ∀ k, fX1_visitPorts_L3 (nI (sg0 kx)) (zo1 (pt0 kx)) (nI fm) (zo1 tv) k (n + 1) M (nI i) = if S0 (45 + i) = sg0 kx ∧ pt0 kx ≠ some i ∧ zAct S0 i then ((fX1_visitPort M (nI i) (nI fm) (zo1 tv)).bind fun z4 => fX1_visitPorts_L3 (nI (sg0 kx)) (zo1 (pt0 kx)) (nI fm) (zo1 tv) k n z4 (nI (i + 1))) else fX1_visitPorts_L3 (nI (sg0 kx)) (zo1 (pt0 kx)) (nI fm) (zo1 tv) k n M (nI (i + 1)) := by
        intro k
        show fX1_visitPorts_B3 _ _ _ _ k M (nI i) _ = _
        unfold fX1_visitPorts_B3
        simp (disch := omega) only [n2, qle, xrdN, r4, qeq, p1, ca, ob, zb0, nI_add]
        rw [if_neg (show ¬ S0 2 ≤ i by omega)]
        by_cases c1 : S0 (45 + i) = sg0 kx
        · rw [if_pos c1]
          by_cases c2 : pt0 kx = some i
          · rw [if_pos c2, if_neg (fun z => z.2.1 c2)]
          · rw [if_neg c2]
            by_cases c3 : zAct S0 i
            · rw [if_neg (fun z => z c3), if_pos ⟨c1, c2, c3⟩]
            · rw [if_pos c3, if_neg (fun z => c3 z.2.2)]
        · rw [if_neg c1, if_neg (fun z => c1 z.1)]
      have ref : ∀ k, fX7_send_L83 (nI fm) (zo1 tv) (nI kx) k (n + 1) m (nI i) = if S0 (45 + i) = sg0 kx ∧ pt0 kx ≠ some i ∧ zAct S0 i then ((fX7_receive m (nI i) (nI fm) (zo1 tv)).bind fun z4 => fX7_send_L83 (nI fm) (zo1 tv) (nI kx) k n z4 (nI (i + 1))) else fX7_send_L83 (nI fm) (zo1 tv) (nI kx) k n m (nI (i + 1)) := by
        intro k
        show fX7_send_B83 _ _ _ k m (nI i) _ = _
        unfold fX7_send_B83
        simp (disch := omega) only [np, ob, qle, xrdN, x3, x4, p9, nI_add, t4, qeq, ra, zb0]
        rw [if_neg (show ¬ S0 2 ≤ i by omega)]
        by_cases c2 : pt0 kx = some i
        · rw [if_pos c2, if_neg (fun z => z.2.1 c2)]
        · rw [if_neg c2]
          by_cases c1 : S0 (45 + i) = sg0 kx
          · rw [if_pos c1]
            by_cases c3 : zAct S0 i
            · rw [if_neg (fun z => z c3), if_pos ⟨c1, c2, c3⟩]
            · rw [if_pos c3, if_neg (fun z => c3 z.2.2)]
          · rw [if_neg c1, if_neg (fun z => c1 z.1)]
      by_cases c : S0 (45 + i) = sg0 kx ∧ pt0 kx ≠ some i ∧ zAct S0 i
      · obtain ⟨M1, m1, e1, e2, F1⟩ := f_visit w0 F hi24 hf tv ht
        obtain ⟨M', m', k1, k2, F'⟩ := ih (i + 1) n M1 m1 F1 (by omega) (by omega)
        refine ⟨M', m', fun k => ?_, fun k => ?_, F'⟩
        · rw [cls k, if_pos c, e1]; exact k1 k
        · rw [ref k, if_pos c, e2]; exact k2 k
      · obtain ⟨M', m', k1, k2, F'⟩ := ih (i + 1) n M m F (by omega) (by omega)
        refine ⟨M', m', fun k => ?_, fun k => ?_, F'⟩
        · rw [cls k, if_neg c]; exact k1 k
        · rw [ref k, if_neg c]; exact k2 k
  obtain ⟨M', m', k1, k2, F'⟩ := key (S0 2) 0 512 M m F (by omega) (by omega)
  unfold fX1_visitPorts
  exact ⟨M', m', k1 _, k2, F'⟩
theorem f_loop {fm : Nat} (hf : fm < 8) (tv : Option Nat) (ht : ∀ t, tv = some t → t < 8) : ∀ (d i n mk : Nat) (S : Nat → Nat) (sg : Nat → Nat) (pt : Nat → Option Nat) (M m : xM), J S sl sv M m → QQ mk sg pt M m → 64 = i + d → d < n → i ≤ mk → ∃ (M' m' : xM) (S' : Nat → Nat) (mk' : Nat) (sg' : Nat → Nat) (pt' : Nat → Option Nat), J S' sl sv M' m' ∧ QQ mk' sg' pt' M' m' ∧ (∀ k, fX1_deliver_L45 (nI fm) (zo1 tv) k n M (nI i) = k M') ∧ ∀ k, fX7_send_L72 (nI fm) (zo1 tv) k n m (nI i) = k m' := by
  intro d
  induction d with
  | zero =>
    intro i n mk S sg pt M m j q he hn hi
    obtain ⟨n, rfl⟩ : ∃ k, n = k + 1 := ⟨n - 1, by omega⟩
    have q3 := q.2.2.1
    refine ⟨M, m, S, mk, sg, pt, j, q, fun k => ?_, fun k => ?_⟩
    · show fX1_deliver_B45 _ _ k M (nI i) _ = _
      unfold fX1_deliver_B45
      rw [q.1]
      simp (disch := omega) only [qle]
      rw [if_pos (by omega)]
    · show fX7_send_B72 _ _ k m (nI i) _ = _
      unfold fX7_send_B72
      rw [q.2.1]
      simp (disch := omega) only [qle]
      rw [if_pos (by omega)]
  | succ d ih =>
    intro i n mk S sg pt M m j q he hn hi
    obtain ⟨n, rfl⟩ : ∃ k, n = k + 1 := ⟨n - 1, by omega⟩
    have q3 := q.2.2.1
    by_cases c : mk ≤ i
    · refine ⟨M, m, S, mk, sg, pt, j, q, fun k => ?_, fun k => ?_⟩
      · show fX1_deliver_B45 _ _ k M (nI i) _ = _
        unfold fX1_deliver_B45
        rw [q.1]
        simp (disch := omega) only [qle]
        rw [if_pos c]
      · show fX7_send_B72 _ _ k m (nI i) _ = _
        unfold fX7_send_B72
        rw [q.2.1]
        simp (disch := omega) only [qle]
        rw [if_pos c]
    · obtain ⟨x1, x2, x3, x4, x5, x6⟩ := q.2.2.2 i (by omega)
      have w := j.2.2.2.2.1
      obtain ⟨M1, m1, e1, e2, F1⟩ := f_visits w (S0 := S) (mk0 := mk) (sg0 := sg) (pt0 := pt) ⟨S, mk, sg, pt, j, q, Nat.le_refl _, fun _ _ => ⟨rfl, rfl⟩, fun _ _ => rfl⟩ (show i < mk by omega) hf tv ht x5 x6 q3
      obtain ⟨S1, mk1, sg1, pt1, j1, q1, h1, -, -⟩ := F1
      obtain ⟨M', m', S', mk', sg', pt', j', q', k1, k2⟩ := ih (i + 1) n mk1 S1 sg1 pt1 M1 m1 j1 q1 (by omega) (by omega) (by omega)
      refine ⟨M', m', S', mk', sg', pt', j', q', fun k => ?_, fun k => ?_⟩
      · show fX1_deliver_B45 _ _ k M (nI i) _ = _
        unfold fX1_deliver_B45
        rw [q.1]
        simp (disch := omega) only [qle, xrdN, x1, x2, e1, ob, nI_add]
        rw [if_neg c, if_neg (by omega)]
        exact k1 k
      · show fX7_send_B72 _ _ k m (nI i) _ = _
        unfold fX7_send_B72
        rw [q.2.1]
        simp (disch := omega) only [qle, e2, nI_add]
        rw [if_neg c]
        exact k2 k
theorem f_deliver (j : J S sl sv M m) {fm : Nat} (hf : fm < S 3) (tv : Option Nat) (ht : ∀ t, tv = some t → t < S 3) : Rs sl sv (fX1_deliver M (nI fm) (zo1 tv)) (fX7_send_j24 m (nI fm) (zo1 tv)) := by
  obtain ⟨h, g, g2, g3, w, q⟩ := id j
  obtain ⟨w0, w1, w2, w3⟩ := w.1
  have hf8 : fm < 8 := by omega
  have ht8 : ∀ t, tv = some t → t < 8 := fun t z => by have := ht t z; omega
  -- clearing the row of transmissions
  have clr : ∃ s : xM × xM, (∃ S1, J S1 sl sv s.1 s.2 ∧ (∀ i, i < 421 → S1 i = S i) ∧ s.1.1 27 0 = nI 0) ∧ (∀ k, fX1_deliver_L7 (nI fm) (zo1 tv) k 512 (xI M 27 0 (nI 0)) (nI 0) = k s.1) ∧ ∀ k, fX7_send_L26 (nI fm) (zo1 tv) k 512 m (nI 0) = k s.2 := by
    have key : ∀ (d i n : Nat) (M m : xM), (∃ S1, J S1 sl sv M m ∧ (∀ i, i < 421 → S1 i = S i) ∧ M.1 27 0 = nI 0) → 10 = i + d → d < n → ∃ s : xM × xM, (∃ S1, J S1 sl sv s.1 s.2 ∧ (∀ i, i < 421 → S1 i = S i) ∧ s.1.1 27 0 = nI 0) ∧ (∀ k, fX1_deliver_L7 (nI fm) (zo1 tv) k n M (nI i) = k s.1) ∧ ∀ k, fX7_send_L26 (nI fm) (zo1 tv) k n m (nI i) = k s.2 := by
      intro d
      induction d with
      | zero =>
        intro i n M m hj he hn
        obtain ⟨n, rfl⟩ : ∃ k, n = k + 1 := ⟨n - 1, by omega⟩
        refine ⟨(M, m), hj, fun k => ?_, fun k => ?_⟩
        · show fX1_deliver_B7 _ _ k M (nI i) _ = _
          unfold fX1_deliver_B7
          simp (disch := omega) only [qle]
          rw [if_pos (by omega)]
        · show fX7_send_B26 _ _ k m (nI i) _ = _
          unfold fX7_send_B26
          simp (disch := omega) only [qle]
          rw [if_pos (by omega)]
      | succ d ih =>
        intro i n M m hj he hn
        obtain ⟨n, rfl⟩ : ∃ k, n = k + 1 := ⟨n - 1, by omega⟩
        obtain ⟨S1, j1, o1, z1⟩ := hj
        have j2 := j1.e (r := 14) (o := 421) (n := 10) (i := i) (v := 0) (by decide) (by decide) (by omega) (by omega)
        obtain ⟨s, c1, c2, c3⟩ := ih (i + 1) n (xI M 14 i (nI 0)) (xI m 1 (421 + i) (nI 0)) ⟨_, j2, fun a ha => by rw [upS_n _ _ (by omega)]; exact o1 a ha, by rw [rIn _ _ _ (by decide)]; exact z1⟩ (by omega) (by omega)
        refine ⟨s, c1, fun k => ?_, fun k => ?_⟩
        · show fX1_deliver_B7 _ _ k M (nI i) _ = _
          unfold fX1_deliver_B7
          simp (disch := omega) only [qle, xwIN, nI_add]
          rw [if_neg (by omega)]
          exact c2 k
        · show fX7_send_B26 _ _ k m (nI i) _ = _
          unfold fX7_send_B26
          simp (disch := omega) only [qle, nI_add, xwIN]
          rw [if_neg (by omega)]
          exact c3 k
    exact key 10 0 512 _ _ ⟨S, j.frC (Fq.rf.I (ks := [27]) (js := []) (by decide) _ _) (by decide) (by decide), fun _ _ => rfl, by rw [rI1, us]⟩ (by omega) (by omega)
  obtain ⟨s, ⟨S1, j1, o1, z1⟩, e1, e2⟩ := clr
  have j2 : J S1 sl sv s.1 (xI s.2 0 0 (nI 0)) := j1.frR (Fq.rf.I (ks := [0]) (js := []) (by decide) _ _) (by decide) (by decide) (by decide)
  have hseg : S1 (285 + fm) < 10 := j2.2.2.2.2.1.2.2.2.2.2.2.1 fm hf8
  have F : FS sl sv S1 0 (fun _ => 0) (fun _ => none) s.1 (xI s.2 0 0 (nI 0)) := ⟨S1, 0, fun _ => 0, fun _ => none, j2, ⟨z1, by rw [rI1, us], by omega, fun k hk => by omega⟩, Nat.le_refl _, fun k hk => by omega, fun _ _ => rfl⟩
  obtain ⟨M2, m2, t1, t2, F2⟩ := f_tx F hseg none (fun p z => by cases z)
  obtain ⟨S2, mk2, sg2, pt2, j3, q3, -, -, -⟩ := F2
  obtain ⟨M', m', S', mk', sg', pt', j', q', k1, k2⟩ := f_loop hf8 tv ht8 64 0 512 mk2 S2 sg2 pt2 M2 m2 j3 q3 (by omega) (by omega) (by omega)
  have r11 : s.1.1 11 fm = nI (S1 (285 + fm)) := j1.1.r11 fm hf8
  have s285 : (xI s.2 0 0 (nI 0)).1 1 (285 + fm) = nI (S1 (285 + fm)) := j2.2.1 _ (by omega)
  have t1 : fX1_transmit s.1 (nI (S1 (285 + fm))) (-1) = some M2 := t1
  have t2 : fX7_transmit (xI s.2 0 0 (nI 0)) (nI (S1 (285 + fm))) (-9) = some m2 := t2
  unfold fX1_deliver fX7_send_j24 fX1_deliver_j83
  simp (disch := omega) only [xpf, e1, e2, xrdN, r11, t1, t2, nI_add, s285, ob, k1, k2]
  exact ⟨nI mk', M', m', S', by rw [q'.1], by rw [q'.2.1], j'⟩
theorem s_send (j : J S sl sv M m) (x y : Int32) : Rs sl sv (fX6_send M x y) (fX7_send m x y) := by
  obtain ⟨h, g, g2, g3, w, q⟩ := id j
  unfold fX6_send fX7_send
  rcases Or.symm (sS h g w x) with ⟨e1, e2⟩ | ⟨fm, hf, rfl, e1, e2⟩
  · rw [e1, e2]; exact Rs.same j
  rw [e1, e2]
  simp only [ob, n10f, if_false]
  have fin : ∀ tv : Option Nat, (∀ t, tv = some t → t < S 3) → Rs sl sv (fX6_send_j33 M (nI fm) (zo1 tv)) (fX7_send_j24 m (nI fm) (zo1 tv)) := by
    intro tv ht
    obtain ⟨r, M', m', S', d1, d2, j'⟩ := f_deliver j hf tv ht
    unfold fX6_send_j33
    rw [d1, d2]
    exact ⟨r, M', m', S', rfl, rfl, j'⟩
  by_cases c : y = (-1)
  · rw [if_pos c, if_pos c]
    subst c
    exact fin none (fun t z => by cases z)
  · rw [if_neg c, if_neg c]
    rcases Or.symm (sS h g w y) with ⟨e3, e4⟩ | ⟨t, ht, rfl, e3, e4⟩
    · rw [e3, e4]; exact Rs.same j
    rw [e3, e4]
    simp only [ob, n10f, if_false]
    exact fin (some t) (fun t' z => by cases z; exact ht)
end FR
