section OW
variable {S : Nat → Nat} {M m : xM} {sl sv : Nat → Int32}
theorem s_addBridge (j : J S sl sv M m) (x : Int32) : Rs sl sv (fX6_addBridge M x) (fX7_addBridge m x) := by
  obtain ⟨h, g, g2, g3, w, q⟩ := id j
  obtain ⟨w0, w1, w2, w3⟩ := w.1
  unfold fX6_addBridge fX7_addBridge
  rcases sPr M m x with ⟨v, h1, h2, rfl, e1, e2⟩ | ⟨e1, e2⟩
  · rw [e1, e2]
    simp only [ob, n10f, if_false]
    simp (disch := omega) only [xrdN, g 0 (by decide), h.n0, qeq, qlt]
    by_cases c : S 0 = 8
    · rw [if_neg (by omega), if_pos c]; exact Rs.same j
    · rw [if_pos (by omega), if_neg c]
      unfold fX3_appendBridge
      simp (disch := omega) only [nI_add, xwIN, xrdN, h.n0, ob, xpf, rIn _ _ _ (show 0 ≠ 2 by decide), rIn _ _ _ (show 0 ≠ 1 by decide)]
      have r0 : (xI (xI m 1 (5 + S 0) (nI v)) 1 (13 + S 0) (nI 1)).1 1 0 = nI (S 0) := by
        rw [rI1, rI1, un _ _ (by omega), un _ _ (by omega)]; exact g 0 (by decide)
      simp (disch := omega) only [r0, nI_add]
      have A := ((h.up (k := 1) (o := 5) (n := 8) (i := S 0) (v := v) (by decide) (by omega) (by decide)).up (k := 2) (o := 13) (n := 8) (i := S 0) (v := 1) (by decide) (by omega) (by decide)).up (k := 0) (o := 0) (n := 5) (i := 0) (v := S 0 + 1) (by decide) (by omega) (by decide)
      have B := ((g.up (j := 5 + S 0) (v := v)).up (j := 13 + S 0) (v := 1)).up (j := 0) (v := S 0 + 1)
      have t : ∀ i, upS (upS (upS S (5 + S 0) v) (13 + S 0) 1) 0 (S 0 + 1) i = if i = 0 then S 0 + 1 else if i = 13 + S 0 then 1 else if i = 5 + S 0 then v else S i := fun _ => rfl
      refine ⟨_, _, _, upS (upS (upS S (5 + S 0) v) (13 + S 0) 1) 0 (S 0 + 1), rfl, rfl, A, B, ?_, ?_, ?_, ?_⟩
      · rw [rIn _ _ _ (by decide), rIn _ _ _ (by decide), rIn _ _ _ (by decide)]; exact g2
      · rw [rIn _ _ _ (by decide), rIn _ _ _ (by decide), rIn _ _ _ (by decide)]; exact g3
      · generalize hT : upS (upS (upS S (5 + S 0) v) (13 + S 0) 1) 0 (S 0 + 1) = T at t
        have o : ∀ i, i ≠ 0 → i ≠ 13 + S 0 → i ≠ 5 + S 0 → T i = S i := fun i z1 z2 z3 => by rw [t, if_neg z1, if_neg z2, if_neg z3]
        obtain ⟨a1, a2, a3, a4, a5, a6, a7, a8⟩ := w
        refine ⟨?_, ?_, ?_, ?_, ?_, ?_, ?_, ?_⟩
        · rw [t 0, if_pos rfl, o 1 (by omega) (by omega) (by omega), o 2 (by omega) (by omega) (by omega), o 3 (by omega) (by omega) (by omega)]; omega
        · intro b hb
          have := a2 b hb
          rw [t (5 + b), t (13 + b), if_neg (by omega), if_neg (by omega), if_neg (show ¬ 13 + b = 0 by omega)]
          by_cases d : b = S 0
          · subst d; rw [if_pos rfl, if_pos rfl]; omega
          · rw [if_neg (by omega), if_neg (by omega), if_neg (by omega)]; exact this
        · intro p hp
          unfold zM
          rw [o (21 + p) (by omega) (by omega) (by omega), o (45 + p) (by omega) (by omega) (by omega), o (69 + p) (by omega) (by omega) (by omega), o (93 + p) (by omega) (by omega) (by omega), o (117 + p) (by omega) (by omega) (by omega), o (165 + 5 * p + 4) (by omega) (by omega) (by omega)]
          exact a3 p hp
        · intro p hp
          rw [o 2 (by omega) (by omega) (by omega)] at hp
          have := a4 p hp
          rw [o (21 + p) (by omega) (by omega) (by omega), o (45 + p) (by omega) (by omega) (by omega), t 0, if_pos rfl, o 1 (by omega) (by omega) (by omega)]
          omega
        · intro p hp
          rw [o (117 + p) (by omega) (by omega) (by omega), o (141 + p) (by omega) (by omega) (by omega)]
          exact a5 p hp
        · intro p hp
          unfold zM
          rw [o (165 + 5 * p + 0) (by omega) (by omega) (by omega), o (165 + 5 * p + 1) (by omega) (by omega) (by omega), o (165 + 5 * p + 2) (by omega) (by omega) (by omega), o (165 + 5 * p + 3) (by omega) (by omega) (by omega), o (165 + 5 * p + 4) (by omega) (by omega) (by omega)]
          exact a6 p hp
        · intro s hs
          rw [o _ (by omega) (by omega) (by omega)]; exact a7 s hs
        · intro k hk
          rw [o (293 + k) (by omega) (by omega) (by omega), o (357 + k) (by omega) (by omega) (by omega)]; exact a8 k hk
      · intro p hp hs
        have b1 := (w.2.2.1 p hp).1
        rw [t, if_neg (by omega), if_neg (by omega), if_neg (by omega)] at hs
        have z := (q p hp hs).2
        refine ⟨by rw [t 2, if_neg (by omega), if_neg (by omega), if_neg (by omega)]; exact (q p hp hs).1, ?_⟩
        unfold zAct
        rw [t (93 + p), t (21 + p), if_neg (by omega), if_neg (by omega), if_neg (by omega), if_neg (by omega), if_neg (by omega), if_neg (by omega), t (13 + S (21 + p)), if_neg (by omega)]
        refine ⟨z.1, ?_⟩
        by_cases d : S (21 + p) = S 0
        · rw [if_pos (by omega)]
        · rw [if_neg (by omega), if_neg (by omega)]; exact z.2
  · rw [e1, e2]; exact Rs.same j
theorem s_addSegment (j : J S sl sv M m) : Rs sl sv (fX6_addSegment M) (fX7_addSegment m) := by
  obtain ⟨h, g, g2, g3, w, q⟩ := id j
  obtain ⟨w0, w1, w2, w3⟩ := w.1
  unfold fX6_addSegment fX7_addSegment
  simp (disch := omega) only [xrdN, g 1 (by decide), h.n1, qeq, qlt]
  by_cases c : S 1 = 10
  · rw [if_neg (by omega), if_pos c]; exact Rs.same j
  · rw [if_pos (by omega), if_neg c]
    unfold fX3_appendSegment
    simp (disch := omega) only [nI_add, xwIN, xrdN, h.n1, ob, xpf, rI1, us, pk_sub]
    have A := h.up (k := 0) (o := 0) (n := 5) (i := 1) (v := S 1 + 1) (by decide) (by omega) (by decide)
    have B := g.up (j := 1) (v := S 1 + 1)
    refine ⟨nI (S 1), _, _, upS S 1 (S 1 + 1), rfl, by rw [show S 1 + 1 - 1 = S 1 by omega], A, B, ?_, ?_, ?_, ?_⟩
    · rw [rIn _ _ _ (by decide)]; exact g2
    · rw [rIn _ _ _ (by decide)]; exact g3
    · have o : ∀ i, i ≠ 1 → upS S 1 (S 1 + 1) i = S i := fun i z => upS_n _ _ z
      have o1 : upS S 1 (S 1 + 1) 1 = S 1 + 1 := upS_s _ _ _
      generalize upS S 1 (S 1 + 1) = T at o o1
      obtain ⟨a1, a2, a3, a4, a5, a6, a7, a8⟩ := w
      refine ⟨?_, ?_, ?_, ?_, ?_, ?_, ?_, ?_⟩
      · rw [o1, o 0 (by omega), o 2 (by omega), o 3 (by omega)]; omega
      · intro b hb; rw [o _ (by omega), o _ (by omega)]; exact a2 b hb
      · intro p hp
        unfold zM
        rw [o (21 + p) (by omega), o (45 + p) (by omega), o (69 + p) (by omega), o (93 + p) (by omega), o (117 + p) (by omega), o (165 + 5 * p + 4) (by omega)]
        exact a3 p hp
      · intro p hp
        rw [o 2 (by omega)] at hp
        have := a4 p hp
        rw [o (21 + p) (by omega), o (45 + p) (by omega), o1, o 0 (by omega)]
        omega
      · intro p hp; rw [o _ (by omega), o _ (by omega)]; exact a5 p hp
      · intro p hp
        unfold zM
        rw [o (165 + 5 * p + 0) (by omega), o (165 + 5 * p + 1) (by omega), o (165 + 5 * p + 2) (by omega), o (165 + 5 * p + 3) (by omega), o (165 + 5 * p + 4) (by omega)]
        exact a6 p hp
      · intro s hs; rw [o _ (by omega)]; exact a7 s hs
      · intro k hk; rw [o _ (by omega), o _ (by omega)]; exact a8 k hk
    · intro p hp hs
      have b1 := (w.2.2.1 p hp).1
      rw [upS_n _ _ (by omega)] at hs
      refine ⟨by rw [upS_n _ _ (by omega)]; exact (q p hp hs).1, ?_⟩
      unfold zAct
      rw [upS_n _ _ (by omega), upS_n (j := 21 + p) _ _ (by omega), upS_n _ _ (by omega)]
      exact (q p hp hs).2
theorem wf_one (w : WF S) {k v : Nat} (hk : (∃ b, b < 8 ∧ k = 5 + b ∧ v ≤ 15) ∨ (∃ p, p < 24 ∧ k = 69 + p ∧ v ≤ 100) ∨ (∃ s, s < 8 ∧ k = 285 + s ∧ v < 10)) : WF (upS S k v) := by
  have o : ∀ i, i ≠ k → upS S k v i = S i := fun i z => upS_n _ _ z
  have o1 : upS S k v k = v := upS_s _ _ _
  have kk : (5 ≤ k ∧ k < 13) ∨ (69 ≤ k ∧ k < 93) ∨ (285 ≤ k ∧ k < 293) := by
    rcases hk with ⟨b, h1, h2, h3⟩ | ⟨b, h1, h2, h3⟩ | ⟨b, h1, h2, h3⟩ <;> omega
  generalize upS S k v = T at o o1
  obtain ⟨a1, a2, a3, a4, a5, a6, a7, a8⟩ := w
  refine ⟨?_, ?_, ?_, ?_, ?_, ?_, ?_, ?_⟩
  · rw [o 0 (by omega), o 1 (by omega), o 2 (by omega), o 3 (by omega)]; exact a1
  · intro b hb
    have := a2 b hb
    rw [o (13 + b) (by omega)]
    by_cases d : 5 + b = k
    · rw [d, o1]
      rcases hk with ⟨b', h1, h2, h3⟩ | ⟨b', h1, h2, h3⟩ | ⟨b', h1, h2, h3⟩ <;> omega
    · rw [o _ d]; exact this
  · intro p hp
    have := a3 p hp
    unfold zM at this ⊢
    rw [o (21 + p) (by omega), o (45 + p) (by omega), o (93 + p) (by omega), o (117 + p) (by omega), o (165 + 5 * p + 4) (by omega)]
    by_cases d : 69 + p = k
    · rw [d, o1]
      rcases hk with ⟨b', h1, h2, h3⟩ | ⟨b', h1, h2, h3⟩ | ⟨b', h1, h2, h3⟩ <;> omega
    · rw [o _ d]; exact this
  · intro p hp
    rw [o 2 (by omega)] at hp
    have : S 2 ≤ 24 := a1.2.2.1
    rw [o (21 + p) (by omega), o (45 + p) (by omega), o 0 (by omega), o 1 (by omega)]
    exact a4 p hp
  · intro p hp; rw [o _ (by omega), o _ (by omega)]; exact a5 p hp
  · intro p hp
    unfold zM
    rw [o (165 + 5 * p + 0) (by omega), o (165 + 5 * p + 1) (by omega), o (165 + 5 * p + 2) (by omega), o (165 + 5 * p + 3) (by omega), o (165 + 5 * p + 4) (by omega)]
    exact a6 p hp
  · intro s hs
    have := a7 s hs
    by_cases d : 285 + s = k
    · rw [d, o1]
      rcases hk with ⟨b', h1, h2, h3⟩ | ⟨b', h1, h2, h3⟩ | ⟨b', h1, h2, h3⟩ <;> omega
    · rw [o _ d]; exact this
  · intro i hi; rw [o _ (by omega), o _ (by omega)]; exact a8 i hi
theorem wq_one (w : WF S) (q : WQ S) {k v : Nat} (kk : (5 ≤ k ∧ k < 13) ∨ (69 ≤ k ∧ k < 93) ∨ (285 ≤ k ∧ k < 293)) : WQ (upS S k v) := by
  intro p hp hs
  have b1 := (w.2.2.1 p hp).1
  rw [upS_n _ _ (by omega)] at hs
  refine ⟨by rw [upS_n _ _ (by omega)]; exact (q p hp hs).1, ?_⟩
  unfold zAct
  rw [upS_n _ _ (by omega), upS_n (j := 21 + p) _ _ (by omega), upS_n _ _ (by omega)]
  exact (q p hp hs).2
theorem s_setPriority (j : J S sl sv M m) (x y : Int32) : Rs sl sv (fX6_setPriority M x y) (fX7_setPriority m x y) := by
  obtain ⟨h, g, g2, g3, w, q⟩ := id j
  obtain ⟨w0, w1, w2, w3⟩ := w.1
  unfold fX6_setPriority fX7_setPriority
  rcases sB h g w x with ⟨b, h1, rfl, e1, e2⟩ | ⟨e1, e2⟩
  · rw [e1, e2]
    simp only [ob, n10f, if_false]
    rcases sPr M m y with ⟨v, h3, h4, rfl, e3, e4⟩ | ⟨e3, e4⟩
    · rw [e3, e4]
      unfold fX7_set
      simp (disch := omega) only [ob, n10f, if_false, nI_add, xrdN, xwIN, h.r1, g (5 + b) (by omega)]
      refine ⟨_, _, _, upS S (5 + b) v, rfl, rfl, h.up (k := 1) (o := 5) (n := 8) (by decide) (by omega) (by decide), g.up, ?_, ?_, wf_one w (Or.inl ⟨b, by omega, rfl, h4⟩), wq_one w q (by omega)⟩
      · rw [rIn _ _ _ (by decide)]; exact g2
      · rw [rIn _ _ _ (by decide)]; exact g3
    · rw [e3, e4]; exact Rs.same j
  · rw [e1, e2]; exact Rs.same j
theorem s_setCost (j : J S sl sv M m) (x y : Int32) : Rs sl sv (fX6_setCost M x y) (fX7_setCost m x y) := by
  obtain ⟨h, g, g2, g3, w, q⟩ := id j
  obtain ⟨w0, w1, w2, w3⟩ := w.1
  unfold fX6_setCost fX7_setCost
  rcases sP h g w x with ⟨b, h1, rfl, e1, e2⟩ | ⟨e1, e2⟩
  · rw [e1, e2]
    simp only [ob, n10f, if_false]
    rcases sCo M m y with ⟨v, h3, h4, rfl, e3, e4⟩ | ⟨e3, e4⟩
    · rw [e3, e4]
      unfold fX7_set
      simp (disch := omega) only [ob, n10f, if_false, nI_add, xrdN, xwIN, h.r5, g (69 + b) (by omega)]
      refine ⟨_, _, _, upS S (69 + b) v, rfl, rfl, h.up (k := 5) (o := 69) (n := 24) (by decide) (by omega) (by decide), g.up, ?_, ?_, wf_one w (Or.inr (Or.inl ⟨b, by omega, rfl, h4⟩)), wq_one w q (by omega)⟩
      · rw [rIn _ _ _ (by decide)]; exact g2
      · rw [rIn _ _ _ (by decide)]; exact g3
    · rw [e3, e4]; exact Rs.same j
  · rw [e1, e2]; exact Rs.same j
theorem s_moveStation (j : J S sl sv M m) (x y : Int32) : Rs sl sv (fX6_moveStation M x y) (fX7_moveStation m x y) := by
  obtain ⟨h, g, g2, g3, w, q⟩ := id j
  obtain ⟨w0, w1, w2, w3⟩ := w.1
  unfold fX6_moveStation fX7_moveStation
  rcases sS h g w x with ⟨b, h1, rfl, e1, e2⟩ | ⟨e1, e2⟩
  · rw [e1, e2]
    simp only [ob, n10f, if_false]
    rcases sG h g w y with ⟨v, h3, rfl, e3, e4⟩ | ⟨e3, e4⟩
    · rw [e3, e4]
      unfold fX7_set
      simp (disch := omega) only [ob, n10f, if_false, nI_add, xrdN, xwIN, h.r11, g (285 + b) (by omega)]
      refine ⟨_, _, _, upS S (285 + b) v, rfl, rfl, h.up (k := 11) (o := 285) (n := 8) (by decide) (by omega) (by decide), g.up, ?_, ?_, wf_one w (Or.inr (Or.inr ⟨b, by omega, rfl, by omega⟩)), wq_one w q (by omega)⟩
      · rw [rIn _ _ _ (by decide)]; exact g2
      · rw [rIn _ _ _ (by decide)]; exact g3
    · rw [e3, e4]; exact Rs.same j
  · rw [e1, e2]; exact Rs.same j
theorem s_addStation (j : J S sl sv M m) (x : Int32) : Rs sl sv (fX6_addStation M x) (fX7_addStation m x) := by
  obtain ⟨h, g, g2, g3, w, q⟩ := id j
  obtain ⟨w0, w1, w2, w3⟩ := w.1
  unfold fX6_addStation fX7_addStation
  rcases sG h g w x with ⟨v, h1, rfl, e1, e2⟩ | ⟨e1, e2⟩
  · rw [e1, e2]
    simp only [ob, n10f, if_false]
    simp (disch := omega) only [xrdN, g 3 (by decide), h.n3, qeq, qlt]
    by_cases c : S 3 = 8
    · rw [if_neg (by omega), if_pos c]; exact Rs.same j
    · rw [if_pos (by omega), if_neg c]
      unfold fX3_appendStation
      simp (disch := omega) only [nI_add, xwIN, xrdN, h.n3, ob, xpf, rIn _ _ _ (show 0 ≠ 11 by decide)]
      have r3 : (xI m 1 (285 + S 3) (nI v)).1 1 3 = nI (S 3) := by
        rw [rI1, un _ _ (by omega)]; exact g 3 (by decide)
      simp (disch := omega) only [r3, nI_add]
      have r4 : (xI (xI m 1 (285 + S 3) (nI v)) 1 3 (nI (S 3 + 1))).1 1 3 = nI (S 3 + 1) := by rw [rI1, us]
      simp (disch := omega) only [r4, pk_sub]
      have A := (h.up (k := 11) (o := 285) (n := 8) (i := S 3) (v := v) (by decide) (by omega) (by decide)).up (k := 0) (o := 0) (n := 5) (i := 3) (v := S 3 + 1) (by decide) (by omega) (by decide)
      have B := (g.up (j := 285 + S 3) (v := v)).up (j := 3) (v := S 3 + 1)
      have w' := wf_one w (k := 285 + S 3) (v := v) (Or.inr (Or.inr ⟨S 3, by omega, rfl, by omega⟩))
      have q' := wq_one w q (k := 285 + S 3) (v := v) (by omega)
      have s3 : upS S (285 + S 3) v 3 = S 3 := upS_n _ _ (by omega)
      refine ⟨nI (S 3), _, _, upS (upS S (285 + S 3) v) 3 (S 3 + 1), rfl, by rw [show S 3 + 1 - 1 = S 3 by omega], A, B, ?_, ?_, ?_, ?_⟩
      · rw [rIn _ _ _ (by decide), rIn _ _ _ (by decide)]; exact g2
      · rw [rIn _ _ _ (by decide), rIn _ _ _ (by decide)]; exact g3
      · generalize upS S (285 + S 3) v = U at w' s3
        have o : ∀ i, i ≠ 3 → upS U 3 (S 3 + 1) i = U i := fun i z => upS_n _ _ z
        have o1 : upS U 3 (S 3 + 1) 3 = S 3 + 1 := upS_s _ _ _
        generalize upS U 3 (S 3 + 1) = T at o o1
        obtain ⟨a1, a2, a3, a4, a5, a6, a7, a8⟩ := w'
        refine ⟨?_, ?_, ?_, ?_, ?_, ?_, ?_, ?_⟩
        · rw [o1, o 0 (by omega), o 1 (by omega), o 2 (by omega)]; omega
        · intro b hb; rw [o _ (by omega), o _ (by omega)]; exact a2 b hb
        · intro p hp
          unfold zM
          rw [o (21 + p) (by omega), o (45 + p) (by omega), o (69 + p) (by omega), o (93 + p) (by omega), o (117 + p) (by omega), o (165 + 5 * p + 4) (by omega)]
          exact a3 p hp
        · intro p hp
          rw [o 2 (by omega)] at hp
          rw [o (21 + p) (by omega), o (45 + p) (by omega), o 1 (by omega), o 0 (by omega)]
          exact a4 p hp
        · intro p hp; rw [o _ (by omega), o _ (by omega)]; exact a5 p hp
        · intro p hp
          unfold zM
          rw [o (165 + 5 * p + 0) (by omega), o (165 + 5 * p + 1) (by omega), o (165 + 5 * p + 2) (by omega), o (165 + 5 * p + 3) (by omega), o (165 + 5 * p + 4) (by omega)]
          exact a6 p hp
        · intro s hs; rw [o _ (by omega)]; exact a7 s hs
        · intro k hk; rw [o _ (by omega), o _ (by omega)]; exact a8 k hk
      · intro p hp hs
        rw [upS_n _ _ (by omega)] at hs
        refine ⟨by rw [upS_n (k := 3) _ _ (by omega)]; exact (q' p hp hs).1, ?_⟩
        unfold zAct
        rw [upS_n (k := 3) (j := 93 + p) _ _ (by omega), upS_n (k := 3) (j := 21 + p) _ _ (by omega), upS_n (k := 3) (j := 13 + upS S (285 + S 3) v (21 + p)) _ _ (by omega)]
        exact (q' p hp hs).2
  · rw [e1, e2]; exact Rs.same j
theorem s_addPort (j : J S sl sv M m) (x y z : Int32) : Rs sl sv (fX6_addPort M x y z) (fX7_addPort m x y z) := by
  obtain ⟨h, g, g2, g3, w, q⟩ := id j
  obtain ⟨w0, w1, w2, w3⟩ := w.1
  unfold fX6_addPort fX7_addPort
  rcases Or.symm (sB h g w x) with ⟨e1, e2⟩ | ⟨b, hb, rfl, e1, e2⟩
  · rw [e1, e2]; exact Rs.same j
  rw [e1, e2]
  simp only [ob, n10f, if_false]
  rcases Or.symm (sG h g w y) with ⟨e3, e4⟩ | ⟨s, hs, rfl, e3, e4⟩
  · rw [e3, e4]; exact Rs.same j
  rw [e3, e4]
  simp only [ob, n10f, if_false]
  rcases Or.symm (sCo M m z) with ⟨e5, e6⟩ | ⟨v, hv1, hv2, rfl, e5, e6⟩
  · rw [e5, e6]; exact Rs.same j
  rw [e5, e6]
  simp only [ob, n10f, if_false]
  simp (disch := omega) only [ob, eR_ports g, h.n2, qeq, qlt]
  by_cases c : S 2 = 24
  · rw [if_neg (by omega), if_pos c]; exact Rs.same j
  rw [if_pos (by omega), if_neg c]
  have hp : S 2 < 24 := by omega
  have hup := (w.2.1 b (by omega)).2
  have A4 := (((h.up (k := 3) (o := 21) (n := 24) (i := S 2) (v := b) (by decide) hp (by decide)).up (k := 4) (o := 45) (n := 24) (i := S 2) (v := s) (by decide) hp (by decide)).up (k := 5) (o := 69) (n := 24) (i := S 2) (v := v) (by decide) hp (by decide)).up (k := 6) (o := 93) (n := 24) (i := S 2) (v := 1) (by decide) hp (by decide)
  have B4 := (((g.up (j := 21 + S 2) (v := b)).up (j := 45 + S 2) (v := s)).up (j := 69 + S 2) (v := v)).up (j := 93 + S 2) (v := 1)
  have t4 : ∀ i, upS (upS (upS (upS S (21 + S 2) b) (45 + S 2) s) (69 + S 2) v) (93 + S 2) 1 i = if i = 93 + S 2 then 1 else if i = 69 + S 2 then v else if i = 45 + S 2 then s else if i = 21 + S 2 then b else S i := fun _ => rfl
  generalize hU : upS (upS (upS (upS S (21 + S 2) b) (45 + S 2) s) (69 + S 2) v) (93 + S 2) 1 = U at A4 B4 t4
  have o4 : ∀ i, i ≠ 93 + S 2 → i ≠ 69 + S 2 → i ≠ 45 + S 2 → i ≠ 21 + S 2 → U i = S i := fun i z1 z2 z3 z4 => by rw [t4, if_neg z1, if_neg z2, if_neg z3, if_neg z4]
  have u13 : U (13 + b) = S (13 + b) := o4 _ (by omega) (by omega) (by omega) (by omega)
  have u93 : U (93 + S 2) = 1 := by rw [t4, if_pos rfl]
  have u21 : U (21 + S 2) = b := by rw [t4, if_neg (by omega), if_neg (by omega), if_neg (by omega), if_pos rfl]
  have u2 : U 2 = S 2 := o4 _ (by omega) (by omega) (by omega) (by omega)
  -- the new state
  have fin : ∀ st : Nat, st = (if S (13 + b) = 1 then 1 else 0) → Rs sl sv ((fX3_appendPort_j57 (xI (xI (xI (xI M 3 (S 2) (nI b)) 4 (S 2) (nI s)) 5 (S 2) (nI v)) 6 (S 2) (nI 1)) (nI (S 2)) (nI st) (nI (S 2))).bind fun z4 => some (z4.1, z4.2)) (fX7_addPort_j119 (xI (xI (xI (xI m 1 (21 + S 2) (nI b)) 1 (45 + S 2) (nI s)) 1 (69 + S 2) (nI v)) 1 (93 + S 2) (nI 1)) (nI (S 2)) (nI st) (nI (117 + S 2))) := by
    intro st hst
    have hst2 : st ≤ 1 := by rw [hst]; split <;> omega
    have A5 : AC (upS U (117 + S 2) st) (xI (xI (xI (xI (xI M 3 (S 2) (nI b)) 4 (S 2) (nI s)) 5 (S 2) (nI v)) 6 (S 2) (nI 1)) 7 (S 2) (nI st)) := by
      refine A4.st hp (fun i z1 _ => upS_n _ _ z1) (fun k z1 _ => rIn _ _ _ z1) (by rw [rI1, upS_s]) (fun i _ => by rw [rIn _ _ _ (by decide)]) (fun z => ?_) rfl
      rw [upS_s] at z
      omega
    have n5 := A5.n2
    rw [upS_n _ _ (by omega), u2] at n5
    have A6 := A5.up (k := 0) (o := 0) (n := 5) (i := 2) (v := S 2 + 1) (by decide) (by omega) (by decide)
    have B5 := B4.up (j := 117 + S 2) (v := st)
    have b5 := B5 2 (by decide)
    rw [upS_n _ _ (by omega), u2] at b5
    have B6 := B5.up (j := 2) (v := S 2 + 1)
    unfold fX3_appendPort_j57 fX7_addPort_j119
    simp (disch := omega) only [xwIN, xrdN, xpf, n5, b5, nI_add, ob]
    refine ⟨_, _, _, upS (upS U (117 + S 2) st) 2 (S 2 + 1), rfl, rfl, A6, B6, ?_, ?_, ?_, ?_⟩
    · simp only [rIn _ _ _ (show 2 ≠ 1 by decide)]; exact g2
    · simp only [rIn _ _ _ (show 3 ≠ 1 by decide)]; exact g3
    · have t : ∀ i, upS (upS U (117 + S 2) st) 2 (S 2 + 1) i = if i = 2 then S 2 + 1 else if i = 117 + S 2 then st else U i := fun _ => rfl
      generalize upS (upS U (117 + S 2) st) 2 (S 2 + 1) = T at t
      have o : ∀ i, i ≠ 2 → i ≠ 117 + S 2 → i ≠ 93 + S 2 → i ≠ 69 + S 2 → i ≠ 45 + S 2 → i ≠ 21 + S 2 → T i = S i := fun i z0 z5 z1 z2 z3 z4 => by rw [t, if_neg z0, if_neg z5]; exact o4 i z1 z2 z3 z4
      obtain ⟨a1, a2, a3, a4, a5, a6, a7, a8⟩ := w
      refine ⟨?_, ?_, ?_, ?_, ?_, ?_, ?_, ?_⟩
      · rw [t 2, if_pos rfl, o 0 (by omega) (by omega) (by omega) (by omega) (by omega) (by omega), o 1 (by omega) (by omega) (by omega) (by omega) (by omega) (by omega), o 3 (by omega) (by omega) (by omega) (by omega) (by omega) (by omega)]; omega
      · intro b' hb'
        rw [o _ (by omega) (by omega) (by omega) (by omega) (by omega) (by omega), o _ (by omega) (by omega) (by omega) (by omega) (by omega) (by omega)]; exact a2 b' hb'
      · intro p hp'
        have := a3 p hp'
        unfold zM at this ⊢
        rw [o (165 + 5 * p + 4) (by omega) (by omega) (by omega) (by omega) (by omega) (by omega)]
        by_cases d : p = S 2
        · subst d
          rw [t (21 + S 2), if_neg (by omega), if_neg (by omega), u21, t (45 + S 2), if_neg (by omega), if_neg (by omega), t4, if_neg (by omega), if_neg (by omega), if_pos rfl, t (69 + S 2), if_neg (by omega), if_neg (by omega), t4, if_neg (by omega), if_pos rfl, t (93 + S 2), if_neg (by omega), if_neg (by omega), u93, t (117 + S 2), if_neg (by omega), if_pos rfl]
          omega
        · rw [o (21 + p) (by omega) (by omega) (by omega) (by omega) (by omega) (by omega), o (45 + p) (by omega) (by omega) (by omega) (by omega) (by omega) (by omega), o (69 + p) (by omega) (by omega) (by omega) (by omega) (by omega) (by omega), o (93 + p) (by omega) (by omega) (by omega) (by omega) (by omega) (by omega), o (117 + p) (by omega) (by omega) (by omega) (by omega) (by omega) (by omega)]
          exact this
      · intro p hp'
        rw [t 2, if_pos rfl] at hp'
        rw [o 0 (by omega) (by omega) (by omega) (by omega) (by omega) (by omega), o 1 (by omega) (by omega) (by omega) (by omega) (by omega) (by omega)]
        by_cases d : p = S 2
        · subst d
          rw [t (21 + S 2), if_neg (by omega), if_neg (by omega), u21, t (45 + S 2), if_neg (by omega), if_neg (by omega), t4, if_neg (by omega), if_neg (by omega), if_pos rfl]
          exact ⟨hb, hs⟩
        · rw [o (21 + p) (by omega) (by omega) (by omega) (by omega) (by omega) (by omega), o (45 + p) (by omega) (by omega) (by omega) (by omega) (by omega) (by omega)]
          exact a4 p (by omega)
      · intro p hp'
        rw [o (141 + p) (by omega) (by omega) (by omega) (by omega) (by omega) (by omega)]
        by_cases d : p = S 2
        · subst d
          rw [t (117 + S 2), if_neg (by omega), if_pos rfl]
          intro z; omega
        · rw [o (117 + p) (by omega) (by omega) (by omega) (by omega) (by omega) (by omega)]
          exact a5 p hp'
      · intro p hp'
        unfold zM
        rw [o (165 + 5 * p + 0) (by omega) (by omega) (by omega) (by omega) (by omega) (by omega), o (165 + 5 * p + 1) (by omega) (by omega) (by omega) (by omega) (by omega) (by omega), o (165 + 5 * p + 2) (by omega) (by omega) (by omega) (by omega) (by omega) (by omega), o (165 + 5 * p + 3) (by omega) (by omega) (by omega) (by omega) (by omega) (by omega), o (165 + 5 * p + 4) (by omega) (by omega) (by omega) (by omega) (by omega) (by omega)]
        exact a6 p hp'
      · intro s' hs'
        rw [o _ (by omega) (by omega) (by omega) (by omega) (by omega) (by omega)]; exact a7 s' hs'
      · intro k hk
        rw [o _ (by omega) (by omega) (by omega) (by omega) (by omega) (by omega), o _ (by omega) (by omega) (by omega) (by omega) (by omega) (by omega)]; exact a8 k hk
    · intro p hp' hne
      have b1 := (w.2.2.1 p hp').1
      have t : ∀ i, upS (upS U (117 + S 2) st) 2 (S 2 + 1) i = if i = 2 then S 2 + 1 else if i = 117 + S 2 then st else U i := fun _ => rfl
      generalize upS (upS U (117 + S 2) st) 2 (S 2 + 1) = T at t hne
      have o : ∀ i, i ≠ 2 → i ≠ 117 + S 2 → i ≠ 93 + S 2 → i ≠ 69 + S 2 → i ≠ 45 + S 2 → i ≠ 21 + S 2 → T i = S i := fun i z0 z5 z1 z2 z3 z4 => by rw [t, if_neg z0, if_neg z5]; exact o4 i z1 z2 z3 z4
      rw [t 2, if_pos rfl]
      unfold zAct
      by_cases d : p = S 2
      · subst d
        refine ⟨by omega, ?_⟩
        rw [t (117 + S 2), if_neg (by omega), if_pos rfl, hst] at hne
        have hu : S (13 + b) = 1 := by
          apply Classical.byContradiction
          intro z
          rw [if_neg z] at hne
          exact hne rfl
        rw [t (93 + S 2), if_neg (by omega), if_neg (by omega), u93, t (21 + S 2), if_neg (by omega), if_neg (by omega), u21, t (13 + b), if_neg (by omega), if_neg (by omega), u13]
        exact ⟨rfl, hu⟩
      · rw [o (117 + p) (by omega) (by omega) (by omega) (by omega) (by omega) (by omega)] at hne
        refine ⟨by have := (q p hp' hne).1; omega, ?_⟩
        rw [o (93 + p) (by omega) (by omega) (by omega) (by omega) (by omega) (by omega), o (21 + p) (by omega) (by omega) (by omega) (by omega) (by omega) (by omega), o (13 + S (21 + p)) (by omega) (by omega) (by omega) (by omega) (by omega) (by omega)]
        exact (q p hp' hne).2
  unfold fX3_appendPort
  simp (disch := omega) only [nI_add, xwIN, h.n2, ob]
  have cu : fX3_isBridgeUp (xI (xI (xI (xI M 3 (S 2) (nI b)) 4 (S 2) (nI s)) 5 (S 2) (nI v)) 6 (S 2) (nI 1)) (nI b) = some (zb (S (13 + b) = 1)) := by
    have r := A4.r2 b (by omega)
    rw [u13] at r
    unfold fX3_isBridgeUp
    simp (disch := omega) only [xrdN, r, qeq, some_zb]
  have ru : fX7_isActive (xI (xI (xI (xI m 1 (21 + S 2) (nI b)) 1 (45 + S 2) (nI s)) 1 (69 + S 2) (nI v)) 1 (93 + S 2) (nI 1)) (nI (S 2)) = some (zb (S (13 + b) = 1)) := by
    have r1 := B4 (93 + S 2) (by omega)
    have r2 := B4 (21 + S 2) (by omega)
    have r3 := B4 (13 + b) (by omega)
    rw [u93] at r1
    rw [u21] at r2
    rw [u13] at r3
    unfold fX7_isActive fX7_bridgeOf
    simp (disch := omega) only [nI_add, xrdN, r1, r2, r3, ob, qeq, some_zb, if_true]
  rw [cu, ru]
  simp only [ob, zb0]
  by_cases d : S (13 + b) = 1
  · rw [if_neg (fun z => z d), if_neg (fun z => z d)]
    exact fin 1 (by rw [if_pos d])
  · rw [if_pos d, if_pos d]
    exact fin 0 (by rw [if_neg d])
end OW
