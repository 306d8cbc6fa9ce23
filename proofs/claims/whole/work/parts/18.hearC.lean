section HC
variable {S : Nat → Nat} {M : xM}
theorem AC.msg {T T' : Nat → Nat} {M M' : xM} {p : Nat} (h : AC T M) (ho : ∀ j, j < 165 ∨ 285 ≤ j → T' j = T j) (hm : ∀ i, i < 24 → i ≠ p → ∀ v, v < 5 → zM T' i v = zM T i v) (hr : ∀ k, k ≠ 10 → M'.1 k = M.1 k) (h10 : M'.1 10 = upd (M.1 10) p (nI (zM T' p 4))) (h9 : ∀ i, i ≠ p → M'.2 9 i = M.2 9 i) (h9p : 0 < zM T' p 4 → M'.2 9 p = lN (zMk T' p)) : AC T' M' := by
  obtain ⟨a1, a2, a3, a4⟩ := h
  refine ⟨fun t ht i hi => ?_, fun i hi => ?_, fun i hi h0 => ?_, fun i hi h0 => ?_⟩
  · have d1 : ∀ t, t ∈ zT → t.1 ≠ 10 ∧ (t.2.1 + t.2.2 ≤ 165 ∨ 285 ≤ t.2.1) := by decide
    obtain ⟨d2, d3⟩ := d1 t ht
    rw [hr _ d2, ho _ (by omega)]
    exact a1 t ht i hi
  · rw [h10]
    by_cases c : i = p
    · subst c; exact us _ _ _
    · rw [un _ _ c, hm i hi c 4 (by decide)]; exact a2 i hi
  · by_cases c : i = p
    · subst c; exact h9p h0
    · have e : zMk T' i = zMk T i := by
        unfold zMk
        rw [hm i hi c 0 (by decide), hm i hi c 1 (by decide), hm i hi c 2 (by decide), hm i hi c 3 (by decide)]
      rw [h9 i c, e]
      rw [hm i hi c 4 (by decide)] at h0
      exact a3 i hi h0
  · rw [ho _ (by omega)] at h0
    rw [hr _ (by decide), ho _ (by omega)]
    exact a4 i hi h0
theorem eC_acc (h : AC S M) (w : WF S) {p k : Nat} (hp : p < 24) (hk : k < 2 ^ 48) : fX4_accepts M (nI p) (lN k) = some (zb (zM S p 4 = 0 ∨ k ≤ zMk S p ∨ k % 2 ^ 16 = zMk S p % 2 ^ 16)) := by
  unfold fX4_accepts
  simp only [eC_sto h w hp, ob, zb0]
  by_cases c : 0 < zM S p 4
  · have hm := zMk_lt w hp c
    rw [if_neg (fun z => z c)]
    have lcle : (lg_cmp (lN k) (lN (zMk S p)) ≤ nI 0) = (k ≤ zMk S p) := by
      apply propext
      have a1 := lc_gt (a := k) (b := zMk S p) (by omega) (by omega)
      constructor
      · intro q
        apply Classical.byContradiction
        intro z
        have := a1.mpr (by omega)
        exact absurd q (Int32.not_le.mpr this)
      · intro q
        exact Int32.not_lt.mp (fun z => by have := a1.mp z; omega)
    simp (disch := omega) only [xrdN, h.r9 p hp c, lcle, eX2_haveSameSource, ob]
    by_cases d : k ≤ zMk S p
    · rw [if_pos d, zbt (Or.inr (Or.inl d))]
    · rw [if_neg d]
      by_cases d2 : k % 2 ^ 16 = zMk S p % 2 ^ 16
      · rw [if_pos d2, zbt (Or.inr (Or.inr d2))]
        exact if_neg (by decide)
      · rw [if_neg d2, zbf (fun z => by rcases z with z | z | z; omega; exact d z; exact d2 z)]
        exact if_pos rfl
  · rw [if_pos c, zbt (Or.inl (by omega))]
theorem eC_hear {p : Nat} (h : AC (zS1 S p) M) (w : WF S) (hs : SI S (S 2) M) (hp : p < S 2) : ∃ M', Fq [10] [9] M M' ∧ AC (zS1 S (p + 1)) M' ∧ ∀ (k : xM → Option (Int32 × xM)) (n : Nat), fX4_makeTick_L6 k (n + 1) M (nI p) = fX4_makeTick_L6 k n M' (nI (p + 1)) := by
  obtain ⟨w0, w1, w2, w3⟩ := w.1
  have hp24 : p < 24 := by omega
  have hn : p ≤ 24 := by omega
  have o : ∀ j, j < 165 ∨ 285 ≤ j → zS1 S p j = S j := fun j hj => zS1_out hn hj
  have w' := zS1_wf w hn
  have zm : ∀ v, v < 5 → zM (zS1 S p) p v = zM S p v := fun v hv => by rw [zS1_M hv, if_neg (by omega)]
  have zk : zMk (zS1 S p) p = zMk S p := by unfold zMk; rw [zm 0 (by decide), zm 1 (by decide), zm 2 (by decide), zm 3 (by decide)]
  have l6 := (w.2.2.1 p hp24).2.2.2.2.2
  have hseg := (w.2.2.1 p hp24).2.1
  have hn2 : M.1 0 2 = nI (S 2) := by rw [h.n2, o 2 (by omega)]
  have ho : ∀ j, j < 165 ∨ 285 ≤ j → zS1 S (p + 1) j = zS1 S p j := fun j hj => by rw [zS1_out (by omega) hj, o j hj]
  have hm : ∀ i, i < 24 → i ≠ p → ∀ v, v < 5 → zM (zS1 S (p + 1)) i v = zM (zS1 S p) i v := by
    intro i hi hne v hv
    rw [zS1_M hv, zS1_M hv]
    by_cases c : i < p
    · rw [if_pos (by omega), if_pos c]
    · rw [if_neg (by omega), if_neg c]
  have zm1 : ∀ v, v < 5 → zM (zS1 S (p + 1)) p v = zH S p v := fun v hv => by rw [zS1_M hv, if_pos (by omega)]
  have hact : fX3_isActive M (nI p) = some (zb (zAct S p)) := by
    rw [eC_act h w' hp24]
    by_cases a : zAct S p
    · rw [zbt a, zbt ((zS1_act w hn hp24).mpr a)]
    · rw [zbf a, zbf (fun z => a ((zS1_act w hn hp24).mp z))]
  have keep : zNq S p = none → fX4_takesMessage M (nI p) = some (nI 0, M) → ∃ M', Fq [10] [9] M M' ∧ AC (zS1 S (p + 1)) M' ∧ ∀ (k : xM → Option (Int32 × xM)) (n : Nat), fX4_makeTick_L6 k (n + 1) M (nI p) = fX4_makeTick_L6 k n M' (nI (p + 1)) := by
    intro hq ht
    have hH : ∀ v, zH S p v = if v = 4 then zM S p 4 - 1 else zM S p v := fun v => by unfold zH; rw [hq]
    have h10 := h.r10 p hp24
    rw [zm 4 (by decide)] at h10
    have h4 : zM (zS1 S (p + 1)) p 4 = zM S p 4 - 1 := by rw [zm1 4 (by decide), hH, if_pos rfl]
    have hk : zMk (zS1 S (p + 1)) p = zMk (zS1 S p) p := by
      rw [zk]
      unfold zMk
      rw [zm1 0 (by decide), zm1 1 (by decide), zm1 2 (by decide), zm1 3 (by decide), hH, hH, hH, hH]
      rfl
    have hag : ∃ M', fX3_ageMessage M (nI p) = some M' ∧ Fq [10] [9] M M' ∧ AC (zS1 S (p + 1)) M' := by
      unfold fX3_ageMessage
      simp (disch := omega) only [xrdN, h10, qle]
      by_cases c : zM S p 4 ≤ 0
      · rw [if_pos c]
        refine ⟨M, rfl, Fq.rf, h.msg ho hm (fun k _ => rfl) ?_ (fun i _ => rfl) (fun z => ?_)⟩
        · funext j
          by_cases d : j = p
          · subst d; rw [us, h4, h10, show zM S j 4 - 1 = zM S j 4 by omega]
          · rw [un _ _ d]
        · rw [h4] at z; omega
      · rw [if_neg c]
        simp (disch := omega) only [xwIN, pk_sub]
        refine ⟨_, rfl, Fq.rf.I (by decide) _ _, h.msg ho hm (fun k hk => rIn _ _ _ hk) ?_ (fun i _ => rfl) (fun z => ?_)⟩
        · rw [rI1, h4]
        · rw [hk, rI2]
          exact h.r9 p hp24 (by rw [zm 4 (by decide)]; omega)
    obtain ⟨M', e, f, a⟩ := hag
    refine ⟨M', f, a, fun k n => ?_⟩
    show fX4_makeTick_B6 k M (nI p) _ = _
    unfold fX4_makeTick_B6
    simp (disch := omega) only [hn2, qle, ht, ob, if_true, e, nI_add]
    rw [if_neg (by omega)]
  by_cases a : zAct S p
  · have hz : (if (zBB S (S (45 + p)) (S 2)).1 = some p then (zBB S (S (45 + p)) (S 2)).2 else (zBB S (S (45 + p)) (S 2)).1) = zHe S p (S 2) := (zHe_BB (S 2)).symm
    obtain ⟨-, hsg⟩ := w.2.2.2.1 p hp
    obtain ⟨c1, c2⟩ := hs.2 _ hsg
    have iv := zBB_in (S := S) (s := S (45 + p)) (S 2)
    have ht : fX4_takesMessage M (nI p) = fX4_takesMessage_j48 M (nI p) (zo1 (zHe S p (S 2))) := by
      unfold fX4_takesMessage
      rw [hact]
      simp (disch := omega) only [ob, zb0, xrdN, h.r4, o (45 + p) (by omega), c1, c2]
      rw [if_neg (fun z => z a), ← hz]
      simp only [zo1_eq (o := (zBB S (S (45 + p)) (S 2)).1) (p := p) (fun q hq => by have := (iv.1 q hq).1; omega) (by omega)]
      by_cases d : (zBB S (S (45 + p)) (S 2)).1 = some p
      · rw [if_pos d, if_pos d]
      · rw [if_neg d, if_neg d]
    cases e : zHe S p (S 2) with
    | none =>
      refine keep (by unfold zNq; rw [if_pos a, e]) ?_
      rw [ht, e]
      unfold fX4_takesMessage_j48
      exact if_pos rfl
    | some q =>
      obtain ⟨q1, q2, q3, q4⟩ := zHe_in e
      have hq24 : q < 24 := by omega
      have hq : zNq S p = if zM S p 4 = 0 ∨ zOw S q ≤ zMk S p ∨ (zM S p 2 = zId S (S (21 + q)) ∧ zM S p 3 = q) then some q else none := by unfold zNq; rw [if_pos a, e]
      obtain ⟨s1, s2⟩ := hs.1 q q1 q3
      have hw := zOw_lt w hq24
      have b1 := (w.2.2.1 q hq24).1
      have hid := zId_lt w b1
      have hs5 := q3.2
      have hacc : fX4_accepts M (nI p) (lN (zOw S q)) = some (zb (zM S p 4 = 0 ∨ zOw S q ≤ zMk S p ∨ zOw S q % 2 ^ 16 = zMk S p % 2 ^ 16)) := by
        rw [eC_acc h w' hp24 hw]
        simp only [zm 4 (by decide), zk]
      have hcond : (zM S p 4 = 0 ∨ zOw S q ≤ zMk S p ∨ zOw S q % 2 ^ 16 = zMk S p % 2 ^ 16) ↔ (zM S p 4 = 0 ∨ zOw S q ≤ zMk S p ∨ (zM S p 2 = zId S (S (21 + q)) ∧ zM S p 3 = q)) := by
        by_cases c : 0 < zM S p 4
        · obtain ⟨g1, g2, g3, g4⟩ := w.2.2.2.2.2.1 p hp24 c
          have hk : zOw S q % 2 ^ 16 = zMk S p % 2 ^ 16 ↔ (zId S (S (21 + q)) = zM S p 2 ∧ q = zM S p 3) := zPk_s hid (by omega) g3 (by omega)
          rw [hk]
          constructor
          · rintro (z | z | z)
            · exact Or.inl z
            · exact Or.inr (Or.inl z)
            · exact Or.inr (Or.inr ⟨z.1.symm, z.2.symm⟩)
          · rintro (z | z | z)
            · exact Or.inl z
            · exact Or.inr (Or.inl z)
            · exact Or.inr (Or.inr ⟨z.1.symm, z.2.symm⟩)
        · exact ⟨fun _ => Or.inl (by omega), fun _ => Or.inl (by omega)⟩
      by_cases d : zM S p 4 = 0 ∨ zOw S q ≤ zMk S p ∨ (zM S p 2 = zId S (S (21 + q)) ∧ zM S p 3 = q)
      · have hN : zNq S p = some q := by rw [hq]; exact if_pos d
        have hH : ∀ v, zH S p v = if v = 0 then zRt S (S (21 + q)) else if v = 1 then zRc S (S (21 + q)) else if v = 2 then zId S (S (21 + q)) else if v = 3 then q else 6 - zAge S (S (21 + q)) := fun v => by unfold zH; rw [hN]
        have h4 : zM (zS1 S (p + 1)) p 4 = 6 - zAge S (S (21 + q)) := by rw [zm1 4 (by decide), hH]; rfl
        have hk : zMk (zS1 S (p + 1)) p = zOw S q := by
          unfold zMk
          rw [zm1 0 (by decide), zm1 1 (by decide), zm1 2 (by decide), zm1 3 (by decide), hH, hH, hH, hH]
          rfl
        have ht2 : fX4_takesMessage M (nI p) = some (nI 1, xI (xJ M 9 p (lN (zOw S q))) 10 p (nI (6 - zAge S (S (21 + q))))) := by
          rw [ht, e]
          unfold fX4_takesMessage_j48
          simp (disch := omega) only [zo1, qm1, if_false, xrdN, s1, hacc, ob, zb0]
          rw [if_neg (fun z => z (hcond.mpr d))]
          simp (disch := omega) only [xwJN, xwIN, rJ2, s2, pk_sub]
        refine ⟨xI (xJ M 9 p (lN (zOw S q))) 10 p (nI (6 - zAge S (S (21 + q)))), (Fq.rf.J (by decide) _ _).I (by decide) _ _, h.msg ho hm (fun k hk => rIn _ _ _ hk) ?_ ?_ ?_, fun k n => ?_⟩
        · rw [rI1, h4]; rfl
        · intro i hi; rw [rI2, rJ1, uLn _ _ hi]
        · intro _; rw [rI2, rJ1, uLs, hk]
        · show fX4_makeTick_B6 k M (nI p) _ = _
          unfold fX4_makeTick_B6
          have n10 : (nI 1 = nI 0) = False := by decide
          simp (disch := omega) only [hn2, qle, ht2, ob, n10, if_false, nI_add]
          rw [if_neg (by omega)]
      · refine keep (by rw [hq]; exact if_neg d) ?_
        rw [ht, e]
        unfold fX4_takesMessage_j48
        simp (disch := omega) only [zo1, qm1, if_false, xrdN, s1, hacc, ob, zb0]
        rw [if_pos (fun z => d (hcond.mp z))]
  · refine keep (by unfold zNq; rw [if_neg a]) ?_
    unfold fX4_takesMessage
    rw [hact]
    simp only [ob, zb0]
    rw [if_pos a]
theorem eC_hears (h : AC S M) (w : WF S) (hs : SI S (S 2) M) : ∃ M', (Fq [10] [9] M M' ∧ AC (zS1 S (S 2)) M') ∧ ∀ K, fX4_makeTick_L6 K 512 M (nI 0) = K M' := by
  obtain ⟨w0, w1, w2, w3⟩ := w.1
  have h0 : zS1 S 0 = S := by
    funext j
    exact if_neg (by omega)
  refine lp0 (fun k n M v => fX4_makeTick_L6 k n M v) (fun i M' => Fq [10] [9] M M' ∧ AC (zS1 S i) M') (S 2) (by omega) M ⟨Fq.rf, by rw [h0]; exact h⟩ ?_ ?_
  · intro k n M' hI
    have hn2 : M'.1 0 2 = nI (S 2) := by rw [hI.2.n2, zS1_out w2 (by omega)]
    show fX4_makeTick_B6 k M' (nI (S 2)) _ = k M'
    unfold fX4_makeTick_B6
    simp (disch := omega) only [hn2, qle, Nat.le_refl, if_true]
  · intro n i M' hi hI
    obtain ⟨f1, a1⟩ := hI
    have hs' : SI S (S 2) M' := by
      unfold SI
      rw [f1.2 23 (by decide), f1.1 24 (by decide), f1.1 25 (by decide), f1.1 26 (by decide)]
      exact hs
    obtain ⟨M2, f2, a2, e2⟩ := eC_hear a1 w hs' hi
    exact ⟨M2, ⟨f1.tr f2 (fun _ h => h) (fun _ h => h), a2⟩, fun k => e2 k n⟩
end HC
