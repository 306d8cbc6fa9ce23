def zS3 (S : Nat → Nat) (n : Nat) : Nat → Nat := fun j => if 357 ≤ j ∧ j < 357 + n then S j - 1 else S j
def zS4 (S : Nat → Nat) : Nat → Nat := fun j => if j = 4 then S 4 + 1 else S j
noncomputable def zT1 (S : Nat → Nat) : Nat → Nat := zS1 S (S 2)
noncomputable def zTk (S : Nat → Nat) : Nat → Nat := zS4 (zS3 (zS2 (zT1 S) (S 2)) 64)
def zChg (S : Nat → Nat) : Prop := ∃ p, p < S 2 ∧ (zGs (zT1 S) (zRo (zT1 S) p) p ≠ zT1 S (117 + p) ∨ zRo (zT1 S) p ≠ zRo S p)
def EqS (S T : Nat → Nat) : Prop := ∀ j, j < 4 ∨ (5 ≤ j ∧ j < 117) ∨ (165 ≤ j ∧ j < 293) → T j = S j
theorem AC.set1 {T T' : Nat → Nat} {M M' : xM} {k o n i : Nat} (ht : (k, o, n) ∈ zT) (hi : i < n) (h7 : k ≠ 7) (h : AC T M) (ho : ∀ j, j ≠ o + i → T' j = T j) (hr : ∀ a, a ≠ k → M'.1 a = M.1 a) (hk : M'.1 k = upd (M.1 k) i (nI (T' (o + i)))) (h9 : M'.2 = M.2) : AC T' M' := by
  obtain ⟨a1, a2, a3, a4⟩ := h
  have d1 : ∀ t, t ∈ zT → ∀ t', t' ∈ zT → t'.1 = t.1 → t' = t := by decide
  have d2 : ∀ t, t ∈ zT → ∀ t', t' ∈ zT → t' ≠ t → t.2.1 + t.2.2 ≤ t'.2.1 ∨ t'.2.1 + t'.2.2 ≤ t.2.1 := by decide
  have d3 : ∀ t, t ∈ zT → t.1 ≠ 8 ∧ t.1 ≠ 10 ∧ (t.2.1 + t.2.2 ≤ 141 ∨ 285 ≤ t.2.1) ∧ (t.1 ≠ 7 → t.2.1 + t.2.2 ≤ 117 ∨ 141 ≤ t.2.1) := by decide
  obtain ⟨e1, e2, e3, e4⟩ := d3 _ ht
  have e4 := e4 h7
  simp only at e1 e2 e3 e4
  have hm : ∀ p v, p < 24 → v < 5 → zM T' p v = zM T p v := fun p v hp hv => ho _ (by omega)
  refine ⟨fun t ht' j hj => ?_, fun p hp => ?_, fun p hp h0 => ?_, fun p hp h0 => ?_⟩
  · by_cases c : t = (k, o, n)
    · subst c
      show M'.1 k j = nI (T' (o + j))
      rw [hk]
      by_cases d : j = i
      · subst d; exact us _ _ _
      · rw [un _ _ d, ho _ (by omega)]; exact a1 _ ht j hj
    · have c2 : t.1 ≠ k := fun z => c (d1 _ ht _ ht' z)
      have d4 := d2 _ ht _ ht' c
      simp only at d4
      rw [hr _ c2, ho _ (by omega)]
      exact a1 t ht' j hj
  · rw [hr _ (fun z => e2 z.symm), hm p 4 hp (by decide)]; exact a2 p hp
  · rw [hm p 4 hp (by decide)] at h0
    have e : zMk T' p = zMk T p := by unfold zMk; rw [hm p 0 hp (by decide), hm p 1 hp (by decide), hm p 2 hp (by decide), hm p 3 hp (by decide)]
    rw [h9, e]
    exact a3 p hp h0
  · rw [ho _ (by omega)] at h0
    rw [hr _ (fun z => e1 z.symm), ho _ (by omega)]
    exact a4 p hp h0
section AG
variable {S T : Nat → Nat}
theorem zM_ag (e : EqS S T) {p v : Nat} (hp : p < 24) (hv : v < 5) : zM T p v = zM S p v := e _ (by omega)
theorem zId_ag (e : EqS S T) {b : Nat} (hb : b < 8) : zId T b = zId S b := by unfold zId; rw [e _ (by omega)]
theorem zAct_ag (w : WF S) (e : EqS S T) {p : Nat} (hp : p < 24) : zAct T p ↔ zAct S p := by
  have hb := (w.2.2.1 p hp).1
  unfold zAct
  rw [e (93 + p) (by omega), e (21 + p) (by omega), e (13 + S (21 + p)) (by omega)]
theorem zOff_ag (w : WF S) (e : EqS S T) {p : Nat} (hp : p < 24) : zOff T p ↔ zOff S p := by
  have hb := (w.2.2.1 p hp).1
  unfold zOff
  rw [zAct_ag w e hp, zM_ag e hp (by decide), zM_ag e hp (by decide), e (21 + p) (by omega), zId_ag e hb]
theorem zOk_ag (e : EqS S T) {p : Nat} (hp : p < 24) : zOk T p = zOk S p := by
  unfold zOk
  rw [zM_ag e hp (by decide), zM_ag e hp (by decide), zM_ag e hp (by decide), zM_ag e hp (by decide), e (69 + p) (by omega)]
theorem zMk_ag (e : EqS S T) {p : Nat} (hp : p < 24) : zMk T p = zMk S p := by
  unfold zMk
  rw [zM_ag e hp (by decide), zM_ag e hp (by decide), zM_ag e hp (by decide), zM_ag e hp (by decide)]
theorem zBo_ag (w : WF S) (e : EqS S T) {b : Nat} : ∀ n, n ≤ 24 → zBo T b n = zBo S b n := by
  intro n
  induction n with
  | zero => intro _; rfl
  | succ n ih =>
    intro hn
    have ih := ih (by omega)
    have hp : n < 24 := by omega
    have c1 : (T (21 + n) = b ∧ zOff T n) ↔ (S (21 + n) = b ∧ zOff S n) := by rw [e (21 + n) (by omega), zOff_ag w e hp]
    by_cases c : S (21 + n) = b ∧ zOff S n
    · cases q : zBo S b n with
      | none => rw [zBo_none c q, zBo_none (c1.mpr c) (by rw [ih]; exact q)]
      | some r =>
        have hr := (zBo_in q).1
        rw [zBo_some c q, zBo_some (c1.mpr c) (show zBo T b n = some r by rw [ih]; exact q), zOk_ag e hp, zOk_ag e (show r < 24 by omega)]
    · rw [zBo_skip c, zBo_skip (fun z => c (c1.mp z))]; exact ih
theorem zRp_ag (w : WF S) (e : EqS S T) {b : Nat} (hb : b < 8) : zRp T b = zRp S b := by
  have w2 := w.1.2.2.1
  have h2 : T 2 = S 2 := e 2 (by omega)
  unfold zRp
  rw [h2, zBo_ag w e (S 2) w2]
  cases q : zBo S b (S 2) with
  | none => rfl
  | some r =>
    have hr := (zBo_in q).1
    show (if zM T r 0 < zId T b then some r else none) = (if zM S r 0 < zId S b then some r else none)
    rw [zM_ag e (show r < 24 by omega) (by decide), zId_ag e hb]
theorem zRt_ag (w : WF S) (e : EqS S T) {b : Nat} (hb : b < 8) : zRt T b = zRt S b := by
  have w2 := w.1.2.2.1
  unfold zRt
  rw [zRp_ag w e hb]
  cases q : zRp S b with
  | none => exact zId_ag e hb
  | some r => exact zM_ag e (by have := (zRp_in q).1; omega) (by decide)
theorem zRc_ag (w : WF S) (e : EqS S T) {b : Nat} (hb : b < 8) : zRc T b = zRc S b := by
  have w2 := w.1.2.2.1
  unfold zRc
  rw [zRp_ag w e hb]
  cases q : zRp S b with
  | none => rfl
  | some r =>
    have hr := (zRp_in q).1
    show zM T r 1 + T (69 + r) = zM S r 1 + S (69 + r)
    rw [zM_ag e (by omega) (by decide), e (69 + r) (by omega)]
theorem zRo_ag (w : WF S) (e : EqS S T) {p : Nat} (hp : p < 24) : zRo T p = zRo S p := by
  have hb := (w.2.2.1 p hp).1
  have e1 : T (21 + p) = S (21 + p) := e _ (by omega)
  have e2 : zOw T p = zOw S p := by unfold zOw; rw [e1, zRt_ag w e hb, zRc_ag w e hb, zId_ag e hb]
  unfold zRo
  by_cases a : zAct S p
  · rw [if_pos a, if_pos ((zAct_ag w e hp).mpr a)]
    simp only [e1, zRp_ag w e hb, zM_ag e hp (show 4 < 5 by decide), e2, zMk_ag e hp, zM_ag e hp (show 2 < 5 by decide), zId_ag e hb]
  · rw [if_neg a, if_neg (fun z => a ((zAct_ag w e hp).mp z))]
end AG
section TK
variable {S : Nat → Nat}
theorem zS3_wf (w : WF S) {n : Nat} (hn : n ≤ 64) : WF (zS3 S n) := by
  have o : ∀ j, j < 357 ∨ 421 ≤ j → zS3 S n j = S j := fun j hj => if_neg (by omega)
  have hm : ∀ p v, p < 24 → v < 5 → zM (zS3 S n) p v = zM S p v := fun p v hp hv => o _ (by omega)
  obtain ⟨a1, a2, a3, a4, a5, a6, a7, a8⟩ := w
  refine ⟨?_, ?_, ?_, ?_, ?_, ?_, ?_, ?_⟩
  · rw [o 0 (by omega), o 1 (by omega), o 2 (by omega), o 3 (by omega)]; exact a1
  · intro b hb; rw [o _ (by omega), o _ (by omega)]; exact a2 b hb
  · intro p hp
    rw [o (21 + p) (by omega), o (45 + p) (by omega), o (69 + p) (by omega), o (93 + p) (by omega), o (117 + p) (by omega), hm p 4 hp (by decide)]
    exact a3 p hp
  · intro p hp
    rw [o 2 (by omega)] at hp
    have := a1.2.2.1
    rw [o (21 + p) (by omega), o (45 + p) (by omega), o 0 (by omega), o 1 (by omega)]
    exact a4 p hp
  · intro p hp; rw [o _ (by omega), o _ (by omega)]; exact a5 p hp
  · intro p hp
    rw [hm p 0 hp (by decide), hm p 1 hp (by decide), hm p 2 hp (by decide), hm p 3 hp (by decide), hm p 4 hp (by decide)]
    exact a6 p hp
  · intro s hs; rw [o _ (by omega)]; exact a7 s hs
  · intro k hk
    have := a8 k hk
    rw [o (293 + k) (by omega)]
    refine ⟨this.1, ?_⟩
    unfold zS3
    by_cases c : 357 ≤ 357 + k ∧ 357 + k < 357 + n
    · rw [if_pos c]; omega
    · rw [if_neg c]; exact this.2
theorem zS4_wf (w : WF S) : WF (zS4 S) := by
  have o : ∀ j, j ≠ 4 → zS4 S j = S j := fun j hj => if_neg hj
  have hm : ∀ p v, zM (zS4 S) p v = zM S p v := fun p v => o _ (by omega)
  obtain ⟨a1, a2, a3, a4, a5, a6, a7, a8⟩ := w
  refine ⟨?_, ?_, ?_, ?_, ?_, ?_, ?_, ?_⟩
  · rw [o 0 (by omega), o 1 (by omega), o 2 (by omega), o 3 (by omega)]; exact a1
  · intro b hb; rw [o _ (by omega), o _ (by omega)]; exact a2 b hb
  · intro p hp
    rw [o (21 + p) (by omega), o (45 + p) (by omega), o (69 + p) (by omega), o (93 + p) (by omega), o (117 + p) (by omega), hm]
    exact a3 p hp
  · intro p hp
    rw [o 2 (by omega)] at hp
    rw [o (21 + p) (by omega), o (45 + p) (by omega), o 0 (by omega), o 1 (by omega)]
    exact a4 p hp
  · intro p hp; rw [o _ (by omega), o _ (by omega)]; exact a5 p hp
  · intro p hp; rw [hm, hm, hm, hm, hm]; exact a6 p hp
  · intro s hs; rw [o _ (by omega)]; exact a7 s hs
  · intro k hk; rw [o _ (by omega), o _ (by omega)]; exact a8 k hk
theorem zT1_wf (w : WF S) : WF (zT1 S) := zS1_wf w w.1.2.2.1
theorem zTk_wf (w : WF S) : WF (zTk S) := zS4_wf (zS3_wf (zS2_wf (zT1_wf w) w.1.2.2.1) (by decide))
theorem zT1_2 (w : WF S) : zT1 S 2 = S 2 := zS1_out w.1.2.2.1 (by omega)
theorem zTk_eq (w : WF S) : EqS (zT1 S) (zTk S) := by
  intro j hj
  have := w.1.2.2.1
  show zS4 (zS3 (zS2 (zT1 S) (S 2)) 64) j = zT1 S j
  unfold zS4
  rw [if_neg (by omega)]
  unfold zS3
  rw [if_neg (by omega), zS2_out (by omega) (by omega)]
theorem eC_aget {M : xM} (h : AC S M) (w : WF S) : ∃ M', fX3_ageEntries M = some M' ∧ Fq [13] [] M M' ∧ AC (zS3 S 64) M' := by
  have h0 : zS3 S 0 = S := by
    funext j
    exact if_neg (by omega)
  have key := lp0 (fun (k : xM → Option xM) n M v => fX3_ageEntries_L2 k n M v) (fun i M' => Fq [13] [] M M' ∧ AC (zS3 S i) M') 64 (by omega) M ⟨Fq.rf, by rw [h0]; exact h⟩ ?_ ?_
  · obtain ⟨M', ⟨f, a⟩, e⟩ := key
    unfold fX3_ageEntries
    exact ⟨M', e _, f, a⟩
  · intro k n M' hI
    show fX3_ageEntries_B2 k M' (nI 64) _ = k M'
    unfold fX3_ageEntries_B2
    simp (disch := omega) only [qle, Nat.le_refl, if_true]
  · intro n i M' hi hI
    obtain ⟨f1, a1⟩ := hI
    have l10 := (w.2.2.2.2.2.2.2 i hi).2
    have e13 : M'.1 13 i = nI (S (357 + i)) := by
      rw [a1.r13 i hi]
      unfold zS3
      rw [if_neg (by omega)]
    have at' : zS3 S (i + 1) (357 + i) = S (357 + i) - 1 := if_pos (by omega)
    have ho : ∀ j, j ≠ 357 + i → zS3 S (i + 1) j = zS3 S i j := by
      intro j hj
      unfold zS3
      by_cases c : 357 ≤ j ∧ j < 357 + i
      · rw [if_pos c, if_pos (by omega)]
      · rw [if_neg c, if_neg (by omega)]
    by_cases c : S (357 + i) ≤ 0
    · refine ⟨M', ⟨f1, a1.set1 (k := 13) (o := 357) (n := 64) (by decide) hi (by decide) ho (fun _ _ => rfl) ?_ rfl⟩, fun k => ?_⟩
      · funext j
        by_cases d : j = i
        · subst d; rw [us, at', e13, show S (357 + j) - 1 = S (357 + j) by omega]
        · rw [un _ _ d]
      · show fX3_ageEntries_B2 k M' (nI i) _ = _
        unfold fX3_ageEntries_B2
        simp (disch := omega) only [qle, xrdN, e13, nI_add]
        rw [if_neg (by omega), if_pos c]
    · refine ⟨xI M' 13 i (nI (S (357 + i) - 1)), ⟨f1.I (by decide) _ _, a1.set1 (k := 13) (o := 357) (n := 64) (by decide) hi (by decide) ho (fun a ha => rIn _ _ _ ha) ?_ rfl⟩, fun k => ?_⟩
      · rw [rI1, at']
      · show fX3_ageEntries_B2 k M' (nI i) _ = _
        unfold fX3_ageEntries_B2
        simp (disch := omega) only [qle, xrdN, e13, nI_add, xwIN, pk_sub]
        rw [if_neg (by omega), if_neg c]
theorem eC_tick {M : xM} (h : AC S M) (w : WF S) (hL : LC S M) (hP : LPo S M) : ∃ (v : Int32) (M' : xM), fX4_makeTick M = some (v, M') ∧ AC (zTk S) M' ∧ LC (zTk S) M' ∧ LPo (zTk S) M' ∧ zB v (zChg S) := by
  have w2 := w.1.2.2.1
  have w0 := w.1.1
  have w1' := zT1_wf w
  have h2 := zT1_2 w
  have hz0 : zT1 S 0 = S 0 := zS1_out w2 (by omega)
  obtain ⟨M1, e1, f1, s1⟩ := eC_send h w hL hP
  have a1 := h.fr f1 (by decide) (by decide)
  obtain ⟨M2, ⟨f2, a2⟩, e2⟩ := eC_hears a1 w s1
  have a2 : AC (zT1 S) M2 := a2
  obtain ⟨v3, M3, e3, f3, l3, p3, b3⟩ := eC_elect a2 w1'
  have a3 := a2.fr f3 (by decide) (by decide)
  obtain ⟨v4, M4, e4, f4, a4, b4⟩ := eC_mvs a3 w1' p3
  rw [h2] at a4
  have w4 := zS2_wf w1' w2
  obtain ⟨M5, e5, f5, a5⟩ := eC_aget a4 w4
  have e04 : M5.1 0 4 = nI (zS3 (zS2 (zT1 S) (S 2)) 64 4) := a5.n4
  have a6 : AC (zTk S) (xI M5 0 4 (nI (zS3 (zS2 (zT1 S) (S 2)) 64 4 + 1))) := by
    refine a5.set1 (k := 0) (o := 0) (n := 5) (i := 4) (by decide) (by decide) (by decide) (fun j hj => if_neg (by omega)) (fun a ha => rIn _ _ _ ha) ?_ rfl
    rw [rI1]
    rfl
  have eq := zTk_eq w
  have f36 : ∀ k, k = 16 ∨ k = 17 ∨ k = 18 ∨ k = 19 → (xI M5 0 4 (nI (zS3 (zS2 (zT1 S) (S 2)) 64 4 + 1))).1 k = M3.1 k := by
    intro k hk
    rw [rIn _ _ _ (by omega), f5.1 k (by rcases hk with z | z | z | z <;> rw [z] <;> decide), f4.1 k (by rcases hk with z | z | z | z <;> rw [z] <;> decide)]
  have hb : zB (if v3 = nI 0 then (if v4 = nI 0 then nI 0 else nI 1) else nI 1) (zChg S) := by
    have f19 : M2.1 19 = M.1 19 := by rw [f2.1 19 (by decide), f1.1 19 (by decide)]
    rw [f19, h2] at b3
    rw [h2] at b4
    have cv : ∀ p, p < S 2 → (M.1 19 p ≠ nI (zRo (zT1 S) p) ↔ zRo (zT1 S) p ≠ zRo S p) := by
      intro p hp
      have r1 := zRo_le (S := S) p
      have r2 := zRo_le (S := zT1 S) p
      rw [hP p hp]
      constructor
      · intro z c; exact z (by rw [c])
      · intro z c
        rw [qeq (by omega) (by omega)] at c
        exact z c.symm
    rcases b3 with ⟨g1, g2⟩ | ⟨g1, g2⟩
    · rw [if_pos g1]
      rcases b4 with ⟨g3, g4⟩ | ⟨g3, g4⟩
      · rw [if_pos g3]
        refine Or.inl ⟨rfl, ?_⟩
        rintro ⟨p, hp, z | z⟩
        · exact g4 ⟨p, hp, z⟩
        · exact g2 ⟨p, hp, (cv p hp).mpr z⟩
      · rw [if_neg (by rw [g3]; decide)]
        obtain ⟨p, hp, z⟩ := g4
        exact Or.inr ⟨rfl, ⟨p, hp, Or.inl z⟩⟩
    · rw [if_neg (by rw [g1]; decide)]
      obtain ⟨p, hp, z⟩ := g2
      exact Or.inr ⟨rfl, ⟨p, hp, Or.inr ((cv p hp).mp z)⟩⟩
  refine ⟨_, _, ?_, a6, ?_, ?_, hb⟩
  · unfold fX4_makeTick
    rw [e1]
    simp only [ob, e2, e3, e4, e5, xpf, e04, nI_add]
    by_cases c1 : v3 = nI 0
    · rw [if_pos c1, if_pos c1]
      by_cases c2 : v4 = nI 0
      · rw [if_pos c2, if_pos c2]
      · rw [if_neg c2, if_neg c2]
    · rw [if_neg c1, if_neg c1]
  · intro b hb
    rw [eq 0 (by omega), hz0] at hb
    have hb8 : b < 8 := by omega
    unfold LC1
    rw [f36 16 (by omega), f36 17 (by omega), f36 18 (by omega), zRt_ag w1' eq hb8, zRc_ag w1' eq hb8, zRp_ag w1' eq hb8]
    exact l3 b (by rw [hz0]; exact hb)
  · intro p hp
    rw [eq 2 (by omega), h2] at hp
    rw [f36 19 (by omega), zRo_ag w1' eq (by omega)]
    exact p3 p (by rw [h2]; exact hp)
end TK
