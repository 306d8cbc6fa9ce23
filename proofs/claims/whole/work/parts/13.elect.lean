section CF
variable {S : Nat → Nat} {M : xM}
theorem zOk_eq (p : Nat) : zOk S p = zMk S p + S (69 + p) * 65536 := by unfold zOk zMk; simp only [zPk_eq]; omega
theorem zBo_skip {b n : Nat} (h : ¬ (S (21 + n) = b ∧ zOff S n)) : zBo S b (n + 1) = zBo S b n := by
  show (match zBo S b n with
    | none => if S (21 + n) = b ∧ zOff S n then some n else none
    | some q => if S (21 + n) = b ∧ zOff S n ∧ zOk S n < zOk S q then some n else some q) = _
  cases zBo S b n with
  | none => exact if_neg h
  | some q => exact if_neg (fun k => h ⟨k.1, k.2.1⟩)
theorem zBo_none {b n : Nat} (h : S (21 + n) = b ∧ zOff S n) (e : zBo S b n = none) : zBo S b (n + 1) = some n := by
  show (match zBo S b n with
    | none => if S (21 + n) = b ∧ zOff S n then some n else none
    | some q => if S (21 + n) = b ∧ zOff S n ∧ zOk S n < zOk S q then some n else some q) = _
  rw [e]
  exact if_pos h
theorem zBo_some {b n q : Nat} (h : S (21 + n) = b ∧ zOff S n) (e : zBo S b n = some q) : zBo S b (n + 1) = if zOk S n < zOk S q then some n else some q := by
  show (match zBo S b n with
    | none => if S (21 + n) = b ∧ zOff S n then some n else none
    | some q => if S (21 + n) = b ∧ zOff S n ∧ zOk S n < zOk S q then some n else some q) = _
  rw [e]
  by_cases k : zOk S n < zOk S q
  · rw [if_pos k]; exact if_pos ⟨h.1, h.2, k⟩
  · rw [if_neg k]; exact if_neg (fun z => k z.2.2)
theorem zBo_in {b : Nat} : ∀ {n q : Nat}, zBo S b n = some q → q < n ∧ S (21 + q) = b ∧ zOff S q := by
  intro n
  induction n with
  | zero => intro q h; cases h
  | succ n ih =>
    intro q h
    by_cases c : S (21 + n) = b ∧ zOff S n
    · cases e : zBo S b n with
      | none =>
        rw [zBo_none c e] at h
        cases h
        exact ⟨by omega, c⟩
      | some r =>
        rw [zBo_some c e] at h
        by_cases k : zOk S n < zOk S r
        · rw [if_pos k] at h
          cases h
          exact ⟨by omega, c⟩
        · rw [if_neg k] at h
          cases h
          have := ih e
          exact ⟨by omega, this.2⟩
    · rw [zBo_skip c] at h
      have := ih h
      exact ⟨by omega, this.2⟩
def EB (S : Nat → Nat) (n : Nat) (M : xM) : Prop := ∀ b, b < S 0 → (zBo S b n = none → M.1 21 b = (-1)) ∧ (∀ q, zBo S b n = some q → M.1 21 b = nI q ∧ M.2 20 b = lN (zOk S q))
theorem eC_con (h : AC S M) (w : WF S) {p : Nat} (hp : p < S 2) (ho : zOff S p) (hE : EB S p M) : ∃ M', fX0_considerOffer M (nI p) = some M' ∧ Fq [21] [20] M M' ∧ EB S (p + 1) M' := by
  obtain ⟨w0, w1, w2, w3⟩ := w.1
  have hp24 : p < 24 := by omega
  obtain ⟨h1, h2, h3, h4, h5, h6⟩ := w.2.2.1 p hp24
  obtain ⟨hb, -⟩ := w.2.2.2.1 p hp
  have hk := zMk_lt w hp24 ho.2.1
  have hk2 := zOk_lt w hp24 ho.2.1
  have key : ∀ M', M' = xI (xJ M 20 (S (21 + p)) (lN (zOk S p))) 21 (S (21 + p)) (nI p) → zBo S (S (21 + p)) (p + 1) = some p → Fq [21] [20] M M' ∧ EB S (p + 1) M' := by
    intro M' e hz
    subst e
    refine ⟨(Fq.rf.J (by decide) _ _).I (by decide) _ _, fun b hb' => ?_⟩
    by_cases c : b = S (21 + p)
    · subst c
      rw [hz]
      refine ⟨fun k => (by cases k), fun q k => ?_⟩
      cases k
      rw [rI1, us, rI2, rJ1, uLs]
      exact ⟨rfl, rfl⟩
    · rw [zBo_skip (fun k => c k.1.symm), rI1, un _ _ c, rI2, rJ1, uLn _ _ c, rJ2]
      exact hE b hb'
  unfold fX0_considerOffer
  simp (disch := omega) only [xrdN, h.r3, h.r9 p hp24 ho.2.1, h.r5, eX2_withCostAdded, ob, ← zOk_eq]
  cases e : zBo S (S (21 + p)) p with
  | none =>
    have e1 := (hE _ hb).1 e
    rw [if_pos e1]
    unfold fX0_considerOffer_j53
    simp (disch := omega) only [xwJN, xwIN]
    exact ⟨_, rfl, key _ rfl (zBo_none ⟨rfl, ho⟩ e)⟩
  | some q =>
    obtain ⟨e1, e2⟩ := (hE _ hb).2 q e
    obtain ⟨q1, q2, q3⟩ := zBo_in e
    have hk3 := zOk_lt w (show q < 24 by omega) q3.2.1
    rw [e1, e2]
    simp (disch := omega) only [qm1, if_false, lc_ge]
    by_cases c : zOk S q ≤ zOk S p
    · rw [if_pos c]
      refine ⟨M, rfl, Fq.rf, fun b hb' => ?_⟩
      by_cases c2 : b = S (21 + p)
      · subst c2
        rw [zBo_some ⟨rfl, ho⟩ e, if_neg (by omega), ← e]
        exact hE _ hb'
      · rw [zBo_skip (fun k => c2 k.1.symm)]
        exact hE b hb'
    · rw [if_neg c]
      unfold fX0_considerOffer_j53
      simp (disch := omega) only [xwJN, xwIN]
      refine ⟨_, rfl, key _ rfl ?_⟩
      rw [zBo_some ⟨rfl, ho⟩ e, if_pos (by omega)]
theorem eC_find1 (h : AC S M) (w : WF S) : ∃ M', (Fq [21] [20] M M' ∧ ∀ b, b < S 0 → M'.1 21 b = (-1)) ∧ ∀ K, fX0_findBestOffers_L2 K 512 M (nI 0) = K M' := by
  obtain ⟨w0, w1, w2, w3⟩ := w.1
  refine lp0 (fun k n M v => fX0_findBestOffers_L2 k n M v) (fun i M' => Fq [21] [20] M M' ∧ ∀ b, b < i → M'.1 21 b = (-1)) (S 0) (by omega) M ⟨Fq.rf, fun b hb => by omega⟩ ?_ ?_
  · intro k n M' hI
    have e : M'.1 0 0 = nI (S 0) := by rw [hI.1.1 0 (by decide)]; exact h.n0
    show fX0_findBestOffers_B2 k M' (nI (S 0)) _ = k M'
    unfold fX0_findBestOffers_B2
    simp (disch := omega) only [e, qle, Nat.le_refl, if_true]
  · intro n i M' hi hI
    have e : M'.1 0 0 = nI (S 0) := by rw [hI.1.1 0 (by decide)]; exact h.n0
    refine ⟨xI M' 21 i (-1), ⟨hI.1.I (by decide) _ _, fun b hb => ?_⟩, fun k => ?_⟩
    · rw [rI1]
      by_cases c : b = i
      · subst c; exact us _ _ _
      · rw [un _ _ c]; exact hI.2 b (by omega)
    · show fX0_findBestOffers_B2 k M' (nI i) _ = _
      unfold fX0_findBestOffers_B2
      simp (disch := omega) only [e, qle, xwIN, nI_add]
      rw [if_neg (by omega)]
theorem eC_find2 (h : AC S M) (w : WF S) (h0 : ∀ b, b < S 0 → M.1 21 b = (-1)) : ∃ M', (Fq [21] [20] M M' ∧ EB S (S 2) M') ∧ ∀ K, fX0_findBestOffers_L28 K 512 M (nI 0) = K M' := by
  obtain ⟨w0, w1, w2, w3⟩ := w.1
  refine lp0 (fun k n M v => fX0_findBestOffers_L28 k n M v) (fun i M' => Fq [21] [20] M M' ∧ EB S i M') (S 2) (by omega) M ⟨Fq.rf, fun b hb => ⟨fun _ => h0 b hb, fun q k => by cases k⟩⟩ ?_ ?_
  · intro k n M' hI
    have e : M'.1 0 2 = nI (S 2) := by rw [hI.1.1 0 (by decide)]; exact h.n2
    show fX0_findBestOffers_B28 k M' (nI (S 2)) _ = k M'
    unfold fX0_findBestOffers_B28
    simp (disch := omega) only [e, qle, Nat.le_refl, if_true]
  · intro n i M' hi hI
    have h' : AC S M' := h.fr hI.1 (by decide) (by decide)
    have e := h'.n2
    by_cases c : zOff S i
    · obtain ⟨M2, e2, f2, E2⟩ := eC_con h' w hi c hI.2
      refine ⟨M2, ⟨hI.1.tr f2 (fun _ h => h) (fun _ h => h), E2⟩, fun k => ?_⟩
      show fX0_findBestOffers_B28 k M' (nI i) _ = _
      unfold fX0_findBestOffers_B28
      simp (disch := omega) only [e, qle, eC_off h' w (show i < 24 by omega), ob, zb0, nI_add, e2]
      rw [if_neg (by omega), if_neg (fun q => q c)]
    · refine ⟨M', ⟨hI.1, fun b hb => ?_⟩, fun k => ?_⟩
      · rw [zBo_skip (fun k => c k.2)]
        exact hI.2 b hb
      · show fX0_findBestOffers_B28 k M' (nI i) _ = _
        unfold fX0_findBestOffers_B28
        simp (disch := omega) only [e, qle, eC_off h' w (show i < 24 by omega), ob, zb0, nI_add]
        rw [if_neg (by omega), if_pos c]
theorem eC_find (h : AC S M) (w : WF S) : ∃ M', fX0_findBestOffers M = some M' ∧ Fq [21] [20] M M' ∧ EB S (S 2) M' := by
  unfold fX0_findBestOffers
  obtain ⟨M1, ⟨f1, h1⟩, e1⟩ := eC_find1 h w
  obtain ⟨M2, ⟨f2, h2⟩, e2⟩ := eC_find2 (h.fr f1 (by decide) (by decide)) w h1
  rw [e1, e2]
  exact ⟨M2, rfl, f1.tr f2 (fun _ h => h) (fun _ h => h), h2⟩
end CF
