def zo1 (o : Option Nat) : Int32 := match o with
  | none => -1
  | some q => nI q
def zB (v : Int32) (P : Prop) : Prop := (v = nI 0 ∧ ¬ P) ∨ (v = nI 1 ∧ P)
theorem zB.uq {v v' : Int32} {P : Prop} (h : zB v P) (h' : zB v' P) : v = v' := by
  rcases h with ⟨a, b⟩ | ⟨a, b⟩ <;> rcases h' with ⟨c, d⟩ | ⟨c, d⟩
  · rw [a, c]
  · exact absurd d b
  · exact absurd b d
  · rw [a, c]
theorem zB.iff {v : Int32} {P Q : Prop} (h : zB v P) (e : P ↔ Q) : zB v Q := by
  rcases h with ⟨a, b⟩ | ⟨a, b⟩
  · exact Or.inl ⟨a, fun q => b (e.mpr q)⟩
  · exact Or.inr ⟨a, e.mp b⟩
section CG
variable {S : Nat → Nat} {M : xM}
theorem zRp_in {b q : Nat} (h : zRp S b = some q) : q < S 2 ∧ S (21 + q) = b ∧ zOff S q ∧ zM S q 0 < zId S b := by
  unfold zRp at h
  cases e : zBo S b (S 2) with
  | none => rw [e] at h; cases h
  | some r =>
    rw [e] at h
    by_cases c : zM S r 0 < zId S b
    · have h : (if zM S r 0 < zId S b then some r else none) = some q := h
      rw [if_pos c] at h
      cases h
      have := zBo_in e
      exact ⟨this.1, this.2.1, this.2.2, c⟩
    · have h : (if zM S r 0 < zId S b then some r else none) = some q := h
      rw [if_neg c] at h
      cases h
theorem zRt_lt (w : WF S) {b : Nat} (hb : b < 8) : zRt S b < 256 := by
  unfold zRt
  cases e : zRp S b with
  | none => exact zId_lt w hb
  | some q =>
    have := zRp_in e
    have h2 := zId_lt w hb
    show zM S q 0 < 256
    omega
theorem zRc_le (w : WF S) {b : Nat} : zRc S b ≤ 600 := by
  unfold zRc
  cases e : zRp S b with
  | none => exact Nat.zero_le _
  | some q =>
    obtain ⟨a1, a2, a3, a4⟩ := zRp_in e
    have w2 := w.1.2.2.1
    have h2 := w.2.2.2.2.2.1 q (by omega) a3.2.1
    have h3 := w.2.2.1 q (by omega)
    have h4 := a3.2.1
    show zM S q 1 + S (69 + q) ≤ 600
    omega
theorem zOw_lt (w : WF S) {p : Nat} (hp : p < 24) : zOw S p < 2 ^ 48 := by
  have h1 := (w.2.2.1 p hp).1
  have := zRc_le w (b := S (21 + p))
  exact zPk_lt (zRt_lt w h1) (by omega) (zId_lt w h1) (by omega)
def LC1 (S : Nat → Nat) (b : Nat) (M : xM) : Prop := M.1 16 b = nI (zRt S b) ∧ M.1 17 b = nI (zRc S b) ∧ M.1 18 b = zo1 (zRp S b)
def LC (S : Nat → Nat) (M : xM) : Prop := ∀ b, b < S 0 → LC1 S b M
def LPo (S : Nat → Nat) (M : xM) : Prop := ∀ p, p < S 2 → M.1 19 p = nI (zRo S p)
theorem eC_cho (h : AC S M) (w : WF S) {b : Nat} (hb : b < S 0) (hE : EB S (S 2) M) : fX0_chooseRoot M (nI b) = some (xI (xI (xI M 16 b (nI (zRt S b))) 17 b (nI (zRc S b))) 18 b (zo1 (zRp S b))) := by
  obtain ⟨w0, w1, w2, w3⟩ := w.1
  have hb8 : b < 8 := by omega
  have hi := zId_lt w hb8
  unfold fX0_chooseRoot
  simp (disch := omega) only [eC_id h hb8, ob, xrdN]
  cases e : zBo S b (S 2) with
  | none =>
    have e1 := (hE b hb).1 e
    rw [if_pos e1]
    have r1 : zRp S b = none := by unfold zRp; rw [e]
    have r2 : zRt S b = zId S b := by unfold zRt; rw [r1]
    have r3 : zRc S b = 0 := by unfold zRc; rw [r1]
    unfold fX0_chooseRoot_j74
    simp (disch := omega) only [xwIN, r1, r2, r3, zo1]
  | some q =>
    obtain ⟨e1, e2⟩ := (hE b hb).2 q e
    obtain ⟨q1, q2, q3⟩ := zBo_in e
    have hk3 := zOk_lt w (show q < 24 by omega) q3.2.1
    obtain ⟨g1, g2, g3, g4⟩ := w.2.2.2.2.2.1 q (by omega) q3.2.1
    have g5 := w.2.2.1 q (by omega)
    have c1 : zOk S q / 2 ^ 40 = zM S q 0 := zPk_r (by omega) (by omega) (by omega)
    have c2 : zOk S q / 2 ^ 16 % 2 ^ 24 = zM S q 1 + S (69 + q) := zPk_c (by omega) (by omega) (by omega)
    rw [e1, e2]
    simp (disch := omega) only [qm1, if_false, eX2_rootOf, ob, c1, qle]
    by_cases c : zId S b ≤ zM S q 0
    · rw [if_pos c]
      have r1 : zRp S b = none := by
        unfold zRp; rw [e]; exact if_neg (by omega)
      have r2 : zRt S b = zId S b := by unfold zRt; rw [r1]
      have r3 : zRc S b = 0 := by unfold zRc; rw [r1]
      unfold fX0_chooseRoot_j74
      simp (disch := omega) only [xwIN, r1, r2, r3, zo1]
    · rw [if_neg c]
      have r1 : zRp S b = some q := by
        unfold zRp; rw [e]; exact if_pos (by omega)
      have r2 : zRt S b = zM S q 0 := by unfold zRt; rw [r1]
      have r3 : zRc S b = zM S q 1 + S (69 + q) := by unfold zRc; rw [r1]
      simp (disch := omega) only [xwIN, xrdN, rI2, e2, eX2_costOf, ob, c2, r1, r2, r3, zo1]
theorem eC_el1 (h : AC S M) (w : WF S) (hE : EB S (S 2) M) : ∃ M', (Fq [16, 17, 18] [] M M' ∧ LC S M') ∧ ∀ K, fX0_elect_L6 K 512 M (nI 0) = K M' := by
  obtain ⟨w0, w1, w2, w3⟩ := w.1
  refine lp0 (fun k n M v => fX0_elect_L6 k n M v) (fun i M' => Fq [16, 17, 18] [] M M' ∧ ∀ b, b < i → LC1 S b M') (S 0) (by omega) M ⟨Fq.rf, fun b hb => by omega⟩ ?_ ?_
  · intro k n M' hI
    have e : M'.1 0 0 = nI (S 0) := by rw [hI.1.1 0 (by decide)]; exact h.n0
    show fX0_elect_B6 k M' (nI (S 0)) _ = k M'
    unfold fX0_elect_B6
    simp (disch := omega) only [e, qle, Nat.le_refl, if_true]
  · intro n i M' hi hI
    have h' : AC S M' := h.fr hI.1 (by decide) (by decide)
    have hE' : EB S (S 2) M' := by
      intro b hb
      rw [hI.1.1 21 (by decide), hI.1.2 20 (by decide)]
      exact hE b hb
    have e := h'.n0
    refine ⟨_, ⟨((hI.1.I (k := 16) (by decide) i (nI (zRt S i))).I (k := 17) (by decide) i (nI (zRc S i))).I (k := 18) (by decide) i (zo1 (zRp S i)), fun b hb => ?_⟩, fun k => ?_⟩
    · unfold LC1
      rw [rI1, rIn _ _ _ (show 17 ≠ 18 by decide), rI1, rIn _ _ _ (show 16 ≠ 18 by decide), rIn _ _ _ (show 16 ≠ 17 by decide), rI1, rIn _ _ _ (show 17 ≠ 16 by decide), rIn _ _ _ (show 18 ≠ 17 by decide), rIn _ _ _ (show 18 ≠ 16 by decide)]
      by_cases c : b = i
      · subst c; rw [us, us, us]; exact ⟨rfl, rfl, rfl⟩
      · rw [un _ _ c, un _ _ c, un _ _ c]; exact hI.2 b (by omega)
    · show fX0_elect_B6 k M' (nI i) _ = _
      unfold fX0_elect_B6
      simp (disch := omega) only [e, qle, eC_cho h' w hi hE', ob, nI_add]
      rw [if_neg (by omega)]
theorem zo1_eq {o : Option Nat} {p : Nat} (ho : ∀ q, o = some q → q < 2147483648) (hp : p < 2147483648) : (zo1 o = nI p) = (o = some p) := by
  cases o with
  | none =>
    refine propext ⟨fun h => ?_, fun h => by cases h⟩
    have : (nI p = (-1)) := h.symm
    rw [qm1 hp] at this
    exact this.elim
  | some q =>
    show (nI q = nI p) = _
    rw [qeq (ho q rfl) hp]
    exact propext ⟨fun h => by rw [h], fun h => by cases h; rfl⟩
theorem zRp_lt (w : WF S) {b : Nat} : ∀ q, zRp S b = some q → q < 2147483648 := by
  intro q h
  have := (zRp_in h).1
  have := w.1.2.2.1
  omega
theorem eC_ow (h : AC S M) (w : WF S) {p : Nat} (hp : p < S 2) (hL : LC S M) : fX0_ownMessage M (nI p) = some (lN (zOw S p)) := by
  obtain ⟨w0, w1, w2, w3⟩ := w.1
  have hp24 : p < 24 := by omega
  obtain ⟨h1, h2, h3, h4, h5, h6⟩ := w.2.2.1 p hp24
  obtain ⟨hb, -⟩ := w.2.2.2.1 p hp
  obtain ⟨l1, l2, l3⟩ := hL _ hb
  have := zRc_le w (b := S (21 + p))
  unfold fX0_ownMessage
  simp (disch := omega) only [xrdN, h.r3, l1, l2, eC_id h h1, ob, eX2_of M (zRt_lt w h1) (show zRc S (S (21 + p)) < 16777216 by omega) (zId_lt w h1) (show p < 256 by omega), zOw]
theorem eC_role (h : AC S M) (w : WF S) {p : Nat} (hp : p < S 2) (hL : LC S M) : fX0_roleFor M (nI p) = some (nI (zRo S p)) := by
  obtain ⟨w0, w1, w2, w3⟩ := w.1
  have hp24 : p < 24 := by omega
  obtain ⟨h1, h2, h3, h4, h5, h6⟩ := w.2.2.1 p hp24
  obtain ⟨hb, -⟩ := w.2.2.2.1 p hp
  obtain ⟨l1, l2, l3⟩ := hL _ hb
  have hw := zOw_lt w hp24
  unfold fX0_roleFor zRo
  simp only [eC_act h w hp24, ob, zb0]
  by_cases a : zAct S p
  · rw [if_neg (fun q => q a), if_pos a]
    simp (disch := omega) only [xrdN, h.r3, l3, zo1_eq (zRp_lt w) (show p < 2147483648 by omega)]
    by_cases b : zRp S (S (21 + p)) = some p
    · rw [if_pos b, if_pos b]
    · rw [if_neg b, if_neg b]
      simp only [eC_sto h w hp24, ob, zb0]
      by_cases c : 0 < zM S p 4
      · have hk := zMk_lt w hp24 c
        rw [if_neg (fun q => q c)]
        simp (disch := omega) only [eC_ow h w hp hL, ob, xrdN, h.r9 p hp24 c, lc_ge]
        by_cases d : zMk S p ≤ zOw S p
        · rw [if_pos d, if_neg (by omega)]
          simp only [eC_own h w hp24 c, ob, zb0]
          by_cases g : zM S p 2 = zId S (S (21 + p))
          · rw [if_neg (fun q => q g), if_pos g]
          · rw [if_pos g, if_neg g]
        · rw [if_neg d, if_pos (Or.inr (by omega))]
      · rw [if_pos c, if_pos (Or.inl (by omega))]
  · rw [if_pos a, if_neg a]
theorem zRo_le (p : Nat) : zRo S p ≤ 4 := by
  unfold zRo
  split
  · split
    · decide
    · split
      · decide
      · split <;> decide
  · decide
theorem eC_el2 (h : AC S M) (w : WF S) (hL : LC S M) : ∃ s : xM × Int32, (Fq [19] [] M s.1 ∧ LPo S s.1 ∧ zB s.2 (∃ p, p < S 2 ∧ M.1 19 p ≠ nI (zRo S p))) ∧ ∀ K : xM → Int32 → Option (Int32 × xM), fX0_elect_L32 K 512 M (nI 0) (nI 0) = K s.1 s.2 := by
  obtain ⟨w0, w1, w2, w3⟩ := w.1
  have key := lp0 (fun (k : xM × Int32 → Option (Int32 × xM)) n (s : xM × Int32) v => fX0_elect_L32 (fun M v1 => k (M, v1)) n s.1 s.2 v) (fun i s => Fq [19] [] M s.1 ∧ (∀ p, p < i → s.1.1 19 p = nI (zRo S p)) ∧ (∀ p, i ≤ p → s.1.1 19 p = M.1 19 p) ∧ zB s.2 (∃ p, p < i ∧ M.1 19 p ≠ nI (zRo S p))) (S 2) (by omega) (M, nI 0) ⟨Fq.rf, fun b hb => by omega, fun _ _ => rfl, Or.inl ⟨rfl, fun ⟨p, hp, _⟩ => by omega⟩⟩ ?_ ?_
  · obtain ⟨s, ⟨g1, g2, g3, g4⟩, e⟩ := key
    exact ⟨s, ⟨g1, g2, g4⟩, fun K => e (fun s => K s.1 s.2)⟩
  · intro k n s hI
    have e : s.1.1 0 2 = nI (S 2) := by rw [hI.1.1 0 (by decide)]; exact h.n2
    show fX0_elect_B32 _ s.1 s.2 (nI (S 2)) _ = k s
    unfold fX0_elect_B32
    simp (disch := omega) only [e, qle, Nat.le_refl, if_true]
  · intro n i s hi hI
    obtain ⟨f1, f2, f3, f4⟩ := hI
    have h' : AC S s.1 := h.fr f1 (by decide) (by decide)
    have hL' : LC S s.1 := by
      intro b hb
      unfold LC1
      rw [f1.1 16 (by decide), f1.1 17 (by decide), f1.1 18 (by decide)]
      exact hL b hb
    have e := h'.n2
    have hr := zRo_le (S := S) i
    have fin : ∀ v, zB v (∃ p, p < i + 1 ∧ M.1 19 p ≠ nI (zRo S p)) → (∀ k : xM × Int32 → Option (Int32 × xM), fX0_elect_L32 (fun M v1 => k (M, v1)) (n + 1) s.1 s.2 (nI i) = fX0_elect_j68 s.1 (nI i) (nI (zRo S i)) v (fun M v1 v2 => fX0_elect_L32 (fun M v1 => k (M, v1)) n M v1 v2)) → ∃ s' : xM × Int32, (Fq [19] [] M s'.1 ∧ (∀ p, p < i + 1 → s'.1.1 19 p = nI (zRo S p)) ∧ (∀ p, i + 1 ≤ p → s'.1.1 19 p = M.1 19 p) ∧ zB s'.2 (∃ p, p < i + 1 ∧ M.1 19 p ≠ nI (zRo S p))) ∧ ∀ k : xM × Int32 → Option (Int32 × xM), fX0_elect_L32 (fun M v1 => k (M, v1)) (n + 1) s.1 s.2 (nI i) = fX0_elect_L32 (fun M v1 => k (M, v1)) n s'.1 s'.2 (nI (i + 1)) := by
      intro v hv hk
      refine ⟨(xI s.1 19 i (nI (zRo S i)), v), ⟨f1.I (by decide) _ _, fun p hp => ?_, fun p hp => ?_, hv⟩, fun k => ?_⟩
      · rw [rI1]
        by_cases c : p = i
        · subst c; exact us _ _ _
        · rw [un _ _ c]; exact f2 p (by omega)
      · rw [rI1, un _ _ (by omega)]; exact f3 p (by omega)
      · rw [hk k]
        unfold fX0_elect_j68
        simp (disch := omega) only [xwIN, nI_add]
    have st : ∀ k : xM × Int32 → Option (Int32 × xM), fX0_elect_L32 (fun M v1 => k (M, v1)) (n + 1) s.1 s.2 (nI i) = fX0_elect_B32 (fun M v1 => k (M, v1)) s.1 s.2 (nI i) (fun M v1 v2 => fX0_elect_L32 (fun M v1 => k (M, v1)) n M v1 v2) := fun k => rfl
    rcases f4 with ⟨a1, a2⟩ | ⟨a1, a2⟩
    · by_cases c : nI (zRo S i) = s.1.1 19 i
      · refine fin (nI 0) (Or.inl ⟨rfl, ?_⟩) (fun k => ?_)
        · rintro ⟨p, hp, hne⟩
          by_cases d : p = i
          · subst d; exact hne (by rw [c]; exact (f3 p (by omega)).symm)
          · exact a2 ⟨p, by omega, hne⟩
        · rw [st k]
          unfold fX0_elect_B32
          simp (disch := omega) only [e, qle, eC_role h' w hi hL', ob, a1, if_true, xrdN]
          rw [if_neg (by omega), if_pos c]
      · refine fin (nI 1) (Or.inr ⟨rfl, ⟨i, by omega, fun q => c (by rw [f3 i (by omega), q])⟩⟩) (fun k => ?_)
        rw [st k]
        unfold fX0_elect_B32
        simp (disch := omega) only [e, qle, eC_role h' w hi hL', ob, a1, if_true, xrdN]
        rw [if_neg (by omega), if_neg c]
    · obtain ⟨p, hp, hne⟩ := a2
      refine fin (nI 1) (Or.inr ⟨rfl, ⟨p, by omega, hne⟩⟩) (fun k => ?_)
      rw [st k]
      unfold fX0_elect_B32
      simp (disch := omega) only [e, qle, eC_role h' w hi hL', ob, a1, qeq]
      rw [if_neg (by omega), if_neg (by decide)]
theorem eC_elect (h : AC S M) (w : WF S) : ∃ (v : Int32) (M' : xM), fX0_elect M = some (v, M') ∧ Fq [16, 17, 18, 19, 21] [20] M M' ∧ LC S M' ∧ LPo S M' ∧ zB v (∃ p, p < S 2 ∧ M.1 19 p ≠ nI (zRo S p)) := by
  unfold fX0_elect
  obtain ⟨M1, e1, f1, E1⟩ := eC_find h w
  have h1 := h.fr f1 (by decide) (by decide)
  obtain ⟨M2, ⟨f2, L2⟩, e2⟩ := eC_el1 h1 w E1
  have h2 := h1.fr f2 (by decide) (by decide)
  obtain ⟨s, ⟨f3, P3, b3⟩, e3⟩ := eC_el2 h2 w L2
  rw [e1]
  simp only [ob, e2, e3]
  have b3' : zB s.2 (∃ p, p < S 2 ∧ M.1 19 p ≠ nI (zRo S p)) := by
    rw [f2.1 19 (by decide), f1.1 19 (by decide)] at b3
    exact b3
  have hz : xzb s.2 (some (s.2, s.1)) = some (s.2, s.1) := by
    unfold xzb
    rcases b3 with ⟨a, -⟩ | ⟨a, -⟩
    · rw [a]; exact if_pos (Or.inl rfl)
    · rw [a]; exact if_pos (Or.inr rfl)
  refine ⟨s.2, s.1, hz, ((f1.up (by decide) (by decide)).tr (f2.up (ks := [16, 17, 18, 19, 21]) (js := [20]) (by decide) (by decide)) (fun _ h => h) (fun _ h => h)).tr f3 (by decide) (by decide), ?_, P3, b3'⟩
  intro b hb
  unfold LC1
  rw [f3.1 16 (by decide), f3.1 17 (by decide), f3.1 18 (by decide)]
  exact L2 b hb
end CG
