section OT
variable {S : Nat → Nat} {M m : xM} {sl sv : Nat → Int32}
theorem zTk_wq (w : WF S) (q : WQ S) : WQ (zTk S) := by
  intro p hp hne
  have w2 := w.1.2.2.1
  have w1 := zT1_wf w
  have e := zTk_eq w
  have b1 := (w1.2.2.1 p hp).1
  have t1 : zT1 S (117 + p) = S (117 + p) := zS1_out w2 (by omega)
  have hst : zTk S (117 + p) = if p < S 2 then zGs (zT1 S) (zRo (zT1 S) p) p else zT1 S (117 + p) := by
    show zS4 (zS3 (zS2 (zT1 S) (S 2)) 64) (117 + p) = _
    unfold zS4
    rw [if_neg (by omega)]
    unfold zS3
    rw [if_neg (by omega), zS2_st w2 hp]
  have a1 : zAct (zTk S) p ↔ zAct (zT1 S) p := zAct_ag w1 e hp
  have a2 : zAct (zT1 S) p ↔ zAct S p := zS1_act w w2 hp
  rw [a1, e 2 (by omega), zT1_2 w]
  rw [hst] at hne
  by_cases c : p < S 2
  · rw [if_pos c] at hne
    by_cases d : zRo (zT1 S) p = 0
    · have : zGs (zT1 S) (zRo (zT1 S) p) p = zT1 S (117 + p) := by unfold zGs; rw [if_pos d]
      rw [this, t1] at hne
      exact ⟨c, a2.mpr (q p hp hne).2⟩
    · refine ⟨c, ?_⟩
      apply Classical.byContradiction
      intro z
      apply d
      unfold zRo
      exact if_neg z
  · rw [if_neg c, t1] at hne
    exact absurd (q p hp hne).1 c
def TJ (S : Nat → Nat) (sl sv : Nat → Int32) (M m : xM) : Prop := J S sl sv M m ∧ LC S M ∧ LPo S M
theorem tick1 (t : TJ S sl sv M m) : ∃ (v : Int32) (M' m' : xM), fX4_makeTick M = some (v, M') ∧ fX7_tickOnce m = some (v, m') ∧ TJ (zTk S) sl sv M' m' ∧ (v = nI 0 ∨ v = nI 1) := by
  obtain ⟨⟨h, g, g2, g3, w, q⟩, hL, hP⟩ := t
  obtain ⟨v, M', e1, a1, l1, p1, z1⟩ := eC_tick h w hL hP
  obtain ⟨v', m', e2, a2, f2, f3, z2⟩ := eR_tick g w
  have hv := z1.uq z2
  subst hv
  refine ⟨v, M', m', e1, e2, ⟨⟨a1, a2, f2.trans g2, f3.trans g3, zTk_wf w, zTk_wq w q⟩, l1, p1⟩, ?_⟩
  rcases z1 with ⟨z, -⟩ | ⟨z, -⟩
  · exact Or.inl z
  · exact Or.inr z
theorem ticks {N : Nat} (hN : N ≤ 50) : ∀ (d i n : Nat) (S : Nat → Nat) (M m : xM), TJ S sl sv M m → N = i + d → d < n → ∃ (M' m' : xM) (S' : Nat → Nat), TJ S' sl sv M' m' ∧ (∀ k, fX6_tick_L24 (nI N) k n M (nI i) = k M') ∧ ∀ k, fX7_tick_L15 (nI N) k n m (nI i) = k m' := by
  intro d
  induction d with
  | zero =>
    intro i n S M m t he hn
    obtain ⟨n, rfl⟩ : ∃ k, n = k + 1 := ⟨n - 1, by omega⟩
    refine ⟨M, m, S, t, fun k => ?_, fun k => ?_⟩
    · show fX6_tick_B24 (nI N) k M (nI i) _ = _
      unfold fX6_tick_B24
      simp (disch := omega) only [qle]
      rw [if_pos (by omega)]
    · show fX7_tick_B15 (nI N) k m (nI i) _ = _
      unfold fX7_tick_B15
      simp (disch := omega) only [qle]
      rw [if_pos (by omega)]
  | succ d ih =>
    intro i n S M m t he hn
    obtain ⟨n, rfl⟩ : ∃ k, n = k + 1 := ⟨n - 1, by omega⟩
    obtain ⟨v, M1, m1, e1, e2, t1, -⟩ := tick1 t
    obtain ⟨M', m', S', t', k1, k2⟩ := ih (i + 1) n _ M1 m1 t1 (by omega) (by omega)
    refine ⟨M', m', S', t', fun k => ?_, fun k => ?_⟩
    · show fX6_tick_B24 (nI N) k M (nI i) _ = _
      unfold fX6_tick_B24
      simp (disch := omega) only [qle, e1, ob, nI_add]
      rw [if_neg (by omega)]
      exact k1 k
    · show fX7_tick_B15 (nI N) k m (nI i) _ = _
      unfold fX7_tick_B15
      simp (disch := omega) only [qle, e2, ob, nI_add]
      rw [if_neg (by omega)]
      exact k2 k
theorem elect_TJ (j : J S sl sv M m) : ∃ (v : Int32) (M' : xM), fX0_elect M = some (v, M') ∧ TJ S sl sv M' m := by
  obtain ⟨h, g, g2, g3, w, q⟩ := id j
  obtain ⟨v, M', c1, c2, c3, c4, c5⟩ := eC_elect h w
  exact ⟨v, M', c1, j.frC c2 (by decide) (by decide), c3, c4⟩
theorem s_tick (j : J S sl sv M m) (x : Int32) : Rs sl sv (fX6_tick M x) (fX7_tick m x) := by
  unfold fX6_tick fX7_tick
  rcases Or.symm (inD m x (lo := 1) (hi := 50) (by omega) (by omega)) with ⟨h1, h2⟩ | ⟨N, h1, h2, rfl, h4⟩
  · rw [h2]
    by_cases c : x < nI 1
    · rw [if_pos c]; exact Rs.same j
    · rw [if_neg c]
      rcases h1 with z | z
      · exact absurd z c
      · rw [if_neg (Int32.not_le.mpr z)]; exact Rs.same j
  · rw [h4]
    obtain ⟨v, M1, e1, t1⟩ := elect_TJ j
    obtain ⟨M', m', S', t', k1, k2⟩ := ticks h2 N 0 512 S M1 m t1 (by omega) (by omega)
    simp only [ob, n10f, if_false]
    simp (disch := omega) only [qlt, qle, e1, ob, k1, k2, xrdN]
    rw [if_neg (by omega), if_pos h2, t'.1.1.n4, t'.1.2.1 4 (by decide)]
    exact ⟨_, _, _, _, rfl, rfl, t'.1⟩
theorem settles {N : Nat} (hN : N ≤ 200) : ∀ (d i n qt : Nat) (S : Nat → Nat) (M m : xM), TJ S sl sv M m → N + 1 = i + d → d < n → qt ≤ 7 → (∃ (M' m' : xM) (S' : Nat → Nat), TJ S' sl sv M' m' ∧ (∀ k, fX6_settle_L28 (nI N) k n M (nI qt) (nI i) = k M') ∧ ∀ k, fX7_settle_L19 (nI N) k n m (nI qt) (nI i) = k m') ∨ (∃ (v : Int32) (M' m' : xM) (S' : Nat → Nat), TJ S' sl sv M' m' ∧ (∀ k, fX6_settle_L28 (nI N) k n M (nI qt) (nI i) = some (v, M')) ∧ ∀ k, fX7_settle_L19 (nI N) k n m (nI qt) (nI i) = some (v, m')) := by
  intro d
  induction d with
  | zero =>
    intro i n qt S M m t he hn hq
    obtain ⟨n, rfl⟩ : ∃ k, n = k + 1 := ⟨n - 1, by omega⟩
    refine Or.inl ⟨M, m, S, t, fun k => ?_, fun k => ?_⟩
    · show fX6_settle_B28 (nI N) k M (nI qt) (nI i) _ = _
      unfold fX6_settle_B28
      simp (disch := omega) only [qlt]
      rw [if_pos (by omega)]
    · show fX7_settle_B19 (nI N) k m (nI qt) (nI i) _ = _
      unfold fX7_settle_B19
      simp (disch := omega) only [qlt]
      rw [if_pos (by omega)]
  | succ d ih =>
    intro i n qt S M m t he hn hq
    obtain ⟨n, rfl⟩ : ∃ k, n = k + 1 := ⟨n - 1, by omega⟩
    obtain ⟨v, M1, m1, e1, e2, t1, hv⟩ := tick1 t
    have st : ∀ (q2 : Nat), q2 ≤ 8 → (∀ k, fX6_settle_L28 (nI N) k (n + 1) M (nI qt) (nI i) = fX6_settle_j54 M1 (nI N) (nI i) (nI q2) (fun M v2 v3 => fX6_settle_L28 (nI N) k n M v2 v3)) → (∀ k, fX7_settle_L19 (nI N) k (n + 1) m (nI qt) (nI i) = fX7_settle_j38 m1 (nI N) (nI i) (nI q2) (fun M v2 v3 => fX7_settle_L19 (nI N) k n M v2 v3)) → (∃ (M' m' : xM) (S' : Nat → Nat), TJ S' sl sv M' m' ∧ (∀ k, fX6_settle_L28 (nI N) k (n + 1) M (nI qt) (nI i) = k M') ∧ ∀ k, fX7_settle_L19 (nI N) k (n + 1) m (nI qt) (nI i) = k m') ∨ (∃ (v : Int32) (M' m' : xM) (S' : Nat → Nat), TJ S' sl sv M' m' ∧ (∀ k, fX6_settle_L28 (nI N) k (n + 1) M (nI qt) (nI i) = some (v, M')) ∧ ∀ k, fX7_settle_L19 (nI N) k (n + 1) m (nI qt) (nI i) = some (v, m')) := by
      intro q2 hq2 c1 c2
      have d1 : ∀ k : xM → Option (Int32 × xM), fX6_settle_j54 M1 (nI N) (nI i) (nI q2) (fun M v2 v3 => fX6_settle_L28 (nI N) k n M v2 v3) = if q2 < 8 then fX6_settle_L28 (nI N) k n M1 (nI q2) (nI (i + 1)) else some (nI i, M1) := by
        intro k
        unfold fX6_settle_j54
        simp (disch := omega) only [qlt, nI_add]
      have d2 : ∀ k : xM → Option (Int32 × xM), fX7_settle_j38 m1 (nI N) (nI i) (nI q2) (fun M v2 v3 => fX7_settle_L19 (nI N) k n M v2 v3) = if q2 = 8 then some (nI i, m1) else fX7_settle_L19 (nI N) k n m1 (nI q2) (nI (i + 1)) := by
        intro k
        unfold fX7_settle_j38
        simp (disch := omega) only [qeq, nI_add]
      by_cases c : q2 = 8
      · refine Or.inr ⟨nI i, M1, m1, _, t1, fun k => ?_, fun k => ?_⟩
        · rw [c1, d1, if_neg (by omega)]
        · rw [c2, d2, if_pos c]
      · rcases ih (i + 1) n q2 _ M1 m1 t1 (by omega) (by omega) (by omega) with ⟨M', m', S', t', k1, k2⟩ | ⟨v, M', m', S', t', k1, k2⟩
        · refine Or.inl ⟨M', m', S', t', fun k => ?_, fun k => ?_⟩
          · rw [c1, d1, if_pos (by omega), k1]
          · rw [c2, d2, if_neg c, k2]
        · refine Or.inr ⟨v, M', m', S', t', fun k => ?_, fun k => ?_⟩
          · rw [c1, d1, if_pos (by omega), k1]
          · rw [c2, d2, if_neg c, k2]
    rcases hv with hv | hv
    · refine st (qt + 1) (by omega) (fun k => ?_) (fun k => ?_)
      · show fX6_settle_B28 (nI N) k M (nI qt) (nI i) _ = _
        unfold fX6_settle_B28
        simp (disch := omega) only [qlt, e1, ob, hv, if_true, nI_add]
        rw [if_neg (by omega)]
      · show fX7_settle_B19 (nI N) k m (nI qt) (nI i) _ = _
        unfold fX7_settle_B19
        simp (disch := omega) only [qlt, e2, ob, hv, if_true, nI_add]
        rw [if_neg (by omega)]
    · refine st 0 (by omega) (fun k => ?_) (fun k => ?_)
      · show fX6_settle_B28 (nI N) k M (nI qt) (nI i) _ = _
        unfold fX6_settle_B28
        simp (disch := omega) only [qlt, e1, ob, hv, n10f, if_false]
        rw [if_neg (by omega)]
      · show fX7_settle_B19 (nI N) k m (nI qt) (nI i) _ = _
        unfold fX7_settle_B19
        simp (disch := omega) only [qlt, e2, ob, hv, n10f, if_false]
        rw [if_neg (by omega)]
theorem s_settle (j : J S sl sv M m) (x : Int32) : Rs sl sv (fX6_settle M x) (fX7_settle m x) := by
  unfold fX6_settle fX7_settle
  rcases Or.symm (inD m x (lo := 8) (hi := 200) (by omega) (by omega)) with ⟨h1, h2⟩ | ⟨N, h1, h2, rfl, h4⟩
  · rw [h2]
    by_cases c : x < nI 8
    · rw [if_pos c]; exact Rs.same j
    · rw [if_neg c]
      rcases h1 with z | z
      · exact absurd z c
      · rw [if_neg (Int32.not_le.mpr z)]; exact Rs.same j
  · rw [h4]
    obtain ⟨v, M1, e1, t1⟩ := elect_TJ j
    simp only [ob, n10f, if_false]
    rcases settles h2 N 1 512 0 S M1 m t1 (by omega) (by omega) (by omega) with ⟨M', m', S', t', k1, k2⟩ | ⟨v, M', m', S', t', k1, k2⟩
    · simp (disch := omega) only [qlt, qle, e1, ob, k1, k2]
      rw [if_neg (by omega), if_pos h2]
      exact ⟨_, _, _, _, rfl, rfl, t'.1⟩
    · simp (disch := omega) only [qlt, qle, e1, ob, k1, k2]
      rw [if_neg (by omega), if_pos h2]
      exact ⟨_, _, _, _, rfl, rfl, t'.1⟩
end OT
