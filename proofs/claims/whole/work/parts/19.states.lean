def zGs (S : Nat → Nat) (r p : Nat) : Nat := if r = 0 then S (117 + p) else if r = 3 ∨ r = 4 then 1 else if S (117 + p) = 1 then 2 else if S (117 + p) = 2 ∨ S (117 + p) = 3 then (if S (141 + p) - 1 = 0 then S (117 + p) + 1 else S (117 + p)) else S (117 + p)
def zGc (S : Nat → Nat) (r p : Nat) : Nat := if r = 0 ∨ r = 3 ∨ r = 4 then S (141 + p) else if S (117 + p) = 1 then 2 else if S (117 + p) = 2 ∨ S (117 + p) = 3 then (if S (141 + p) - 1 = 0 then 2 else S (141 + p) - 1) else S (141 + p)
noncomputable def zS2 (S : Nat → Nat) (n : Nat) : Nat → Nat := fun j => if 117 ≤ j ∧ j < 117 + n then zGs S (zRo S (j - 117)) (j - 117) else if 141 ≤ j ∧ j < 141 + n then zGc S (zRo S (j - 141)) (j - 141) else S j
section ST
variable {S : Nat → Nat} {M : xM}
theorem zS2_out {n j : Nat} (hn : n ≤ 24) (hj : j < 117 ∨ 165 ≤ j) : zS2 S n j = S j := by
  unfold zS2
  rw [if_neg (by omega), if_neg (by omega)]
theorem zS2_st {n p : Nat} (hn : n ≤ 24) (hp : p < 24) : zS2 S n (117 + p) = if p < n then zGs S (zRo S p) p else S (117 + p) := by
  unfold zS2
  by_cases c : p < n
  · rw [if_pos c, if_pos (by omega), show 117 + p - 117 = p by omega]
  · rw [if_neg c, if_neg (by omega), if_neg (by omega)]
theorem zS2_ct {n p : Nat} (hn : n ≤ 24) (hp : p < 24) : zS2 S n (141 + p) = if p < n then zGc S (zRo S p) p else S (141 + p) := by
  unfold zS2
  rw [if_neg (by omega)]
  by_cases c : p < n
  · rw [if_pos c, if_pos (by omega), show 141 + p - 141 = p by omega]
  · rw [if_neg c, if_neg (by omega)]
theorem zS2_s {n j : Nat} (hn : n < 24) : zS2 S (n + 1) j = if j = 117 + n then zGs S (zRo S n) n else if j = 141 + n then zGc S (zRo S n) n else zS2 S n j := by
  by_cases c : j = 117 + n
  · subst c; rw [if_pos rfl, zS2_st (by omega) hn, if_pos (by omega)]
  rw [if_neg c]
  by_cases d : j = 141 + n
  · subst d; rw [if_pos rfl, zS2_ct (by omega) hn, if_pos (by omega)]
  rw [if_neg d]
  unfold zS2
  by_cases e : 117 ≤ j ∧ j < 117 + n
  · rw [if_pos e, if_pos (by omega)]
  rw [if_neg e, if_neg (by omega)]
  by_cases g : 141 ≤ j ∧ j < 141 + n
  · rw [if_pos g, if_pos (by omega)]
  rw [if_neg g, if_neg (by omega)]
theorem zS2_M {n p v : Nat} (hn : n ≤ 24) : zM (zS2 S n) p v = zM S p v := by
  unfold zM
  rw [zS2_out hn (by omega)]
theorem zG_ok (w : WF S) {p r : Nat} (hp : p < 24) : zGs S r p ≤ 4 ∧ ((zGs S r p = 2 ∨ zGs S r p = 3) → 1 ≤ zGc S r p ∧ zGc S r p ≤ 2) := by
  have h1 := (w.2.2.1 p hp).2.2.2.2.1
  have h2 := w.2.2.2.2.1 p hp
  unfold zGs zGc
  by_cases c0 : r = 0
  · rw [if_pos c0, if_pos (Or.inl c0)]; exact ⟨h1, h2⟩
  rw [if_neg c0]
  by_cases c3 : r = 3 ∨ r = 4
  · rw [if_pos c3]; exact ⟨by omega, fun z => by omega⟩
  rw [if_neg c3, if_neg (show ¬ (r = 0 ∨ r = 3 ∨ r = 4) by omega)]
  by_cases c1 : S (117 + p) = 1
  · rw [if_pos c1, if_pos c1]; exact ⟨by omega, fun z => by omega⟩
  rw [if_neg c1, if_neg c1]
  by_cases c2 : S (117 + p) = 2 ∨ S (117 + p) = 3
  · have := h2 c2
    rw [if_pos c2, if_pos c2]
    by_cases d : S (141 + p) - 1 = 0
    · rw [if_pos d, if_pos d]; exact ⟨by omega, fun z => by omega⟩
    · rw [if_neg d, if_neg d]; exact ⟨by omega, fun z => by omega⟩
  · rw [if_neg c2, if_neg c2]; exact ⟨by omega, fun z => absurd z c2⟩
theorem zS2_wf (w : WF S) {n : Nat} (hn : n ≤ 24) : WF (zS2 S n) := by
  have o : ∀ j, j < 117 ∨ 165 ≤ j → zS2 S n j = S j := fun j hj => zS2_out hn hj
  obtain ⟨a1, a2, a3, a4, a5, a6, a7, a8⟩ := id w
  refine ⟨?_, ?_, ?_, ?_, ?_, ?_, ?_, ?_⟩
  · rw [o 0 (by omega), o 1 (by omega), o 2 (by omega), o 3 (by omega)]; exact a1
  · intro b hb; rw [o _ (by omega), o _ (by omega)]; exact a2 b hb
  · intro p hp
    rw [o (21 + p) (by omega), o (45 + p) (by omega), o (69 + p) (by omega), o (93 + p) (by omega), zS2_M hn, zS2_st hn hp]
    obtain ⟨b1, b2, b3, b4, b5, b6⟩ := a3 p hp
    refine ⟨b1, b2, b3, b4, ?_, b6⟩
    by_cases c : p < n
    · rw [if_pos c]; exact (zG_ok w hp).1
    · rw [if_neg c]; exact b5
  · intro p hp
    rw [o 2 (by omega)] at hp
    have : S 2 ≤ 24 := a1.2.2.1
    rw [o (21 + p) (by omega), o (45 + p) (by omega), o 0 (by omega), o 1 (by omega)]
    exact a4 p hp
  · intro p hp
    rw [zS2_st hn hp, zS2_ct hn hp]
    by_cases c : p < n
    · rw [if_pos c, if_pos c]; exact (zG_ok w hp).2
    · rw [if_neg c, if_neg c]; exact a5 p hp
  · intro p hp
    rw [zS2_M hn, zS2_M hn, zS2_M hn, zS2_M hn, zS2_M hn]
    exact a6 p hp
  · intro s hs; rw [o _ (by omega)]; exact a7 s hs
  · intro k hk; rw [o _ (by omega), o _ (by omega)]; exact a8 k hk
theorem AC.st {T T' : Nat → Nat} {M M' : xM} {p : Nat} (hp : p < 24) (h : AC T M) (ho : ∀ j, j ≠ 117 + p → j ≠ 141 + p → T' j = T j) (hr : ∀ k, k ≠ 7 → k ≠ 8 → M'.1 k = M.1 k) (h7 : M'.1 7 = upd (M.1 7) p (nI (T' (117 + p)))) (h8 : ∀ i, i ≠ p → M'.1 8 i = M.1 8 i) (h8p : T' (117 + p) = 2 ∨ T' (117 + p) = 3 → M'.1 8 p = nI (T' (141 + p))) (h9 : M'.2 = M.2) : AC T' M' := by
  obtain ⟨a1, a2, a3, a4⟩ := h
  have hm : ∀ i v, zM T' i v = zM T i v := fun i v => ho _ (by omega) (by omega)
  refine ⟨fun t ht i hi => ?_, fun i hi => ?_, fun i hi h0 => ?_, fun i hi h0 => ?_⟩
  · have d1 : ∀ t, t ∈ zT → t = (7, 117, 24) ∨ (t.1 ≠ 7 ∧ t.1 ≠ 8 ∧ (t.2.1 + t.2.2 ≤ 117 ∨ 165 ≤ t.2.1)) := by decide
    rcases d1 t ht with rfl | ⟨d2, d3, d4⟩
    · show M'.1 7 i = nI (T' (117 + i))
      have hi : i < 24 := hi
      rw [h7]
      by_cases c : i = p
      · subst c; exact us _ _ _
      · rw [un _ _ c, ho _ (by omega) (by omega)]; exact a1 (7, 117, 24) (by decide) i hi
    · rw [hr _ d2 d3, ho _ (by omega) (by omega)]
      exact a1 t ht i hi
  · rw [hr _ (by decide) (by decide), hm]; exact a2 i hi
  · rw [hm] at h0
    have e : zMk T' i = zMk T i := by unfold zMk; rw [hm, hm, hm, hm]
    rw [h9, e]
    exact a3 i hi h0
  · by_cases c : i = p
    · subst c; exact h8p h0
    · rw [ho (117 + i) (by omega) (by omega)] at h0
      rw [h8 i c, ho (141 + i) (by omega) (by omega)]
      exact a4 i hi h0
theorem eC_mv {p : Nat} (h : AC (zS2 S p) M) (w : WF S) (hp : p < 24) : ∃ M', fX4_moveState M (nI p) (nI (zRo S p)) = some M' ∧ Fq [7, 8] [] M M' ∧ AC (zS2 S (p + 1)) M' := by
  have hn : p ≤ 24 := by omega
  have hr := zRo_le (S := S) p
  have b5 := (w.2.2.1 p hp).2.2.2.2.1
  have cnt := w.2.2.2.2.1 p hp
  have t7 : zS2 S p (117 + p) = S (117 + p) := by rw [zS2_st hn hp, if_neg (by omega)]
  have t8 : zS2 S p (141 + p) = S (141 + p) := by rw [zS2_ct hn hp, if_neg (by omega)]
  have r7 : M.1 7 p = nI (S (117 + p)) := by rw [h.r7 p hp, t7]
  have ho : ∀ j, j ≠ 117 + p → j ≠ 141 + p → zS2 S (p + 1) j = zS2 S p j := fun j h1 h2 => by rw [zS2_s hp, if_neg h1, if_neg h2]
  have u7 : zS2 S (p + 1) (117 + p) = zGs S (zRo S p) p := by rw [zS2_st (by omega) hp, if_pos (by omega)]
  have u8 : zS2 S (p + 1) (141 + p) = zGc S (zRo S p) p := by rw [zS2_ct (by omega) hp, if_pos (by omega)]
  have upid : ∀ (f : Nat → Int32) (k : Nat) (v : Int32), f k = v → f = upd f k v := by
    intro f k v e
    funext j
    by_cases d : j = k
    · subst d; rw [us]; exact e
    · rw [un _ _ d]
  have same : zGs S (zRo S p) p = S (117 + p) → (S (117 + p) = 2 ∨ S (117 + p) = 3 → zGc S (zRo S p) p = S (141 + p)) → Fq [7, 8] [] M M ∧ AC (zS2 S (p + 1)) M := by
    intro e1 e2
    refine ⟨Fq.rf, h.st hp ho (fun _ _ _ => rfl) ?_ (fun _ _ => rfl) (fun z => ?_) rfl⟩
    · rw [u7, e1]; exact upid _ _ _ r7
    · rw [u7, e1] at z
      rw [u8, e2 z, ← t8]
      exact h.r8 p hp (by rw [t7]; exact z)
  have ent : ∀ (a b : Nat), zGs S (zRo S p) p = a → (a = 2 ∨ a = 3 → zGc S (zRo S p) p = b) → ∀ M0 : xM, (∀ i, i ≠ p → M0.1 8 i = M.1 8 i) → (∀ k, k ≠ 8 → M0.1 k = M.1 k) → M0.2 = M.2 → ∃ M', fX4_enterState M0 (nI p) (nI a) (nI b) = some M' ∧ Fq [7, 8] [] M M' ∧ AC (zS2 S (p + 1)) M' := by
    intro a b e1 e2 M0 g1 g2 g3
    unfold fX4_enterState
    simp (disch := omega) only [xwIN]
    refine ⟨_, rfl, ⟨fun k hk => ?_, fun k _ => ?_⟩, h.st hp ho (fun k h1 h2 => ?_) ?_ (fun i hi => ?_) (fun z => ?_) g3⟩
    · have k7 : k ≠ 7 := fun z => hk (by rw [z]; decide)
      have k8 : k ≠ 8 := fun z => hk (by rw [z]; decide)
      rw [rIn _ _ _ k8, rIn _ _ _ k7]; exact g2 k k8
    · rw [rI2, rI2, g3]
    · rw [rIn _ _ _ h2, rIn _ _ _ h1]; exact g2 k h2
    · rw [rIn _ _ _ (show 7 ≠ 8 by decide), rI1, u7, e1, g2 7 (by decide)]
    · rw [rI1, rIn _ _ _ (show 8 ≠ 7 by decide), un _ _ hi]; exact g1 i hi
    · rw [u7, e1] at z
      rw [rI1, us, u8, e2 z]
  have tow : zRo S p = 1 ∨ zRo S p = 2 → ∃ M', fX4_moveTowardsForwarding M (nI p) = some M' ∧ Fq [7, 8] [] M M' ∧ AC (zS2 S (p + 1)) M' := by
    intro hro
    unfold fX4_moveTowardsForwarding
    simp (disch := omega) only [xrdN, r7, qeq]
    have g0 : ¬ (zRo S p = 0 ∨ zRo S p = 3 ∨ zRo S p = 4) := by omega
    by_cases c1 : S (117 + p) = 1
    · rw [if_pos c1]
      obtain ⟨M', e, f, a⟩ := ent 2 2 (by unfold zGs; rw [if_neg (by omega), if_neg (by omega), if_pos c1]) (fun _ => by unfold zGc; rw [if_neg g0, if_pos c1]) M (fun _ _ => rfl) (fun _ _ => rfl) rfl
      rw [e]
      exact ⟨M', rfl, f, a⟩
    · rw [if_neg c1]
      have j35 : S (117 + p) = 2 ∨ S (117 + p) = 3 → ∃ M', fX4_moveTowardsForwarding_j35 M (nI p) (nI (S (117 + p))) = some M' ∧ Fq [7, 8] [] M M' ∧ AC (zS2 S (p + 1)) M' := by
        intro c2
        have hc := cnt c2
        have r8 : M.1 8 p = nI (S (141 + p)) := by rw [h.r8 p hp (by rw [t7]; exact c2), t8]
        unfold fX4_moveTowardsForwarding_j35
        simp (disch := omega) only [xrdN, xwIN, r8, pk_sub, rI1, us, qlt, qeq]
        by_cases d : S (141 + p) - 1 = 0
        · rw [if_neg (by omega)]
          have m0 : ∀ i, i ≠ p → (xI M 8 p (nI (S (141 + p) - 1))).1 8 i = M.1 8 i := fun i hi => by rw [rI1, un _ _ hi]
          have m1 : ∀ k, k ≠ 8 → (xI M 8 p (nI (S (141 + p) - 1))).1 k = M.1 k := fun k hk => rIn _ _ _ hk
          have hgs : zGs S (zRo S p) p = S (117 + p) + 1 := by unfold zGs; rw [if_neg (by omega), if_neg (by omega), if_neg c1, if_pos c2, if_pos d]
          by_cases c3 : S (117 + p) = 2
          · rw [if_pos c3]
            unfold fX4_moveTowardsForwarding_j75
            simp only [nI_add]
            obtain ⟨M', e, f, a⟩ := ent (S (117 + p) + 1) 2 hgs (fun _ => by unfold zGc; rw [if_neg g0, if_neg c1, if_pos c2, if_pos d]) _ m0 m1 rfl
            rw [e]
            exact ⟨M', rfl, f, a⟩
          · rw [if_neg c3]
            unfold fX4_moveTowardsForwarding_j75
            simp only [nI_add]
            obtain ⟨M', e, f, a⟩ := ent (S (117 + p) + 1) 0 hgs (fun z => by omega) _ m0 m1 rfl
            rw [e]
            exact ⟨M', rfl, f, a⟩
        · rw [if_pos (by omega)]
          have hgs : zGs S (zRo S p) p = S (117 + p) := by unfold zGs; rw [if_neg (by omega), if_neg (by omega), if_neg c1, if_pos c2, if_neg d]
          have hgc : zGc S (zRo S p) p = S (141 + p) - 1 := by unfold zGc; rw [if_neg g0, if_neg c1, if_pos c2, if_neg d]
          refine ⟨_, rfl, Fq.rf.I (by decide) _ _, h.st hp ho (fun k _ h2 => rIn _ _ _ h2) ?_ (fun i hi => ?_) (fun z => ?_) rfl⟩
          · rw [rIn _ _ _ (show 7 ≠ 8 by decide), u7, hgs]; exact upid _ _ _ r7
          · rw [rI1, un _ _ hi]
          · rw [rI1, us, u8, hgc]
      by_cases c2 : S (117 + p) = 2
      · rw [if_pos c2]; exact j35 (Or.inl c2)
      · rw [if_neg c2]
        by_cases c3 : S (117 + p) = 3
        · rw [if_pos c3]; exact j35 (Or.inr c3)
        · rw [if_neg c3]
          exact ⟨M, rfl, same (by unfold zGs; rw [if_neg (by omega), if_neg (by omega), if_neg c1, if_neg (by omega)]) (fun z => by omega)⟩
  unfold fX4_moveState
  simp (disch := omega) only [qeq]
  have j10 : zRo S p = 3 ∨ zRo S p = 4 → ∃ M', fX4_moveState_j10 M (nI p) = some M' ∧ Fq [7, 8] [] M M' ∧ AC (zS2 S (p + 1)) M' := by
    intro hro
    unfold fX4_moveState_j10
    obtain ⟨M', e, f, a⟩ := ent 1 0 (by unfold zGs; rw [if_neg (by omega), if_pos hro]) (fun z => by omega) M (fun _ _ => rfl) (fun _ _ => rfl) rfl
    rw [e]
    exact ⟨M', rfl, f, a⟩
  have j30 : zRo S p = 1 ∨ zRo S p = 2 → ∃ M', fX4_moveState_j30 M (nI p) = some M' ∧ Fq [7, 8] [] M M' ∧ AC (zS2 S (p + 1)) M' := by
    intro hro
    unfold fX4_moveState_j30
    obtain ⟨M', e, f, a⟩ := tow hro
    rw [e]
    exact ⟨M', rfl, f, a⟩
  by_cases d3 : zRo S p = 3
  · rw [if_pos d3]; exact j10 (Or.inl d3)
  rw [if_neg d3]
  by_cases d4 : zRo S p = 4
  · rw [if_pos d4]; exact j10 (Or.inr d4)
  rw [if_neg d4]
  by_cases d1 : zRo S p = 1
  · rw [if_pos d1]; exact j30 (Or.inl d1)
  rw [if_neg d1]
  by_cases d2 : zRo S p = 2
  · rw [if_pos d2]; exact j30 (Or.inr d2)
  rw [if_neg d2]
  exact ⟨M, rfl, same (by unfold zGs; rw [if_pos (by omega)]) (fun _ => by unfold zGc; rw [if_pos (by omega)])⟩
theorem eC_mvs (h : AC S M) (w : WF S) (hP : LPo S M) : ∃ (v : Int32) (M' : xM), fX4_moveStates M = some (v, M') ∧ Fq [7, 8] [] M M' ∧ AC (zS2 S (S 2)) M' ∧ zB v (∃ p, p < S 2 ∧ zGs S (zRo S p) p ≠ S (117 + p)) := by
  obtain ⟨w0, w1, w2, w3⟩ := w.1
  have h0 : zS2 S 0 = S := by
    funext j
    unfold zS2
    rw [if_neg (by omega), if_neg (by omega)]
  have key := lp0 (fun (k : xM × Int32 → Option (Int32 × xM)) n (s : xM × Int32) v => fX4_moveStates_L4 (fun M v1 => k (M, v1)) n s.1 s.2 v) (fun i s => Fq [7, 8] [] M s.1 ∧ AC (zS2 S i) s.1 ∧ zB s.2 (∃ p, p < i ∧ zGs S (zRo S p) p ≠ S (117 + p))) (S 2) (by omega) (M, nI 0) ⟨Fq.rf, by rw [h0]; exact h, Or.inl ⟨rfl, fun ⟨p, hp, _⟩ => by omega⟩⟩ ?_ ?_
  · obtain ⟨s, ⟨g1, g2, g3⟩, e⟩ := key
    unfold fX4_moveStates
    refine ⟨s.2, s.1, (e (fun s => xzb s.2 (some (s.2, s.1)))).trans ?_, g1, g2, g3⟩
    unfold xzb
    rcases g3 with ⟨a, -⟩ | ⟨a, -⟩
    · rw [a]; exact if_pos (Or.inl rfl)
    · rw [a]; exact if_pos (Or.inr rfl)
  · intro k n s hI
    have e : s.1.1 0 2 = nI (S 2) := by rw [hI.1.1 0 (by decide)]; exact h.n2
    show fX4_moveStates_B4 _ s.1 s.2 (nI (S 2)) _ = k s
    unfold fX4_moveStates_B4
    simp (disch := omega) only [e, qle, Nat.le_refl, if_true]
  · intro n i s hi hI
    obtain ⟨f1, f2, f3⟩ := hI
    have hi24 : i < 24 := by omega
    have e : s.1.1 0 2 = nI (S 2) := by rw [f1.1 0 (by decide)]; exact h.n2
    have e19 : s.1.1 19 i = nI (zRo S i) := by rw [f1.1 19 (by decide)]; exact hP i hi
    have e7 : s.1.1 7 i = nI (S (117 + i)) := by rw [f2.r7 i hi24, zS2_st (by omega) hi24, if_neg (by omega)]
    obtain ⟨M2, q1, q2, q3⟩ := eC_mv f2 w hi24
    have e7' : M2.1 7 i = nI (zGs S (zRo S i) i) := by rw [q3.r7 i hi24, zS2_st (by omega) hi24, if_pos (by omega)]
    have g4 := (zG_ok w (r := zRo S i) hi24).1
    have b5 := (w.2.2.1 i hi24).2.2.2.2.1
    have st : ∀ k : xM × Int32 → Option (Int32 × xM), fX4_moveStates_L4 (fun M v1 => k (M, v1)) (n + 1) s.1 s.2 (nI i) = fX4_moveStates_B4 (fun M v1 => k (M, v1)) s.1 s.2 (nI i) (fun M v1 v2 => fX4_moveStates_L4 (fun M v1 => k (M, v1)) n M v1 v2) := fun k => rfl
    have fin : ∀ v, zB v (∃ p, p < i + 1 ∧ zGs S (zRo S p) p ≠ S (117 + p)) → (∀ k : xM × Int32 → Option (Int32 × xM), fX4_moveStates_L4 (fun M v1 => k (M, v1)) (n + 1) s.1 s.2 (nI i) = fX4_moveStates_j61 M2 (nI i) v (fun M v1 v2 => fX4_moveStates_L4 (fun M v1 => k (M, v1)) n M v1 v2)) → ∃ s' : xM × Int32, (Fq [7, 8] [] M s'.1 ∧ AC (zS2 S (i + 1)) s'.1 ∧ zB s'.2 (∃ p, p < i + 1 ∧ zGs S (zRo S p) p ≠ S (117 + p))) ∧ ∀ k : xM × Int32 → Option (Int32 × xM), fX4_moveStates_L4 (fun M v1 => k (M, v1)) (n + 1) s.1 s.2 (nI i) = fX4_moveStates_L4 (fun M v1 => k (M, v1)) n s'.1 s'.2 (nI (i + 1)) := by
      intro v hv hk
      refine ⟨(M2, v), ⟨f1.tr q2 (fun _ h => h) (fun _ h => h), q3, hv⟩, fun k => ?_⟩
      rw [hk k]
      unfold fX4_moveStates_j61
      rw [nI_add]
    rcases f3 with ⟨a1, a2⟩ | ⟨a1, a2⟩
    · by_cases c : zGs S (zRo S i) i = S (117 + i)
      · refine fin (nI 0) (Or.inl ⟨rfl, ?_⟩) (fun k => ?_)
        · rintro ⟨p, hp, hne⟩
          by_cases d : p = i
          · subst d; exact hne c
          · exact a2 ⟨p, by omega, hne⟩
        · rw [st k]
          unfold fX4_moveStates_B4
          simp (disch := omega) only [e, qle, xrdN, e7, e19, q1, ob, a1, if_true, e7', qeq]
          rw [if_neg (by omega), if_pos c]
      · refine fin (nI 1) (Or.inr ⟨rfl, ⟨i, by omega, c⟩⟩) (fun k => ?_)
        rw [st k]
        unfold fX4_moveStates_B4
        simp (disch := omega) only [e, qle, xrdN, e7, e19, q1, ob, a1, if_true, e7', qeq]
        rw [if_neg (by omega), if_neg c]
    · obtain ⟨p, hp, hne⟩ := a2
      refine fin (nI 1) (Or.inr ⟨rfl, ⟨p, by omega, hne⟩⟩) (fun k => ?_)
      rw [st k]
      unfold fX4_moveStates_B4
      simp (disch := omega) only [e, qle, xrdN, e7, e19, q1, ob, a1, qeq]
      rw [if_neg (by omega), if_neg (by decide)]
end ST
