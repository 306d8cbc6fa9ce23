section TR
variable {S : Nat → Nat} {m : xM}
theorem eR_go {p : Nat} (h : RA (zS2 S p) m) (w : WF S) (hp : p < 24) (h8 : m.1 8 p = nI (zRo S p)) (h0 : zRo S p ≠ 0) : ∃ m', fX7_goOn m (nI p) = some m' ∧ Fq [1] [] m m' ∧ RA (zS2 S (p + 1)) m' := by
  have hn : p ≤ 24 := by omega
  have hr := zRo_le (S := S) p
  have b5 := (w.2.2.1 p hp).2.2.2.2.1
  have cnt := w.2.2.2.2.1 p hp
  have t7 : zS2 S p (117 + p) = S (117 + p) := by rw [zS2_st hn hp, if_neg (by omega)]
  have t8 : zS2 S p (141 + p) = S (141 + p) := by rw [zS2_ct hn hp, if_neg (by omega)]
  have r7 : m.1 1 (117 + p) = nI (S (117 + p)) := by rw [h _ (by omega), t7]
  have r8 : m.1 1 (141 + p) = nI (S (141 + p)) := by rw [h _ (by omega), t8]
  have fin : ∀ (a b : Nat), zGs S (zRo S p) p = a → zGc S (zRo S p) p = b → ∀ m' : xM, Fq [1] [] m m' → (∀ j, j ≠ 117 + p → j ≠ 141 + p → m'.1 1 j = m.1 1 j) → m'.1 1 (117 + p) = nI a → m'.1 1 (141 + p) = nI b → Fq [1] [] m m' ∧ RA (zS2 S (p + 1)) m' := by
    intro a b e1 e2 m' f g1 g2 g3
    refine ⟨f, fun j hj => ?_⟩
    rw [zS2_s hp]
    by_cases c : j = 117 + p
    · subst c; rw [if_pos rfl, g2, e1]
    rw [if_neg c]
    by_cases d : j = 141 + p
    · subst d; rw [if_pos rfl, g3, e2]
    rw [if_neg d, g1 j c d]
    exact h j hj
  have j30 : zRo S p = 3 ∨ zRo S p = 4 → ∃ m', fX7_goOn_j30 m (nI p) = some m' ∧ Fq [1] [] m m' ∧ RA (zS2 S (p + 1)) m' := by
    intro hro
    unfold fX7_goOn_j30
    simp (disch := omega) only [nI_add, xwIN]
    refine ⟨_, rfl, fin 1 (S (141 + p)) (by unfold zGs; rw [if_neg h0, if_pos hro]) (by unfold zGc; rw [if_pos (by omega)]) _ (Fq.rf.I (by decide) _ _) (fun j c _ => ?_) ?_ ?_⟩
    · rw [rI1, un _ _ c]
    · rw [rI1, us]
    · rw [rI1, un _ _ (by omega), r8]
  unfold fX7_goOn
  simp (disch := omega) only [nI_add, xrdN, r7, h8, qeq]
  by_cases d3 : zRo S p = 3
  · rw [if_pos d3]; exact j30 (Or.inl d3)
  rw [if_neg d3]
  by_cases d4 : zRo S p = 4
  · rw [if_pos d4]; exact j30 (Or.inr d4)
  rw [if_neg d4]
  have g0 : ¬ (zRo S p = 0 ∨ zRo S p = 3 ∨ zRo S p = 4) := by omega
  by_cases c1 : S (117 + p) = 1
  · rw [if_pos c1]
    simp (disch := omega) only [xwIN]
    refine ⟨_, rfl, fin 2 2 (by unfold zGs; rw [if_neg h0, if_neg (by omega), if_pos c1]) (by unfold zGc; rw [if_neg g0, if_pos c1]) _ ((Fq.rf.I (by decide) _ _).I (by decide) _ _) (fun j c d => ?_) ?_ ?_⟩
    · rw [rI1, rI1, un _ _ d, un _ _ c]
    · rw [rI1, rI1, un _ _ (by omega), us]
    · rw [rI1, us]
  rw [if_neg c1]
  have j82 : S (117 + p) = 2 ∨ S (117 + p) = 3 → ∃ m', fX7_goOn_j82 m (nI p) (nI (S (117 + p))) = some m' ∧ Fq [1] [] m m' ∧ RA (zS2 S (p + 1)) m' := by
    intro c2
    have hc := cnt c2
    unfold fX7_goOn_j82
    simp (disch := omega) only [nI_add, xrdN, xwIN, r8, pk_sub, rI1, us, qeq]
    by_cases d : S (141 + p) - 1 = 0
    · rw [if_pos d]
      refine ⟨_, rfl, fin (S (117 + p) + 1) 2 (by unfold zGs; rw [if_neg h0, if_neg (by omega), if_neg c1, if_pos c2, if_pos d]) (by unfold zGc; rw [if_neg g0, if_neg c1, if_pos c2, if_pos d]) _ (((Fq.rf.I (by decide) _ _).I (by decide) _ _).I (by decide) _ _) (fun j c d => ?_) ?_ ?_⟩
      · rw [rI1, rI1, rI1, un _ _ d, un _ _ c, un _ _ d]
      · rw [rI1, rI1, un _ _ (by omega), us]
      · rw [rI1, us]
    · rw [if_neg d]
      refine ⟨_, rfl, fin (S (117 + p)) (S (141 + p) - 1) (by unfold zGs; rw [if_neg h0, if_neg (by omega), if_neg c1, if_pos c2, if_neg d]) (by unfold zGc; rw [if_neg g0, if_neg c1, if_pos c2, if_neg d]) _ (Fq.rf.I (by decide) _ _) (fun j c d => ?_) ?_ ?_⟩
      · rw [rI1, un _ _ d]
      · rw [rI1, un _ _ (by omega), r7]
      · rw [rI1, us]
  by_cases c2 : S (117 + p) = 2
  · rw [if_pos c2]; exact j82 (Or.inl c2)
  rw [if_neg c2]
  by_cases c3 : S (117 + p) = 3
  · rw [if_pos c3]; exact j82 (Or.inr c3)
  rw [if_neg c3]
  exact ⟨m, rfl, fin (S (117 + p)) (S (141 + p)) (by unfold zGs; rw [if_neg h0, if_neg (by omega), if_neg c1, if_neg (by omega)]) (by unfold zGc; rw [if_neg g0, if_neg c1, if_neg (by omega)]) m Fq.rf (fun _ _ _ => rfl) r7 r8⟩
theorem eR_before (h : RA S m) (w : WF S) (hP : RPo S m) : ∃ m', (Fq [12] [] m m' ∧ ∀ p, p < S 2 → m'.1 12 p = nI (zRo S p)) ∧ ∀ K, fX7_tickOnce_L6 K 512 m (nI 0) = K m' := by
  obtain ⟨w0, w1, w2, w3⟩ := w.1
  refine lp0 (fun k n M v => fX7_tickOnce_L6 k n M v) (fun i m' => Fq [12] [] m m' ∧ ∀ p, p < i → m'.1 12 p = nI (zRo S p)) (S 2) (by omega) m ⟨Fq.rf, fun b hb => by omega⟩ ?_ ?_
  · intro k n m' hI
    have h' : RA S m' := h.fr hI.1 (by decide)
    show fX7_tickOnce_B6 k m' (nI (S 2)) _ = k m'
    unfold fX7_tickOnce_B6
    simp (disch := omega) only [eR_ports h', ob, qle, Nat.le_refl, if_true]
  · intro n i m' hi hI
    have h' : RA S m' := h.fr hI.1 (by decide)
    have e8 : m'.1 8 i = nI (zRo S i) := by rw [hI.1.1 8 (by decide)]; exact hP i hi
    refine ⟨xI m' 12 i (nI (zRo S i)), ⟨hI.1.I (by decide) _ _, fun p hp => ?_⟩, fun k => ?_⟩
    · rw [rI1]
      by_cases c : p = i
      · subst c; exact us _ _ _
      · rw [un _ _ c]; exact hI.2 p (by omega)
    · show fX7_tickOnce_B6 k m' (nI i) _ = _
      unfold fX7_tickOnce_B6
      simp (disch := omega) only [eR_ports h', ob, qle, xrdN, e8, xwIN, nI_add]
      rw [if_neg (by omega)]
theorem eR_hears (h : RA S m) (w : WF S) (hS : SR S m) : ∃ m', (Fq [1] [] m m' ∧ RA (zT1 S) m') ∧ ∀ K, fX7_tickOnce_L38 K 512 m (nI 0) = K m' := by
  obtain ⟨w0, w1, w2, w3⟩ := w.1
  have h0 : zS1 S 0 = S := by
    funext j
    exact if_neg (by omega)
  refine lp0 (fun k n M v => fX7_tickOnce_L38 k n M v) (fun i m' => Fq [1] [] m m' ∧ RA (zS1 S i) m') (S 2) (by omega) m ⟨Fq.rf, by rw [h0]; exact h⟩ ?_ ?_
  · intro k n m' hI
    have hp : fX7_ports m' = some (nI (S 2)) := by rw [eR_ports hI.2, zS1_out w2 (by omega)]
    show fX7_tickOnce_B38 k m' (nI (S 2)) _ = k m'
    unfold fX7_tickOnce_B38
    simp (disch := omega) only [hp, ob, qle, Nat.le_refl, if_true]
  · intro n i m' hi hI
    obtain ⟨f1, a1⟩ := hI
    have hp : fX7_ports m' = some (nI (S 2)) := by rw [eR_ports a1, zS1_out (by omega) (by omega)]
    have hS' : SR S m' := by
      intro p hp
      unfold SR1
      rw [f1.1 9 (by decide), f1.1 10 (by decide), f1.1 11 (by decide)]
      exact hS p hp
    obtain ⟨m2, e2, f2, a2⟩ := eR_hear a1 w hS' hi
    refine ⟨m2, ⟨f1.tr f2 (fun _ h => h) (fun _ h => h), a2⟩, fun k => ?_⟩
    show fX7_tickOnce_B38 k m' (nI i) _ = _
    unfold fX7_tickOnce_B38
    simp (disch := omega) only [hp, ob, qle, e2, nI_add]
    rw [if_neg (by omega)]
theorem eR_sts (h : RA S m) (w : WF S) (hP : RPo S m) {R : Nat → Nat} (hR : ∀ p, p < S 2 → m.1 12 p = nI (R p) ∧ R p ≤ 4) : ∃ s : xM × Int32, (Fq [1] [] m s.1 ∧ RA (zS2 S (S 2)) s.1 ∧ zB s.2 (∃ p, p < S 2 ∧ (zGs S (zRo S p) p ≠ S (117 + p) ∨ zRo S p ≠ R p))) ∧ ∀ K : xM → Int32 → Option (Int32 × xM), fX7_tickOnce_L65 K 512 m (nI 0) (nI 0) = K s.1 s.2 := by
  obtain ⟨w0, w1, w2, w3⟩ := w.1
  have h0 : zS2 S 0 = S := by
    funext j
    unfold zS2
    rw [if_neg (by omega), if_neg (by omega)]
  have key := lp0 (fun (k : xM × Int32 → Option (Int32 × xM)) n (s : xM × Int32) v => fX7_tickOnce_L65 (fun M v1 => k (M, v1)) n s.1 s.2 v) (fun i s => Fq [1] [] m s.1 ∧ RA (zS2 S i) s.1 ∧ zB s.2 (∃ p, p < i ∧ (zGs S (zRo S p) p ≠ S (117 + p) ∨ zRo S p ≠ R p))) (S 2) (by omega) (m, nI 0) ⟨Fq.rf, by rw [h0]; exact h, Or.inl ⟨rfl, fun ⟨p, hp, _⟩ => by omega⟩⟩ ?_ ?_
  · obtain ⟨s, g, e⟩ := key
    exact ⟨s, g, fun K => e (fun s => K s.1 s.2)⟩
  · intro k n s hI
    have hp : fX7_ports s.1 = some (nI (S 2)) := by rw [eR_ports hI.2.1, zS2_out w2 (by omega)]
    show fX7_tickOnce_B65 _ s.1 s.2 (nI (S 2)) _ = k s
    unfold fX7_tickOnce_B65
    simp (disch := omega) only [hp, ob, qle, Nat.le_refl, if_true]
  · intro n i s hi hI
    obtain ⟨f1, f2, f3⟩ := hI
    have hi24 : i < 24 := by omega
    have hp : fX7_ports s.1 = some (nI (S 2)) := by rw [eR_ports f2, zS2_out (by omega) (by omega)]
    have e8 : s.1.1 8 i = nI (zRo S i) := by rw [f1.1 8 (by decide)]; exact hP i hi
    have e12 : s.1.1 12 i = nI (R i) := by rw [f1.1 12 (by decide)]; exact (hR i hi).1
    have r4 := (hR i hi).2
    have ro4 := zRo_le (S := S) i
    have t7 : s.1.1 1 (117 + i) = nI (S (117 + i)) := by rw [f2 _ (by omega), zS2_st (by omega) hi24, if_neg (by omega)]
    have g4 := (zG_ok w (r := zRo S i) hi24).1
    have b5 := (w.2.2.1 i hi24).2.2.2.2.1
    have step : ∃ m2, Fq [1] [] s.1 m2 ∧ RA (zS2 S (i + 1)) m2 ∧ ∀ k : xM × Int32 → Option (Int32 × xM), fX7_tickOnce_L65 (fun M v1 => k (M, v1)) (n + 1) s.1 s.2 (nI i) = fX7_tickOnce_j97 m2 s.2 (nI i) (nI (S (117 + i))) (fun M v1 v2 => fX7_tickOnce_L65 (fun M v1 => k (M, v1)) n M v1 v2) := by
      by_cases c : zRo S i = 0
      · refine ⟨s.1, Fq.rf, fun j hj => ?_, fun k => ?_⟩
        · rw [zS2_s hi24]
          by_cases d : j = 117 + i
          · subst d; rw [if_pos rfl, t7]; unfold zGs; rw [if_pos c]
          rw [if_neg d]
          by_cases d2 : j = 141 + i
          · subst d2
            rw [if_pos rfl, f2 _ hj, zS2_ct (by omega) hi24, if_neg (by omega)]
            unfold zGc
            rw [if_pos (Or.inl c)]
          rw [if_neg d2]
          exact f2 j hj
        · show fX7_tickOnce_B65 _ s.1 s.2 (nI i) _ = _
          unfold fX7_tickOnce_B65
          simp (disch := omega) only [hp, ob, qle, nI_add, xrdN, t7, e8, qeq]
          rw [if_neg (by omega), if_pos c]
      · obtain ⟨m2, q1, q2, q3⟩ := eR_go f2 w hi24 e8 c
        refine ⟨m2, q2, q3, fun k => ?_⟩
        show fX7_tickOnce_B65 _ s.1 s.2 (nI i) _ = _
        unfold fX7_tickOnce_B65
        simp (disch := omega) only [hp, ob, qle, nI_add, xrdN, t7, e8, qeq, q1]
        rw [if_neg (by omega), if_neg c]
    obtain ⟨m2, q2, q3, q4⟩ := step
    have e7' : m2.1 1 (117 + i) = nI (zGs S (zRo S i) i) := by rw [q3 _ (by omega), zS2_st (by omega) hi24, if_pos (by omega)]
    have e8' : m2.1 8 i = nI (zRo S i) := by rw [q2.1 8 (by decide)]; exact e8
    have e12' : m2.1 12 i = nI (R i) := by rw [q2.1 12 (by decide)]; exact e12
    have fin : ∀ v, zB v (∃ p, p < i + 1 ∧ (zGs S (zRo S p) p ≠ S (117 + p) ∨ zRo S p ≠ R p)) → (∀ b65 : xM → Int32 → Int32 → Option (Int32 × xM), fX7_tickOnce_j97 m2 s.2 (nI i) (nI (S (117 + i))) b65 = fX7_tickOnce_j134 m2 (nI i) v b65) → ∃ s' : xM × Int32, (Fq [1] [] m s'.1 ∧ RA (zS2 S (i + 1)) s'.1 ∧ zB s'.2 (∃ p, p < i + 1 ∧ (zGs S (zRo S p) p ≠ S (117 + p) ∨ zRo S p ≠ R p))) ∧ ∀ k : xM × Int32 → Option (Int32 × xM), fX7_tickOnce_L65 (fun M v1 => k (M, v1)) (n + 1) s.1 s.2 (nI i) = fX7_tickOnce_L65 (fun M v1 => k (M, v1)) n s'.1 s'.2 (nI (i + 1)) := by
      intro v hv hk
      refine ⟨(m2, v), ⟨f1.tr q2 (fun _ h => h) (fun _ h => h), q3, hv⟩, fun k => ?_⟩
      rw [q4 k, hk]
      unfold fX7_tickOnce_j134
      rw [nI_add]
    rcases f3 with ⟨a1, a2⟩ | ⟨a1, a2⟩
    · by_cases c : zGs S (zRo S i) i = S (117 + i)
      · by_cases d : zRo S i = R i
        · refine fin (nI 0) (Or.inl ⟨rfl, ?_⟩) (fun b65 => ?_)
          · rintro ⟨p, hp, hne⟩
            by_cases d2 : p = i
            · subst d2
              rcases hne with z | z
              · exact z c
              · exact z d
            · exact a2 ⟨p, by omega, hne⟩
          · unfold fX7_tickOnce_j97
            simp (disch := omega) only [a1, if_true, nI_add, xrdN, e7', e8', e12', qeq]
            rw [if_pos c, if_pos d]
        · refine fin (nI 1) (Or.inr ⟨rfl, ⟨i, by omega, Or.inr d⟩⟩) (fun b65 => ?_)
          unfold fX7_tickOnce_j97
          simp (disch := omega) only [a1, if_true, nI_add, xrdN, e7', e8', e12', qeq]
          rw [if_pos c, if_neg d]
      · refine fin (nI 1) (Or.inr ⟨rfl, ⟨i, by omega, Or.inl c⟩⟩) (fun b65 => ?_)
        unfold fX7_tickOnce_j97
        simp (disch := omega) only [a1, if_true, nI_add, xrdN, e7', qeq]
        rw [if_neg c]
    · obtain ⟨p, hp, hne⟩ := a2
      refine fin (nI 1) (Or.inr ⟨rfl, ⟨p, by omega, hne⟩⟩) (fun b65 => ?_)
      unfold fX7_tickOnce_j97
      rw [a1, if_neg (by decide)]
theorem eR_aget (h : RA S m) (w : WF S) (v1 : Int32) : ∃ m', (Fq [1] [] m m' ∧ RA (zS3 S 64) m') ∧ ∀ K, fX7_tickOnce_L143 v1 K 512 m (nI 0) = K m' := by
  have h0 : zS3 S 0 = S := by
    funext j
    exact if_neg (by omega)
  refine lp0 (fun k n M v => fX7_tickOnce_L143 v1 k n M v) (fun i m' => Fq [1] [] m m' ∧ RA (zS3 S i) m') 64 (by omega) m ⟨Fq.rf, by rw [h0]; exact h⟩ ?_ ?_
  · intro k n m' hI
    show fX7_tickOnce_B143 v1 k m' (nI 64) _ = k m'
    unfold fX7_tickOnce_B143
    simp (disch := omega) only [qle, Nat.le_refl, if_true]
  · intro n i m' hi hI
    obtain ⟨f1, a1⟩ := hI
    have l10 := (w.2.2.2.2.2.2.2 i hi).2
    have e : m'.1 1 (357 + i) = nI (S (357 + i)) := by
      rw [a1 _ (by omega)]
      unfold zS3
      rw [if_neg (by omega)]
    have at' : zS3 S (i + 1) (357 + i) = S (357 + i) - 1 := if_pos (by omega)
    have ho : ∀ j, j ≠ 357 + i → zS3 S (i + 1) j = zS3 S i j := by
      intro j hj
      unfold zS3
      by_cases c : 357 ≤ j ∧ j < 357 + i
      · rw [if_pos c, if_pos (by omega)]
      · rw [if_neg c, if_neg (by omega)]
    refine ⟨xI m' 1 (357 + i) (nI (S (357 + i) - 1)), ⟨f1.I (by decide) _ _, fun j hj => ?_⟩, fun k => ?_⟩
    · rw [rI1]
      by_cases d : j = 357 + i
      · subst d; rw [us, at']
      · rw [un _ _ d, ho j d]; exact a1 j hj
    · show fX7_tickOnce_B143 v1 k m' (nI i) _ = _
      unfold fX7_tickOnce_B143 fX7_tickOnce_j178
      simp (disch := omega) only [qle, nI_add, xrdN, e, xwIN]
      rw [if_neg (by omega)]
      by_cases c : S (357 + i) ≤ 0
      · rw [if_pos c, pk_sub (by omega), show S (357 + i) - 0 = S (357 + i) - 1 by omega]
      · rw [if_neg c, pk_sub (by omega)]
theorem eR_tick (h : RA S m) (w : WF S) : ∃ (v : Int32) (m' : xM), fX7_tickOnce m = some (v, m') ∧ RA (zTk S) m' ∧ m'.1 2 = m.1 2 ∧ m'.1 3 = m.1 3 ∧ zB v (zChg S) := by
  have w2 := w.1.2.2.1
  have w1' := zT1_wf w
  have h2 := zT1_2 w
  obtain ⟨m1, e1, f1, l1, p1⟩ := eR_lay h w
  have a1 := h.fr f1 (by decide)
  obtain ⟨m2, ⟨f2, b2⟩, e2⟩ := eR_before a1 w p1
  have a2 := a1.fr f2 (by decide)
  have l2 : LR S m2 := by
    intro b hb
    unfold LR1
    rw [f2.1 5 (by decide), f2.1 6 (by decide), f2.1 7 (by decide)]
    exact l1 b hb
  have p2 : RPo S m2 := by
    intro p hp
    rw [f2.1 8 (by decide)]
    exact p1 p hp
  obtain ⟨m3, e3, f3, s3⟩ := eR_sent a2 w l2 p2
  have a3 := a2.fr f3 (by decide)
  obtain ⟨m4, ⟨f4, a4⟩, e4⟩ := eR_hears a3 w s3
  obtain ⟨m5, e5, f5, l5, p5⟩ := eR_lay a4 w1'
  have a5 := a4.fr f5 (by decide)
  have r5 : ∀ p, p < zT1 S 2 → m5.1 12 p = nI (zRo S p) ∧ zRo S p ≤ 4 := by
    intro p hp
    rw [h2] at hp
    refine ⟨?_, zRo_le p⟩
    rw [f5.1 12 (by decide), f4.1 12 (by decide), f3.1 12 (by decide)]
    exact b2 p hp
  obtain ⟨s, ⟨f6, a6, z6⟩, e6⟩ := eR_sts a5 w1' p5 r5
  rw [h2] at a6 z6
  have w6 := zS2_wf w1' w2
  obtain ⟨m7, ⟨f7, a7⟩, e7⟩ := eR_aget a6 w6 s.2
  have e04 : m7.1 1 4 = nI (zS3 (zS2 (zT1 S) (S 2)) 64 4) := a7 4 (by decide)
  refine ⟨s.2, xI m7 1 4 (nI (zS3 (zS2 (zT1 S) (S 2)) 64 4 + 1)), ?_, fun j hj => ?_, ?_, ?_, z6⟩
  · unfold fX7_tickOnce
    rw [e1]
    simp (disch := omega) only [ob, e2, e3, e4, e5, e6, e7, xrdN, e04, nI_add, xwIN]
    unfold xzb
    rcases z6 with ⟨a, -⟩ | ⟨a, -⟩
    · rw [a]; exact if_pos (Or.inl rfl)
    · rw [a]; exact if_pos (Or.inr rfl)
  · rw [rI1]
    show _ = nI (zS4 (zS3 (zS2 (zT1 S) (S 2)) 64) j)
    unfold zS4
    by_cases d : j = 4
    · subst d; rw [us, if_pos rfl]
    · rw [un _ _ d, if_neg d]; exact a7 j hj
  · rw [rIn _ _ _ (by decide), f7.1 2 (by decide), f6.1 2 (by decide), f5.1 2 (by decide), f4.1 2 (by decide), f3.1 2 (by decide), f2.1 2 (by decide), f1.1 2 (by decide)]
  · rw [rIn _ _ _ (by decide), f7.1 3 (by decide), f6.1 3 (by decide), f5.1 3 (by decide), f4.1 3 (by decide), f3.1 3 (by decide), f2.1 3 (by decide), f1.1 3 (by decide)]
end TR
