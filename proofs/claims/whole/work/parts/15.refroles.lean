def zo9 (o : Option Nat) : Int32 := match o with
  | none => -9
  | some q => nI q
def RA (S : Nat → Nat) (m : xM) : Prop := ∀ j, j < 431 → m.1 1 j = nI (S j)
theorem RA.fr {S : Nat → Nat} {m m' : xM} {ks js : List Nat} (h : RA S m) (f : Fq ks js m m') (hk : 1 ∉ ks) : RA S m' := by
  intro j hj
  rw [f.1 1 hk]
  exact h j hj
theorem q9l : ((-9 : Int32) < nI 0) = True := by decide
theorem q9g : (nI 0 ≤ (-9 : Int32)) = False := by decide
theorem qn0 {a : Nat} (ha : a < 2147483648) : (nI a < nI 0) = False := propext ⟨fun h => by rw [qlt ha (by decide)] at h; omega, False.elim⟩
theorem qg0 {a : Nat} (ha : a < 2147483648) : (nI 0 ≤ nI a) = True := propext ⟨fun _ => trivial, fun _ => by rw [qle (by decide) ha]; omega⟩
theorem xzb_zb {ρ : Type} {P : Prop} [Decidable P] {E : Option ρ} : xzb (zb P) E = E := by
  unfold xzb zb
  by_cases h : P
  · rw [if_pos h]; exact if_pos (Or.inr rfl)
  · rw [if_neg h]; exact if_pos (Or.inl rfl)
section RE
variable {S : Nat → Nat} {m : xM}
theorem eR_ports (h : RA S m) : fX7_ports m = some (nI (S 2)) := by
  unfold fX7_ports
  simp (disch := omega) only [xrdN, h 2 (by decide)]
theorem eR_br (h : RA S m) {p : Nat} (hp : p < 24) : fX7_bridgeOf m (nI p) = some (nI (S (21 + p))) := by
  unfold fX7_bridgeOf
  simp (disch := omega) only [nI_add, xrdN, h (21 + p) (by omega)]
theorem eR_id (h : RA S m) {b : Nat} (hb : b < 8) : fX7_idOf m (nI b) = some (nI (zId S b)) := by
  unfold fX7_idOf
  simp (disch := omega) only [nI_add, xrdN, h (5 + b) (by omega), pk_mul, zId]
theorem eR_msg (h : RA S m) {p v : Nat} (hp : p < 24) (hv : v < 5) : fX7_message m (nI p) (nI v) = some (nI (zM S p v)) := by
  unfold fX7_message
  simp (disch := omega) only [nI_add, pk_mul, xrdN, h (165 + 5 * p + v) (by omega), zM]
theorem eR_act (h : RA S m) (w : WF S) {p : Nat} (hp : p < 24) : fX7_isActive m (nI p) = some (zb (zAct S p)) := by
  obtain ⟨h1, h2, h3, h4, h5, h6⟩ := w.2.2.1 p hp
  have := (w.2.1 _ h1).2
  unfold fX7_isActive
  simp (disch := omega) only [nI_add, xrdN, h (93 + p) (by omega), eR_br h hp, ob, h (13 + S (21 + p)) (by omega), qeq, some_zb]
  by_cases a : S (93 + p) = 1
  · rw [if_pos a]
    by_cases b : S (13 + S (21 + p)) = 1
    · rw [zbt b, zbt ⟨a, b⟩]
    · rw [zbf b, zbf (fun q => b q.2)]
  · rw [if_neg a, zbf (fun q => a q.1)]
theorem eR_sto (h : RA S m) (w : WF S) {p : Nat} (hp : p < 24) : fX7_stores m (nI p) = some (zb (0 < zM S p 4)) := by
  obtain ⟨h1, h2, h3, h4, h5, h6⟩ := w.2.2.1 p hp
  unfold fX7_stores
  simp (disch := omega) only [eR_msg h hp (show 4 < 5 by decide), ob, qle]
  by_cases a : 0 < zM S p 4
  · rw [if_neg (by omega), zbt a]
  · rw [if_pos (by omega), zbf a]
theorem eR_bo (h : RA S m) (w : WF S) {p q : Nat} (hp : p < 24) (hq : q < p) (h0 : 0 < zM S p 4) (h1 : 0 < zM S q 4) : fX7_isBetterOffer m (nI p) (nI q) = some (zb (zOk S p < zOk S q)) := by
  obtain ⟨a1, a2, a3, a4⟩ := w.2.2.2.2.2.1 p hp h0
  obtain ⟨b1, b2, b3, b4⟩ := w.2.2.2.2.2.1 q (by omega) h1
  have a5 := (w.2.2.1 p hp).2.2.1
  have b5 := (w.2.2.1 q (by omega)).2.2.1
  have hlex : zOk S p < zOk S q ↔ _ := zPk_lex (show zM S p 1 + S (69 + p) < 16777216 by omega) (show zM S p 2 < 256 by omega) (show zM S p 3 < 256 by omega) (show zM S q 1 + S (69 + q) < 16777216 by omega) (show zM S q 2 < 256 by omega) (show zM S q 3 < 256 by omega)
  unfold fX7_isBetterOffer
  simp (disch := omega) only [eR_msg h hp (show 0 < 5 by decide), eR_msg h hp (show 1 < 5 by decide), eR_msg h hp (show 2 < 5 by decide), eR_msg h hp (show 3 < 5 by decide), eR_msg h (show q < 24 by omega) (show 0 < 5 by decide), eR_msg h (show q < 24 by omega) (show 1 < 5 by decide), eR_msg h (show q < 24 by omega) (show 2 < 5 by decide), eR_msg h (show q < 24 by omega) (show 3 < 5 by decide), ob, nI_add, xrdN, h (69 + p) (by omega), h (69 + q) (by omega), qeq, qle]
  unfold zb
  simp only [hlex]
  repeat' split
  all_goals first | rfl | omega
theorem eR_bet (m : xM) {r c b p r' c' b' p' : Nat} (hr : r < 256) (hc : c < 16777216) (hb : b < 256) (hp : p < 256) (hr' : r' < 256) (hc' : c' < 16777216) (hb' : b' < 256) (hp' : p' < 256) : fX7_isBetter m (nI r) (nI c) (nI b) (nI p) (nI r') (nI c') (nI b') (nI p') = some (zb (zPk r c b p < zPk r' c' b' p')) := by
  have hlex := zPk_lex (r := r) (r' := r') hc hb hp hc' hb' hp'
  unfold fX7_isBetter
  simp (disch := omega) only [qeq, qle]
  unfold zb
  simp only [hlex]
  repeat' split
  all_goals first | rfl | omega
theorem eR_lr1 (h : RA S m) (w : WF S) {b : Nat} (hb : b < 8) : ∀ k : Int32 → Option xM, fX7_layRoot_L5 m (nI b) k 512 (-9) (nI 0) = k (zo9 (zBo S b (S 2))) := by
  obtain ⟨w0, w1, w2, w3⟩ := w.1
  have hi := zId_lt w hb
  have key := lp0 (fun (k : Int32 → Option xM) n (s : Int32) v => fX7_layRoot_L5 m (nI b) k n s v) (fun i s => s = zo9 (zBo S b i)) (S 2) (by omega) (-9) rfl ?_ ?_
  · obtain ⟨s, e, hk⟩ := key
    subst e
    exact hk
  · intro k n s hI
    show fX7_layRoot_B5 m (nI b) k s (nI (S 2)) _ = k s
    unfold fX7_layRoot_B5
    simp (disch := omega) only [eR_ports h, ob, qle, Nat.le_refl, if_true]
  · intro n i s hi2 hI
    have hi24 : i < 24 := by omega
    obtain ⟨h1, h2, h3, h4, h5, h6⟩ := w.2.2.1 i hi24
    have st : ∀ k : Int32 → Option xM, fX7_layRoot_L5 m (nI b) k (n + 1) s (nI i) = fX7_layRoot_B5 m (nI b) k s (nI i) (fun v2 v3 => fX7_layRoot_L5 m (nI b) k n v2 v3) := fun k => rfl
    refine ⟨zo9 (zBo S b (i + 1)), rfl, fun k => ?_⟩
    show fX7_layRoot_L5 m (nI b) k (n + 1) s (nI i) = fX7_layRoot_L5 m (nI b) k n _ (nI (i + 1))
    rw [st]
    unfold fX7_layRoot_B5
    simp (disch := omega) only [eR_ports h, ob, qle, eR_br h hi24, qeq, eR_act h w hi24, zb0, eR_sto h w hi24, eR_msg h hi24 (show 2 < 5 by decide), eR_id h hb]
    rw [if_neg (by omega)]
    by_cases c : S (21 + i) = b ∧ zOff S i
    · have c2 := c.2.2.2
      rw [c.1] at c2
      have g := w.2.2.2.2.2.1 i hi24 c.2.2.1
      simp (disch := omega) only [qeq]
      rw [if_pos c.1, if_neg (fun q => q c.2.1), if_neg (fun q => q c.2.2.1), if_neg c2]
      unfold fX7_layRoot_j57 fX7_layRoot_j82
      simp (disch := omega) only [qeq, nI_add]
      rw [if_neg (by decide)]
      cases e : zBo S b i with
      | none =>
        rw [zBo_none c e, hI, e]
        simp only [zo9, q9l, if_true]
      | some q =>
        obtain ⟨q1, q2, q3⟩ := zBo_in e
        rw [zBo_some c e, hI, e]
        simp (disch := omega) only [zo9, qn0, if_false, eR_bo h w hi24 q1 c.2.2.1 q3.2.1, ob, zb0]
        by_cases d : zOk S i < zOk S q
        · rw [if_pos d, if_neg (fun q => q d)]
        · rw [if_neg d, if_pos d]
    · rw [zBo_skip c, hI]
      have skip : fX7_layRoot_j57 m (nI b) (zo9 (zBo S b i)) (nI i) (nI 0) (fun v2 v3 => fX7_layRoot_L5 m (nI b) k n v2 v3) = fX7_layRoot_L5 m (nI b) k n (zo9 (zBo S b i)) (nI (i + 1)) := by
        unfold fX7_layRoot_j57 fX7_layRoot_j82
        rw [if_pos rfl, nI_add]
      by_cases c1 : S (21 + i) = b
      · rw [if_pos c1]
        by_cases c2 : zAct S i
        · rw [if_neg (fun q => q c2)]
          by_cases c3 : 0 < zM S i 4
          · have g := w.2.2.2.2.2.1 i hi24 c3
            simp (disch := omega) only [qeq]
            have c4 : zM S i 2 = zId S b := by
              apply Classical.byContradiction
              intro c4
              exact c ⟨c1, c2, c3, by rw [c1]; exact c4⟩
            rw [if_neg (fun q => q c3), if_pos c4]
            exact skip
          · rw [if_pos c3]
            exact skip
        · rw [if_pos c2]
          exact skip
      · rw [if_neg c1]
        exact skip
def LR1 (S : Nat → Nat) (b : Nat) (m : xM) : Prop := m.1 5 b = zo9 (zRp S b) ∧ m.1 6 b = nI (zRt S b) ∧ m.1 7 b = nI (zRc S b)
def LR (S : Nat → Nat) (m : xM) : Prop := ∀ b, b < S 0 → LR1 S b m
def RPo (S : Nat → Nat) (m : xM) : Prop := ∀ p, p < S 2 → m.1 8 p = nI (zRo S p)
theorem eR_lr (h : RA S m) (w : WF S) {b : Nat} (hb : b < 8) : fX7_layRoot m (nI b) = some (xI (xI (xI m 5 b (zo9 (zRp S b))) 6 b (nI (zRt S b))) 7 b (nI (zRc S b))) := by
  obtain ⟨w0, w1, w2, w3⟩ := w.1
  have hi := zId_lt w hb
  have h5 : ∀ v, RA S (xI m 5 b v) := fun v => h.fr (Fq.rf.I (ks := [5]) (js := []) (by decide) b v) (by decide)
  have h6 : ∀ v u, RA S (xI (xI m 5 b v) 6 b u) := fun v u => h.fr ((Fq.rf.I (ks := [5, 6]) (js := []) (by decide) b v).I (k := 6) (by decide) b u) (by decide)
  unfold fX7_layRoot
  rw [eR_lr1 h w hb]
  cases e : zBo S b (S 2) with
  | none =>
    have r1 : zRp S b = none := by unfold zRp; rw [e]
    have r2 : zRt S b = zId S b := by unfold zRt; rw [r1]
    have r3 : zRc S b = 0 := by unfold zRc; rw [r1]
    simp only [zo9, q9l, if_true, r1, r2, r3]
    unfold fX7_layRoot_j112 fX7_layRoot_j128 fX7_layRoot_j152 fX7_layRoot_j182
    simp (disch := omega) only [xwIN, if_true, eR_id (h5 _) hb, ob]
  | some q =>
    obtain ⟨q1, q2, q3⟩ := zBo_in e
    have hq : q < 24 := by omega
    obtain ⟨g1, g2, g3, g4⟩ := w.2.2.2.2.2.1 q hq q3.2.1
    simp (disch := omega) only [zo9, qn0, if_false, eR_msg h hq (show 0 < 5 by decide), eR_id h hb, ob, qle]
    by_cases c : zId S b ≤ zM S q 0
    · have r1 : zRp S b = none := by
        unfold zRp; rw [e]; exact if_neg (by omega)
      have r2 : zRt S b = zId S b := by unfold zRt; rw [r1]
      have r3 : zRc S b = 0 := by unfold zRc; rw [r1]
      rw [if_pos c]
      simp only [r1, r2, r3]
      unfold fX7_layRoot_j112 fX7_layRoot_j128 fX7_layRoot_j152 fX7_layRoot_j182
      simp (disch := omega) only [xwIN, if_true, eR_id (h5 _) hb, ob]
    · have r1 : zRp S b = some q := by
        unfold zRp; rw [e]; exact if_pos (by omega)
      have r2 : zRt S b = zM S q 0 := by unfold zRt; rw [r1]
      have r3 : zRc S b = zM S q 1 + S (69 + q) := by unfold zRc; rw [r1]
      rw [if_neg c]
      simp only [r1, r2, r3]
      unfold fX7_layRoot_j112 fX7_layRoot_j128 fX7_layRoot_j152 fX7_layRoot_j182
      have n10 : (nI 1 = nI 0) = False := by decide
      simp (disch := omega) only [xwIN, xrdN, n10, if_false, eR_msg (h5 _) hq (show 0 < 5 by decide), eR_msg (h6 _ _) hq (show 1 < 5 by decide), (h6 _ _) (69 + q) (by omega), ob, nI_add]
theorem zo9_eq {o : Option Nat} {p : Nat} (ho : ∀ q, o = some q → q < 2147483648) (hp : p < 2147483648) : (zo9 o = nI p) = (o = some p) := by
  cases o with
  | none =>
    refine propext ⟨fun h => ?_, fun h => by cases h⟩
    have : (nI p = (-9)) := h.symm
    rw [qm9 hp] at this
    exact this.elim
  | some q =>
    show (nI q = nI p) = _
    rw [qeq (ho q rfl) hp]
    exact propext ⟨fun h => by rw [h], fun h => by cases h; rfl⟩
theorem eR_ob (h : RA S m) (w : WF S) {p : Nat} (hp : p < S 2) (hL : LR S m) (h0 : 0 < zM S p 4) : fX7_isOwnBetter m (nI p) = some (zb (zOw S p < zMk S p)) := by
  obtain ⟨w0, w1, w2, w3⟩ := w.1
  have hp24 : p < 24 := by omega
  obtain ⟨h1, h2, h3, h4, h5, h6⟩ := w.2.2.1 p hp24
  obtain ⟨hb, -⟩ := w.2.2.2.1 p hp
  obtain ⟨l1, l2, l3⟩ := hL _ hb
  obtain ⟨g1, g2, g3, g4⟩ := w.2.2.2.2.2.1 p hp24 h0
  have := zRc_le w (b := S (21 + p))
  unfold fX7_isOwnBetter
  simp (disch := omega) only [eR_br h hp24, ob, xrdN, l2, l3, eR_id h h1, eR_msg h hp24 (show 0 < 5 by decide), eR_msg h hp24 (show 1 < 5 by decide), eR_msg h hp24 (show 2 < 5 by decide), eR_msg h hp24 (show 3 < 5 by decide)]
  rw [eR_bet m (zRt_lt w h1) (by omega) (zId_lt w h1) (by omega) g1 (by omega) g3 (by omega)]
  simp only [ob, xzb_zb]
  rfl
theorem eR_role (h : RA S m) (w : WF S) {p : Nat} (hp : p < S 2) (hL : LR S m) : fX7_roleOf m (nI p) = some (nI (zRo S p)) := by
  obtain ⟨w0, w1, w2, w3⟩ := w.1
  have hp24 : p < 24 := by omega
  obtain ⟨h1, h2, h3, h4, h5, h6⟩ := w.2.2.1 p hp24
  obtain ⟨hb, -⟩ := w.2.2.2.1 p hp
  obtain ⟨l1, l2, l3⟩ := hL _ hb
  have hi := zId_lt w h1
  unfold fX7_roleOf zRo
  simp only [eR_act h w hp24, ob, zb0]
  by_cases a : zAct S p
  · rw [if_neg (fun q => q a), if_pos a]
    simp (disch := omega) only [eR_br h hp24, ob, xrdN, l1, zo9_eq (zRp_lt w) (show p < 2147483648 by omega)]
    by_cases b : zRp S (S (21 + p)) = some p
    · rw [if_pos b, if_pos b]
    · rw [if_neg b, if_neg b]
      simp only [eR_sto h w hp24, ob, zb0]
      by_cases c : 0 < zM S p 4
      · obtain ⟨g1, g2, g3, g4⟩ := w.2.2.2.2.2.1 p hp24 c
        rw [if_neg (fun q => q c)]
        simp (disch := omega) only [eR_ob h w hp hL c, ob, zb0, eR_msg h hp24 (show 2 < 5 by decide), eR_id h h1, qeq]
        by_cases d : zOw S p < zMk S p
        · rw [if_neg (fun q => q d), if_pos (Or.inr d)]
        · rw [if_pos d, if_neg (show ¬ (zM S p 4 = 0 ∨ zOw S p < zMk S p) by omega)]
          by_cases g : zM S p 2 = zId S (S (21 + p))
          · rw [if_pos g, if_pos g]
          · rw [if_neg g, if_neg g]
      · rw [if_pos c, if_pos (Or.inl (by omega))]
  · rw [if_pos a, if_neg a]
theorem eR_lay1 (h : RA S m) (w : WF S) : ∃ m', (Fq [5, 6, 7] [] m m' ∧ LR S m') ∧ ∀ K, fX7_layRoles_L2 K 512 m (nI 0) = K m' := by
  obtain ⟨w0, w1, w2, w3⟩ := w.1
  refine lp0 (fun k n M v => fX7_layRoles_L2 k n M v) (fun i m' => Fq [5, 6, 7] [] m m' ∧ ∀ b, b < i → LR1 S b m') (S 0) (by omega) m ⟨Fq.rf, fun b hb => by omega⟩ ?_ ?_
  · intro k n m' hI
    have h' : RA S m' := h.fr hI.1 (by decide)
    show fX7_layRoles_B2 k m' (nI (S 0)) _ = k m'
    unfold fX7_layRoles_B2
    simp (disch := omega) only [xrdN, h' 0 (by decide), qle, Nat.le_refl, if_true]
  · intro n i m' hi hI
    have h' : RA S m' := h.fr hI.1 (by decide)
    refine ⟨_, ⟨((hI.1.I (k := 5) (by decide) i (zo9 (zRp S i))).I (k := 6) (by decide) i (nI (zRt S i))).I (k := 7) (by decide) i (nI (zRc S i)), fun b hb => ?_⟩, fun k => ?_⟩
    · unfold LR1
      rw [rI1, rIn _ _ _ (show 6 ≠ 7 by decide), rI1, rIn _ _ _ (show 5 ≠ 7 by decide), rIn _ _ _ (show 5 ≠ 6 by decide), rI1, rIn _ _ _ (show 6 ≠ 5 by decide), rIn _ _ _ (show 7 ≠ 6 by decide), rIn _ _ _ (show 7 ≠ 5 by decide)]
      by_cases c : b = i
      · subst c; rw [us, us, us]; exact ⟨rfl, rfl, rfl⟩
      · rw [un _ _ c, un _ _ c, un _ _ c]; exact hI.2 b (by omega)
    · show fX7_layRoles_B2 k m' (nI i) _ = _
      unfold fX7_layRoles_B2
      simp (disch := omega) only [xrdN, h' 0 (by decide), qle, eR_lr h' w (show i < 8 by omega), ob, nI_add]
      rw [if_neg (by omega)]
theorem eR_lay2 (h : RA S m) (w : WF S) (hL : LR S m) : ∃ m', (Fq [8] [] m m' ∧ RPo S m') ∧ ∀ K, fX7_layRoles_L25 K 512 m (nI 0) = K m' := by
  obtain ⟨w0, w1, w2, w3⟩ := w.1
  refine lp0 (fun k n M v => fX7_layRoles_L25 k n M v) (fun i m' => Fq [8] [] m m' ∧ ∀ p, p < i → m'.1 8 p = nI (zRo S p)) (S 2) (by omega) m ⟨Fq.rf, fun b hb => by omega⟩ ?_ ?_
  · intro k n m' hI
    have h' : RA S m' := h.fr hI.1 (by decide)
    show fX7_layRoles_B25 k m' (nI (S 2)) _ = k m'
    unfold fX7_layRoles_B25
    simp (disch := omega) only [eR_ports h', ob, qle, Nat.le_refl, if_true]
  · intro n i m' hi hI
    have h' : RA S m' := h.fr hI.1 (by decide)
    have hL' : LR S m' := by
      intro b hb
      unfold LR1
      rw [hI.1.1 5 (by decide), hI.1.1 6 (by decide), hI.1.1 7 (by decide)]
      exact hL b hb
    refine ⟨xI m' 8 i (nI (zRo S i)), ⟨hI.1.I (by decide) _ _, fun p hp => ?_⟩, fun k => ?_⟩
    · rw [rI1]
      by_cases c : p = i
      · subst c; exact us _ _ _
      · rw [un _ _ c]; exact hI.2 p (by omega)
    · show fX7_layRoles_B25 k m' (nI i) _ = _
      unfold fX7_layRoles_B25
      simp (disch := omega) only [eR_ports h', ob, qle, eR_role h' w hi hL', xwIN, nI_add]
      rw [if_neg (by omega)]
theorem eR_lay (h : RA S m) (w : WF S) : ∃ m', fX7_layRoles m = some m' ∧ Fq [5, 6, 7, 8] [] m m' ∧ LR S m' ∧ RPo S m' := by
  unfold fX7_layRoles
  obtain ⟨m1, ⟨f1, L1⟩, e1⟩ := eR_lay1 h w
  obtain ⟨m2, ⟨f2, P2⟩, e2⟩ := eR_lay2 (h.fr f1 (by decide)) w L1
  rw [e1, e2]
  refine ⟨m2, rfl, (f1.up (by decide) (by decide)).tr f2 (by decide) (by decide), ?_, P2⟩
  intro b hb
  unfold LR1
  rw [f2.1 5 (by decide), f2.1 6 (by decide), f2.1 7 (by decide)]
  exact L1 b hb
end RE
