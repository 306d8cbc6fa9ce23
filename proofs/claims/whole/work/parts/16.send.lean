noncomputable def zAge (S : Nat → Nat) (b : Nat) : Nat := match zRp S b with
  | none => 0
  | some q => 7 - zM S q 4
abbrev zSn (S : Nat → Nat) (p : Nat) : Prop := zRo S p = 2 ∧ zAge S (S (21 + p)) ≤ 5
noncomputable def zHe (S : Nat → Nat) (p : Nat) : Nat → Option Nat
  | 0 => none
  | n + 1 => if n ≠ p ∧ zSn S n ∧ S (45 + n) = S (45 + p) then (match zHe S p n with
    | none => some n
    | some q => if zOw S n < zOw S q then some n else some q) else zHe S p n
noncomputable def zIn (S : Nat → Nat) (n : Nat) (b : Option Nat × Option Nat) : Option Nat × Option Nat := match b with
  | (none, _) => (some n, none)
  | (some r, none) => if zOw S n < zOw S r then (some n, some r) else (some r, some n)
  | (some r, some q) => if zOw S n < zOw S r then (some n, some r) else if zOw S n < zOw S q then (some r, some n) else (some r, some q)
noncomputable def zBB (S : Nat → Nat) (s : Nat) : Nat → Option Nat × Option Nat
  | 0 => (none, none)
  | n + 1 => if zSn S n ∧ S (45 + n) = s then zIn S n (zBB S s n) else zBB S s n
section SB
variable {S : Nat → Nat} {M : xM}
theorem zHe_in {p : Nat} : ∀ {n q : Nat}, zHe S p n = some q → q < n ∧ q ≠ p ∧ zSn S q ∧ S (45 + q) = S (45 + p) := by
  intro n
  induction n with
  | zero => intro q h; cases h
  | succ n ih =>
    intro q h
    unfold zHe at h
    by_cases c : n ≠ p ∧ zSn S n ∧ S (45 + n) = S (45 + p)
    · rw [if_pos c] at h
      cases e : zHe S p n with
      | none =>
        rw [e] at h
        cases h
        exact ⟨by omega, c⟩
      | some r =>
        rw [e] at h
        by_cases d : zOw S n < zOw S r
        · have h : (if zOw S n < zOw S r then some n else some r) = some q := h
          rw [if_pos d] at h
          cases h
          exact ⟨by omega, c⟩
        · have h : (if zOw S n < zOw S r then some n else some r) = some q := h
          rw [if_neg d] at h
          cases h
          have := ih e
          exact ⟨by omega, this.2⟩
    · rw [if_neg c] at h
      have := ih h
      exact ⟨by omega, this.2⟩
theorem zBB_in {s : Nat} : ∀ n : Nat, (∀ q, (zBB S s n).1 = some q → q < n ∧ zSn S q) ∧ (∀ q, (zBB S s n).2 = some q → q < n ∧ zSn S q ∧ ∃ r, (zBB S s n).1 = some r ∧ zOw S r ≤ zOw S q) := by
  intro n
  induction n with
  | zero => exact ⟨fun q h => (by cases h), fun q h => (by cases h)⟩
  | succ n ih =>
    unfold zBB
    by_cases c : zSn S n ∧ S (45 + n) = s
    · rw [if_pos c]
      obtain ⟨i1, i2⟩ := ih
      cases e : zBB S s n with
      | mk b1 b2 =>
        rw [e] at i1 i2
        cases b1 with
        | none => exact ⟨fun q h => by cases h; exact ⟨by omega, c.1⟩, fun q h => by cases h⟩
        | some r =>
          have r1 := i1 r rfl
          cases b2 with
          | none =>
            show (∀ q, (if zOw S n < zOw S r then (some n, some r) else (some r, some n)).1 = some q → _) ∧ (∀ q, (if zOw S n < zOw S r then (some n, some r) else (some r, some n)).2 = some q → _ ∧ _ ∧ ∃ r', (if zOw S n < zOw S r then (some n, some r) else (some r, some n)).1 = some r' ∧ _)
            by_cases d : zOw S n < zOw S r
            · rw [if_pos d]
              exact ⟨fun q h => by cases h; exact ⟨by omega, c.1⟩, fun q h => by cases h; exact ⟨by omega, r1.2, n, rfl, by omega⟩⟩
            · rw [if_neg d]
              exact ⟨fun q h => by cases h; exact ⟨by omega, r1.2⟩, fun q h => by cases h; exact ⟨by omega, c.1, r, rfl, by omega⟩⟩
          | some t =>
            have t1 := i2 t rfl
            show (∀ q, (if zOw S n < zOw S r then (some n, some r) else if zOw S n < zOw S t then (some r, some n) else (some r, some t)).1 = some q → _) ∧ (∀ q, (if zOw S n < zOw S r then (some n, some r) else if zOw S n < zOw S t then (some r, some n) else (some r, some t)).2 = some q → _ ∧ _ ∧ ∃ r', (if zOw S n < zOw S r then (some n, some r) else if zOw S n < zOw S t then (some r, some n) else (some r, some t)).1 = some r' ∧ _)
            by_cases d : zOw S n < zOw S r
            · rw [if_pos d]
              exact ⟨fun q h => by cases h; exact ⟨by omega, c.1⟩, fun q h => by cases h; exact ⟨by omega, r1.2, n, rfl, by omega⟩⟩
            · rw [if_neg d]
              by_cases d2 : zOw S n < zOw S t
              · rw [if_pos d2]
                exact ⟨fun q h => by cases h; exact ⟨by omega, r1.2⟩, fun q h => by cases h; exact ⟨by omega, c.1, r, rfl, by omega⟩⟩
              · rw [if_neg d2]
                refine ⟨fun q h => by cases h; exact ⟨by omega, r1.2⟩, fun q h => ?_⟩
                cases h
                exact ⟨by omega, t1.2.1, t1.2.2⟩
    · rw [if_neg c]
      exact ⟨fun q h => ⟨by have := (ih.1 q h).1; omega, (ih.1 q h).2⟩, fun q h => ⟨by have := (ih.2 q h).1; omega, (ih.2 q h).2⟩⟩
theorem zHe_BB {p : Nat} : ∀ n : Nat, zHe S p n = if (zBB S (S (45 + p)) n).1 = some p then (zBB S (S (45 + p)) n).2 else (zBB S (S (45 + p)) n).1 := by
  intro n
  induction n with
  | zero => rfl
  | succ n ih =>
    have iv := zBB_in (S := S) (s := S (45 + p)) n
    unfold zHe zBB
    by_cases c : zSn S n ∧ S (45 + n) = S (45 + p)
    · rw [if_pos c]
      obtain ⟨i1, i2⟩ := iv
      cases e : zBB S (S (45 + p)) n with
      | mk b1 b2 =>
        rw [e] at i1 i2 ih
        by_cases np : n = p
        · rw [if_neg (fun z => z.1 np)]
          have hb : b1 ≠ some p := fun z => by have := (i1 p z).1; omega
          have ih : zHe S p n = b1 := by rw [ih]; exact if_neg hb
          rw [ih]
          cases b1 with
          | none => show none = if some n = some p then none else some n; rw [if_pos (by rw [np])]
          | some r =>
            cases b2 with
            | none =>
              show some r = if (if zOw S n < zOw S r then (some n, some r) else (some r, some n)).1 = some p then (if zOw S n < zOw S r then (some n, some r) else (some r, some n)).2 else (if zOw S n < zOw S r then (some n, some r) else (some r, some n)).1
              by_cases d : zOw S n < zOw S r
              · rw [if_pos d]; show some r = if some n = some p then some r else some n; rw [if_pos (by rw [np])]
              · rw [if_neg d]; show some r = if some r = some p then some n else some r; rw [if_neg hb]
            | some t =>
              show some r = if (if zOw S n < zOw S r then (some n, some r) else if zOw S n < zOw S t then (some r, some n) else (some r, some t)).1 = some p then (if zOw S n < zOw S r then (some n, some r) else if zOw S n < zOw S t then (some r, some n) else (some r, some t)).2 else (if zOw S n < zOw S r then (some n, some r) else if zOw S n < zOw S t then (some r, some n) else (some r, some t)).1
              by_cases d : zOw S n < zOw S r
              · rw [if_pos d]; show some r = if some n = some p then some r else some n; rw [if_pos (by rw [np])]
              · rw [if_neg d]
                by_cases d2 : zOw S n < zOw S t
                · rw [if_pos d2]; show some r = if some r = some p then some n else some r; rw [if_neg hb]
                · rw [if_neg d2]; show some r = if some r = some p then some t else some r; rw [if_neg hb]
        · rw [if_pos ⟨np, c⟩]
          have nq : ¬ (some n = some p) := fun z => np (Option.some.inj z)
          cases b1 with
          | none =>
            have ih : zHe S p n = none := by rw [ih]; exact if_neg (fun z => by cases z)
            rw [ih]
            show some n = if some n = some p then none else some n
            rw [if_neg nq]
          | some r =>
            by_cases rp : some r = some p
            · have ih : zHe S p n = b2 := by rw [ih]; exact if_pos rp
              rw [ih]
              cases b2 with
              | none =>
                show some n = if (if zOw S n < zOw S r then (some n, some r) else (some r, some n)).1 = some p then (if zOw S n < zOw S r then (some n, some r) else (some r, some n)).2 else (if zOw S n < zOw S r then (some n, some r) else (some r, some n)).1
                by_cases d : zOw S n < zOw S r
                · rw [if_pos d]; show some n = if some n = some p then some r else some n; rw [if_neg nq]
                · rw [if_neg d]; show some n = if some r = some p then some n else some r; rw [if_pos rp]
              | some t =>
                obtain ⟨-, -, r', hr', hle⟩ := i2 t rfl
                have hr' : some r = some r' := hr'
                have hrr : r = r' := Option.some.inj hr'
                subst hrr
                show (if zOw S n < zOw S t then some n else some t) = if (if zOw S n < zOw S r then (some n, some r) else if zOw S n < zOw S t then (some r, some n) else (some r, some t)).1 = some p then (if zOw S n < zOw S r then (some n, some r) else if zOw S n < zOw S t then (some r, some n) else (some r, some t)).2 else (if zOw S n < zOw S r then (some n, some r) else if zOw S n < zOw S t then (some r, some n) else (some r, some t)).1
                by_cases d : zOw S n < zOw S r
                · rw [if_pos d, if_pos (show zOw S n < zOw S t by omega)]; show some n = if some n = some p then some r else some n; rw [if_neg nq]
                · rw [if_neg d]
                  by_cases d2 : zOw S n < zOw S t
                  · rw [if_pos d2, if_pos d2]; show some n = if some r = some p then some n else some r; rw [if_pos rp]
                  · rw [if_neg d2, if_neg d2]; show some t = if some r = some p then some t else some r; rw [if_pos rp]
            · have ih : zHe S p n = some r := by rw [ih]; exact if_neg rp
              rw [ih]
              cases b2 with
              | none =>
                show (if zOw S n < zOw S r then some n else some r) = if (if zOw S n < zOw S r then (some n, some r) else (some r, some n)).1 = some p then (if zOw S n < zOw S r then (some n, some r) else (some r, some n)).2 else (if zOw S n < zOw S r then (some n, some r) else (some r, some n)).1
                by_cases d : zOw S n < zOw S r
                · rw [if_pos d, if_pos d]; show some n = if some n = some p then some r else some n; rw [if_neg nq]
                · rw [if_neg d, if_neg d]; show some r = if some r = some p then some n else some r; rw [if_neg rp]
              | some t =>
                show (if zOw S n < zOw S r then some n else some r) = if (if zOw S n < zOw S r then (some n, some r) else if zOw S n < zOw S t then (some r, some n) else (some r, some t)).1 = some p then (if zOw S n < zOw S r then (some n, some r) else if zOw S n < zOw S t then (some r, some n) else (some r, some t)).2 else (if zOw S n < zOw S r then (some n, some r) else if zOw S n < zOw S t then (some r, some n) else (some r, some t)).1
                by_cases d : zOw S n < zOw S r
                · rw [if_pos d, if_pos d]; show some n = if some n = some p then some r else some n; rw [if_neg nq]
                · rw [if_neg d, if_neg d]
                  by_cases d2 : zOw S n < zOw S t
                  · rw [if_pos d2]; show some r = if some r = some p then some n else some r; rw [if_neg rp]
                  · rw [if_neg d2]; show some r = if some r = some p then some t else some r; rw [if_neg rp]
    · rw [if_neg c, if_neg (fun z => c z.2)]
      exact ih
theorem zAge_le (w : WF S) {b : Nat} : zAge S b ≤ 7 ∧ zRc S b ≤ 100 * zAge S b := by
  unfold zAge zRc
  cases e : zRp S b with
  | none => exact ⟨Nat.zero_le _, Nat.zero_le _⟩
  | some q =>
    obtain ⟨a1, a2, a3, a4⟩ := zRp_in e
    have w2 := w.1.2.2.1
    have h2 := w.2.2.2.2.2.1 q (by omega) a3.2.1
    have h3 := w.2.2.1 q (by omega)
    have h4 := a3.2.1
    show 7 - zM S q 4 ≤ 7 ∧ zM S q 1 + S (69 + q) ≤ 100 * (7 - zM S q 4)
    omega
theorem eC_age (h : AC S M) (w : WF S) {p : Nat} (hp : p < S 2) (hL : LC S M) : fX4_ageToSend M (nI p) = some (nI (zAge S (S (21 + p)))) := by
  obtain ⟨w0, w1, w2, w3⟩ := w.1
  have hp24 : p < 24 := by omega
  obtain ⟨h1, h2, h3, h4, h5, h6⟩ := w.2.2.1 p hp24
  obtain ⟨hb, -⟩ := w.2.2.2.1 p hp
  obtain ⟨l1, l2, l3⟩ := hL _ hb
  unfold fX4_ageToSend zAge
  simp (disch := omega) only [xrdN, h.r3, l3]
  cases e : zRp S (S (21 + p)) with
  | none => exact if_pos rfl
  | some q =>
    have a1 := (zRp_in e).1
    have a2 := (w.2.2.1 q (by omega)).2.2.2.2.2
    simp (disch := omega) only [zo1, qm1, if_false, xrdN, h.r10, pk_sub]
def SI (S : Nat → Nat) (n : Nat) (M : xM) : Prop := (∀ p, p < n → zSn S p → M.2 23 p = lN (zOw S p) ∧ M.1 24 p = nI (zAge S (S (21 + p)))) ∧ ∀ s, s < S 1 → M.1 25 s = zo1 (zBB S s n).1 ∧ M.1 26 s = zo1 (zBB S s n).2
theorem eC_bs0 {p : Nat} : fX4_isBetterSender M (nI p) (-1) = some (nI 1) := by
  unfold fX4_isBetterSender
  exact if_pos rfl
theorem eC_bs1 {p q a b : Nat} (hp : p < 24) (hq : q < 24) (ha : a < 2 ^ 48) (hb : b < 2 ^ 48) (e1 : M.2 23 p = lN a) (e2 : M.2 23 q = lN b) : fX4_isBetterSender M (nI p) (nI q) = some (zb (a < b)) := by
  unfold fX4_isBetterSender
  simp (disch := omega) only [qm1, if_false, xrdN, e1, e2, lc_ge]
  by_cases c : b ≤ a
  · rw [if_pos c, zbf (by omega)]
  · rw [if_neg c, zbt (by omega)]
theorem eC_rank (h : AC S M) (w : WF S) {p : Nat} (hp : p < S 2) (hs : zSn S p) (e1 : M.2 23 p = lN (zOw S p)) (e2 : ∀ q, q < p → zSn S q → M.2 23 q = lN (zOw S q)) (e3 : ∀ s, s < S 1 → M.1 25 s = zo1 (zBB S s p).1 ∧ M.1 26 s = zo1 (zBB S s p).2) : ∃ M', fX4_rankSender M (nI p) = some M' ∧ Fq [25, 26] [] M M' ∧ ∀ s, s < S 1 → M'.1 25 s = zo1 (zBB S s (p + 1)).1 ∧ M'.1 26 s = zo1 (zBB S s (p + 1)).2 := by
  obtain ⟨w0, w1, w2, w3⟩ := w.1
  have hp24 : p < 24 := by omega
  obtain ⟨h1, h2, h3, h4, h5, h6⟩ := w.2.2.1 p hp24
  obtain ⟨-, hb⟩ := w.2.2.2.1 p hp
  obtain ⟨c1, c2⟩ := e3 _ hb
  have hw := zOw_lt w hp24
  have iv := zBB_in (S := S) (s := S (45 + p)) p
  have n10 : (nI 1 = nI 0) = False := by decide
  have oth : ∀ s, s ≠ S (45 + p) → zBB S s (p + 1) = zBB S s p := fun s hne => if_neg (fun z => hne z.2.symm)
  have own : zBB S (S (45 + p)) (p + 1) = zIn S p (zBB S (S (45 + p)) p) := if_pos ⟨hs, rfl⟩
  have fin : ∀ (u v : Option Nat), zIn S p (zBB S (S (45 + p)) p) = (u, v) → ∀ M', Fq [25, 26] [] M M' → M'.1 25 = upd (M.1 25) (S (45 + p)) (zo1 u) → M'.1 26 = upd (M.1 26) (S (45 + p)) (zo1 v) → Fq [25, 26] [] M M' ∧ ∀ s, s < S 1 → M'.1 25 s = zo1 (zBB S s (p + 1)).1 ∧ M'.1 26 s = zo1 (zBB S s (p + 1)).2 := by
    intro u v huv M' hf g1 g2
    refine ⟨hf, fun s hs1 => ?_⟩
    rw [g1, g2]
    by_cases d : s = S (45 + p)
    · subst d; rw [own, huv, us, us]; exact ⟨rfl, rfl⟩
    · rw [oth s d, un _ _ d, un _ _ d]; exact e3 s hs1
  have upid : ∀ (f : Nat → Int32) (k : Nat) (v : Int32), f k = v → f = upd f k v := by
    intro f k v e
    funext j
    by_cases d : j = k
    · subst d; rw [us]; exact e
    · rw [un _ _ d]
  unfold fX4_rankSender
  simp (disch := omega) only [xrdN, h.r4, c1, c2]
  cases e : zBB S (S (45 + p)) p with
  | mk b1 b2 =>
    rw [e] at iv fin c1 c2
    cases b1 with
    | none =>
      simp (disch := omega) only [zo1, eC_bs0, ob, n10, if_false, xwIN]
      refine ⟨_, rfl, fin (some p) none rfl _ ((Fq.rf.I (by decide) _ _).I (by decide) _ _) ?_ ?_⟩
      · rw [rI1, rIn _ _ _ (show 25 ≠ 26 by decide)]; rfl
      · rw [rIn _ _ _ (show 26 ≠ 25 by decide), rI1]; rfl
    | some r =>
      obtain ⟨r1, r2⟩ := iv.1 r rfl
      have hwr := zOw_lt w (show r < 24 by omega)
      simp (disch := omega) only [zo1, eC_bs1 hp24 (show r < 24 by omega) hw hwr e1 (e2 r r1 r2), ob, zb0]
      by_cases d : zOw S p < zOw S r
      · rw [if_neg (fun z => z d)]
        simp (disch := omega) only [xwIN]
        have hz : zIn S p (some r, b2) = (some p, some r) := by
          cases b2 with
          | none => exact if_pos d
          | some t => exact if_pos d
        refine ⟨_, rfl, fin (some p) (some r) hz _ ((Fq.rf.I (by decide) _ _).I (by decide) _ _) ?_ ?_⟩
        · rw [rI1, rIn _ _ _ (show 25 ≠ 26 by decide)]; rfl
        · rw [rIn _ _ _ (show 26 ≠ 25 by decide), rI1]; rfl
      · rw [if_pos d]
        cases b2 with
        | none =>
          simp (disch := omega) only [eC_bs0, ob, n10, if_false, xwIN]
          refine ⟨_, rfl, fin (some r) (some p) (if_neg d) _ (Fq.rf.I (by decide) _ _) ?_ ?_⟩
          · rw [rIn _ _ _ (show 25 ≠ 26 by decide)]; exact upid _ _ _ c1
          · rw [rI1]; rfl
        | some t =>
          obtain ⟨t1, t2, -⟩ := iv.2 t rfl
          have hwt := zOw_lt w (show t < 24 by omega)
          simp (disch := omega) only [eC_bs1 hp24 (show t < 24 by omega) hw hwt e1 (e2 t t1 t2), ob, zb0]
          by_cases d2 : zOw S p < zOw S t
          · rw [if_neg (fun z => z d2)]
            simp (disch := omega) only [xwIN]
            have hz : zIn S p (some r, some t) = (some r, some p) := (if_neg d).trans (if_pos d2)
            refine ⟨_, rfl, fin (some r) (some p) hz _ (Fq.rf.I (by decide) _ _) ?_ ?_⟩
            · rw [rIn _ _ _ (show 25 ≠ 26 by decide)]; exact upid _ _ _ c1
            · rw [rI1]; rfl
          · rw [if_pos d2]
            have hz : zIn S p (some r, some t) = (some r, some t) := (if_neg d).trans (if_neg d2)
            exact ⟨_, rfl, fin (some r) (some t) hz _ Fq.rf (upid _ _ _ c1) (upid _ _ _ c2)⟩
theorem eC_sd1 (h : AC S M) (w : WF S) : ∃ M', (Fq [25, 26] [] M M' ∧ ∀ s, s < S 1 → M'.1 25 s = (-1) ∧ M'.1 26 s = (-1)) ∧ ∀ K, fX4_sendMessages_L2 K 512 M (nI 0) = K M' := by
  obtain ⟨w0, w1, w2, w3⟩ := w.1
  refine lp0 (fun k n M v => fX4_sendMessages_L2 k n M v) (fun i M' => Fq [25, 26] [] M M' ∧ ∀ s, s < i → M'.1 25 s = (-1) ∧ M'.1 26 s = (-1)) (S 1) (by omega) M ⟨Fq.rf, fun b hb => by omega⟩ ?_ ?_
  · intro k n M' hI
    have h' : AC S M' := h.fr hI.1 (by decide) (by decide)
    show fX4_sendMessages_B2 k M' (nI (S 1)) _ = k M'
    unfold fX4_sendMessages_B2
    simp (disch := omega) only [h'.n1, qle, Nat.le_refl, if_true]
  · intro n i M' hi hI
    have h' : AC S M' := h.fr hI.1 (by decide) (by decide)
    refine ⟨xI (xI M' 25 i (-1)) 26 i (-1), ⟨(hI.1.I (by decide) _ _).I (by decide) _ _, fun s hs => ?_⟩, fun k => ?_⟩
    · rw [rI1, rIn _ _ _ (show 25 ≠ 26 by decide), rI1, rIn _ _ _ (show 26 ≠ 25 by decide)]
      by_cases c : s = i
      · subst c; exact ⟨us _ _ _, us _ _ _⟩
      · rw [un _ _ c, un _ _ c]; exact hI.2 s (by omega)
    · show fX4_sendMessages_B2 k M' (nI i) _ = _
      unfold fX4_sendMessages_B2
      simp (disch := omega) only [h'.n1, qle, xwIN, nI_add]
      rw [if_neg (by omega)]
theorem eC_sd2 (h : AC S M) (w : WF S) (hL : LC S M) (hP : LPo S M) (h0 : ∀ s, s < S 1 → M.1 25 s = (-1) ∧ M.1 26 s = (-1)) : ∃ M', (Fq [24, 25, 26] [23] M M' ∧ SI S (S 2) M') ∧ ∀ K, fX4_sendMessages_L35 K 512 M (nI 0) = K M' := by
  obtain ⟨w0, w1, w2, w3⟩ := w.1
  refine lp0 (fun k n M v => fX4_sendMessages_L35 k n M v) (fun i M' => Fq [24, 25, 26] [23] M M' ∧ SI S i M') (S 2) (by omega) M ⟨Fq.rf, fun b hb => by omega, h0⟩ ?_ ?_
  · intro k n M' hI
    have h' : AC S M' := h.fr hI.1 (by decide) (by decide)
    show fX4_sendMessages_B35 k M' (nI (S 2)) _ = k M'
    unfold fX4_sendMessages_B35
    simp (disch := omega) only [h'.n2, qle, Nat.le_refl, if_true]
  · intro n i M' hi hI
    obtain ⟨f1, s1, s2⟩ := hI
    have h' : AC S M' := h.fr f1 (by decide) (by decide)
    have hL' : LC S M' := by
      intro b hb
      unfold LC1
      rw [f1.1 16 (by decide), f1.1 17 (by decide), f1.1 18 (by decide)]
      exact hL b hb
    have hP' : M'.1 19 i = nI (zRo S i) := by rw [f1.1 19 (by decide)]; exact hP i hi
    have ha := (zAge_le w (b := S (21 + i))).1
    have hr := zRo_le (S := S) i
    by_cases c : zSn S i
    · obtain ⟨M2, q1, q2, q3⟩ := eC_rank (M := xI (xJ M' 23 i (lN (zOw S i))) 24 i (nI (zAge S (S (21 + i))))) (h'.fr ((Fq.rf.J (ks := [24]) (js := [23]) (by decide) _ _).I (by decide) _ _) (by decide) (by decide)) w hi c (by rw [rI2, rJ1, uLs]) (fun q hq hs => by rw [rI2, rJ1, uLn _ _ (by omega)]; exact (s1 q hq hs).1) (fun s hs => by rw [rIn _ _ _ (show 25 ≠ 24 by decide), rIn _ _ _ (show 26 ≠ 24 by decide)]; exact s2 s hs)
      refine ⟨M2, ⟨((f1.J (by decide) _ _).I (by decide) _ _).tr q2 (by decide) (by decide), fun p hp hs => ?_, q3⟩, fun k => ?_⟩
      · rw [q2.2 23 (by decide), q2.1 24 (by decide), rI2, rJ1, rI1]
        by_cases d : p = i
        · subst d; rw [uLs, us]; exact ⟨rfl, rfl⟩
        · rw [uLn _ _ d, un _ _ d]; exact s1 p (by omega) hs
      · show fX4_sendMessages_B35 k M' (nI i) _ = _
        unfold fX4_sendMessages_B35
        simp (disch := omega) only [h'.n2, qle, eC_age h' w hi hL', ob, xrdN, hP', qeq, qlt, eC_ow h' w hi hL', xwJN, xwIN, q1, nI_add]
        rw [if_neg (by omega), if_pos c.1, if_neg (by have := c.2; omega)]
    · refine ⟨M', ⟨f1, fun p hp hs => ?_, fun s hs => ?_⟩, fun k => ?_⟩
      · by_cases d : p = i
        · subst d; exact absurd hs c
        · exact s1 p (by omega) hs
      · have : zBB S s (i + 1) = zBB S s i := if_neg (fun z => c z.1)
        rw [this]
        exact s2 s hs
      · show fX4_sendMessages_B35 k M' (nI i) _ = _
        unfold fX4_sendMessages_B35
        simp (disch := omega) only [h'.n2, qle, eC_age h' w hi hL', ob, xrdN, hP', qeq, qlt, nI_add]
        rw [if_neg (by omega)]
        by_cases d : zRo S i = 2
        · rw [if_pos d, if_pos (by apply Classical.byContradiction; intro z; exact c ⟨d, by omega⟩)]
        · rw [if_neg d]
theorem eC_send (h : AC S M) (w : WF S) (hL : LC S M) (hP : LPo S M) : ∃ M', fX4_sendMessages M = some M' ∧ Fq [24, 25, 26] [23] M M' ∧ SI S (S 2) M' := by
  unfold fX4_sendMessages
  obtain ⟨M1, ⟨f1, h1⟩, e1⟩ := eC_sd1 h w
  have hL1 : LC S M1 := by
    intro b hb
    unfold LC1
    rw [f1.1 16 (by decide), f1.1 17 (by decide), f1.1 18 (by decide)]
    exact hL b hb
  have hP1 : LPo S M1 := by
    intro p hp
    rw [f1.1 19 (by decide)]
    exact hP p hp
  obtain ⟨M2, ⟨f2, h2⟩, e2⟩ := eC_sd2 (h.fr f1 (by decide) (by decide)) w hL1 hP1 h1
  rw [e1, e2]
  exact ⟨M2, rfl, (f1.up (by decide) (by decide)).tr f2 (by decide) (by decide), h2⟩
end SB
