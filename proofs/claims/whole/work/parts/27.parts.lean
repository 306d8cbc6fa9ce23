def cn (f : Nat → Bool) : Nat → Nat
  | 0 => 0
  | n + 1 => cn f n + (if f n = true then 1 else 0)
theorem cn_ext {f g : Nat → Bool} : ∀ {n : Nat}, (∀ i, i < n → f i = g i) → cn f n = cn g n := by
  intro n
  induction n with
  | zero => intro _; rfl
  | succ n ih =>
    intro h
    unfold cn
    rw [ih (fun i hi => h i (by omega)), h n (by omega)]
theorem cn_up {f g : Nat → Bool} {i : Nat} (hf : f i = false) (hg : g i = true) (ho : ∀ k, k ≠ i → g k = f k) : ∀ {n : Nat}, i < n → cn g n = cn f n + 1 := by
  intro n
  induction n with
  | zero => intro h; omega
  | succ n ih =>
    intro h
    unfold cn
    by_cases c : n = i
    · subst c
      rw [hf, hg, cn_ext (fun k hk => ho k (by omega)), if_pos rfl, if_neg (by decide)]
    · rw [ih (by omega), ho n c]; omega
theorem cn_add {f : Nat → Bool} {a : Nat} : ∀ {b : Nat}, cn f (a + b) = cn f a + cn (fun i => f (a + i)) b := by
  intro b
  induction b with
  | zero => rfl
  | succ b ih =>
    show cn f (a + b) + (if f (a + b) = true then 1 else 0) = cn f a + (cn (fun i => f (a + i)) b + (if f (a + b) = true then 1 else 0))
    rw [ih]
    omega
theorem cn_cut {f g : Nat → Bool} {a : Nat} : ∀ {n : Nat}, a ≤ n → (∀ i, i < a → f i = g i) → (∀ i, a ≤ i → i < n → f i = false) → cn f n = cn g a := by
  intro n
  induction n with
  | zero =>
    intro h _ _
    have : a = 0 := by omega
    subst this; rfl
  | succ n ih =>
    intro h h1 h2
    by_cases c : a = n + 1
    · subst c; exact cn_ext h1
    · show cn f n + (if f n = true then 1 else 0) = cn g a
      rw [ih (by omega) h1 (fun i hi hi2 => h2 i hi (by omega)), h2 n (by omega) (by omega), if_neg (by decide)]
      rfl
theorem cn_all : ∀ {n : Nat}, cn (fun _ => true) n = n := by
  intro n
  induction n with
  | zero => rfl
  | succ n ih =>
    unfold cn
    rw [ih]
    rfl
def zVt (S : Nat → Nat) (k : Nat) : Bool := if k < 10 then decide (k < S 1) else decide (k - 10 < S 0 ∧ S (13 + (k - 10)) = 1)
def zOc (vt : Nat → Bool) (L : Nat → Nat) : Nat → Nat → Bool
  | 0, _ => false
  | n + 1, v => zOc vt L n v || (vt n && decide (L n = v))
def zFi (vt : Nat → Bool) (L : Nat → Nat) (k : Nat) : Bool := vt k && !(zOc vt L k (L k))
theorem zOc_iff {vt : Nat → Bool} {L : Nat → Nat} {v : Nat} : ∀ {n : Nat}, zOc vt L n v = true ↔ ∃ k, k < n ∧ vt k = true ∧ L k = v := by
  intro n
  induction n with
  | zero => exact ⟨fun h => (by cases h), fun ⟨k, hk, _⟩ => by omega⟩
  | succ n ih =>
    unfold zOc
    rw [Bool.or_eq_true, Bool.and_eq_true, decide_eq_true_eq, ih]
    constructor
    · rintro (⟨k, h1, h2⟩ | ⟨h1, h2⟩)
      · exact ⟨k, by omega, h2⟩
      · exact ⟨n, by omega, h1, h2⟩
    · rintro ⟨k, h1, h2, h3⟩
      by_cases c : k = n
      · subst c; exact Or.inr ⟨h2, h3⟩
      · exact Or.inl ⟨k, by omega, h2, h3⟩
theorem fi_oc {vt : Nat → Bool} {L : Nat → Nat} : ∀ {n : Nat}, (∀ k, k < n → L k < 18) → cn (zFi vt L) n = cn (zOc vt L n) 18 := by
  intro n
  induction n with
  | zero =>
    intro _
    show 0 = cn (zOc vt L 0) 18
    have : cn (zOc vt L 0) 18 = cn (zOc vt L 0) 0 := cn_cut (by omega) (fun _ _ => rfl) (fun _ _ _ => rfl)
    rw [this]; rfl
  | succ n ih =>
    intro h
    have ih := ih (fun k hk => h k (by omega))
    show cn (zFi vt L) n + _ = _
    rw [ih]
    by_cases c : zFi vt L n = true
    · rw [if_pos c]
      unfold zFi at c
      rw [Bool.and_eq_true] at c
      have c2 : zOc vt L n (L n) = false := by
        cases e : zOc vt L n (L n) with
        | false => rfl
        | true => rw [e] at c; exact absurd c.2 (by decide)
      refine (cn_up (i := L n) c2 ?_ (fun k hk => ?_) (h n (by omega))).symm
      · unfold zOc; rw [c.1]; simp
      · have : decide (L n = k) = false := decide_eq_false (fun z => hk z.symm)
        show (zOc vt L n k || (vt n && decide (L n = k))) = zOc vt L n k
        rw [this]; simp
    · rw [if_neg c]
      refine cn_ext (fun v _ => ?_)
      cases e : zOc vt L n v with
      | true => unfold zOc; rw [e]; rfl
      | false =>
        unfold zOc
        rw [e]
        cases e2 : vt n with
        | false => rfl
        | true =>
          have : L n ≠ v := by
            intro z
            apply c
            unfold zFi
            rw [z, e, e2]; rfl
          rw [decide_eq_false this]; rfl
theorem oc_merge {vt : Nat → Bool} {L : Nat → Nat} {c d : Nat} (hne : c ≠ d) (hd : d < 18) (oc : zOc vt L 18 c = true) (od : zOc vt L 18 d = true) : cn (zOc vt L 18) 18 = cn (zOc vt (fun k => if L k = d then c else L k) 18) 18 + 1 := by
  refine cn_up (i := d) ?_ od (fun v hv => ?_) hd
  · cases e : zOc vt (fun k => if L k = d then c else L k) 18 d with
    | false => rfl
    | true =>
      obtain ⟨k, -, -, h⟩ := zOc_iff.mp e
      by_cases z : L k = d
      · have h : (if L k = d then c else L k) = d := h
        rw [if_pos z] at h
        exact absurd h hne
      · have h : (if L k = d then c else L k) = d := h
        rw [if_neg z] at h
        exact absurd h z
  · have key : zOc vt L 18 v = true ↔ zOc vt (fun k => if L k = d then c else L k) 18 v = true := by
      rw [zOc_iff, zOc_iff]
      constructor
      · rintro ⟨k, h1, h2, h3⟩
        exact ⟨k, h1, h2, by show (if L k = d then c else L k) = v; rw [if_neg (by rw [h3]; exact hv)]; exact h3⟩
      · rintro ⟨k, h1, h2, h3⟩
        have h3 : (if L k = d then c else L k) = v := h3
        by_cases z : L k = d
        · rw [if_pos z] at h3
          rw [← h3]
          exact zOc_iff.mp oc
        · rw [if_neg z] at h3
          exact ⟨k, h1, h2, h3⟩
    cases e : zOc vt L 18 v with
    | true => exact (key.mp e).symm
    | false =>
      cases e2 : zOc vt (fun k => if L k = d then c else L k) 18 v with
      | false => rfl
      | true => rw [key.mpr e2] at e; cases e
def zLb (S : Nat → Nat) : Nat → Nat → Nat
  | 0 => fun k => k
  | n + 1 => if S (117 + n) = 4 then (fun k => if zLb S n k = zLb S n (10 + S (21 + n)) then zLb S n (S (45 + n)) else zLb S n k) else zLb S n
def zFw (S : Nat → Nat) (p : Nat) : Bool := decide (S (117 + p) = 4)
section PT
variable {S : Nat → Nat} {M m : xM} {sl sv : Nat → Int32}
theorem zLb_lt (w : WF S) : ∀ n, n ≤ S 2 → ∀ k, k < 18 → zLb S n k < 18 := by
  intro n
  induction n with
  | zero => intro _ k hk; exact hk
  | succ n ih =>
    intro hn k hk
    have := w.1.2.2.1
    have b2 := (w.2.2.1 n (by omega)).2.1
    unfold zLb
    by_cases c : S (117 + n) = 4
    · rw [if_pos c]
      show (if zLb S n k = zLb S n (10 + S (21 + n)) then zLb S n (S (45 + n)) else zLb S n k) < 18
      split
      · exact ih (by omega) _ (by omega)
      · exact ih (by omega) k hk
    · rw [if_neg c]; exact ih (by omega) k hk
theorem eR_isB (g : RA S m) (w : WF S) {b : Nat} (hb : b < 1000) : fX7_isBridge m (nI b) = some (zb (b < S 0)) := by
  obtain ⟨w0, w1, w2, w3⟩ := w.1
  unfold fX7_isBridge
  simp (disch := omega) only [xrdN, g 0 (by decide)]
  rcases inC m (nI b) (n := S 0) (by omega) with ⟨b', h1, h2, h3⟩ | ⟨h1, h2, h3⟩
  · rw [qeq (by omega) (by omega)] at h2
    rw [h3, zbt (by omega)]; rfl
  · rw [h3, zbf (fun z => h1 b z rfl)]; rfl
theorem eR_isG (g : RA S m) (w : WF S) {b : Nat} (hb : b < 1000) : fX7_isSegment m (nI b) = some (zb (b < S 1)) := by
  obtain ⟨w0, w1, w2, w3⟩ := w.1
  unfold fX7_isSegment
  simp (disch := omega) only [xrdN, g 1 (by decide)]
  rcases inC m (nI b) (n := S 1) (by omega) with ⟨b', h1, h2, h3⟩ | ⟨h1, h2, h3⟩
  · rw [qeq (by omega) (by omega)] at h2
    rw [h3, zbt (by omega)]; rfl
  · rw [h3, zbf (fun z => h1 b z rfl)]; rfl
theorem eR_vt (g : RA S m) (w : WF S) {k : Nat} (hk : k < 18) : fX7_isVertex m (nI k) = some (zb (zVt S k = true)) := by
  obtain ⟨w0, w1, w2, w3⟩ := w.1
  unfold fX7_isVertex zVt
  simp (disch := omega) only [qle]
  by_cases c : k < 10
  · rw [if_neg (by omega)]
    simp only [if_pos c, eR_isG g w (show k < 1000 by omega), ob, xzb_zb, decide_eq_true_eq]
  · rw [if_pos (by omega)]
    simp only [if_neg c, decide_eq_true_eq]
    rw [pk_sub (by omega), eR_isB g w (by omega)]
    simp only [ob, zb0]
    by_cases d : k - 10 < S 0
    · rw [if_neg (fun z => z d), eR_up g w (show k - 10 < 8 by omega)]
      simp only [ob, zb0]
      by_cases e : S (13 + (k - 10)) = 1
      · rw [if_neg (fun z => z e), zbt ⟨d, e⟩]
      · rw [if_pos e, zbf (fun z => e z.2)]
    · rw [if_pos d, zbf (fun z => d z.1)]
theorem eR_vs (g : RA S m) (w : WF S) : fX7_vertices m = some (nI (cn (zVt S) 18)) := by
  have key := lp0 (fun (k : Int32 → Option Int32) n (s : Int32) v => fX7_vertices_L4 m k n s v) (fun i s => s = nI (cn (zVt S) i)) 18 (by omega) (nI 0) rfl ?_ ?_
  · obtain ⟨s, e, hk⟩ := key
    unfold fX7_vertices
    rw [hk, e]
  · intro k n s hI
    show fX7_vertices_B4 m k s (nI 18) _ = k s
    unfold fX7_vertices_B4
    simp (disch := omega) only [qle, Nat.le_refl, if_true]
  · intro n i s hi hI
    subst hI
    refine ⟨_, rfl, fun k => ?_⟩
    show fX7_vertices_B4 m k _ (nI i) _ = _
    unfold fX7_vertices_B4 fX7_vertices_j24
    simp (disch := omega) only [qle, eR_vt g w hi, ob, zb0, nI_add]
    rw [if_neg (by omega)]
    show _ = fX7_vertices_L4 m k n (nI (cn (zVt S) i + (if zVt S i = true then 1 else 0))) (nI (i + 1))
    by_cases c : zVt S i = true
    · rw [if_neg (fun z => z c), if_pos c]
    · rw [if_pos c, if_neg c]
theorem eR_pn (g : RA S m) (w : WF S) {L : Nat → Nat} (hL : ∀ k, k < 18 → m.1 13 k = nI (L k) ∧ L k < 18) : fX7_partsNow m = some (nI (cn (zFi (zVt S) L) 18)) := by
  have inner : ∀ (v1 : Int32) (k : Nat), k < 18 → ∀ K : Int32 → Option Int32, fX7_partsNow_L19 m v1 (nI k) K 512 (zb (zVt S k = true)) (nI 0) = K (zb (zFi (zVt S) L k = true)) := by
    intro v1 k hk
    have key := lp0 (fun (K : Int32 → Option Int32) n (s : Int32) v => fX7_partsNow_L19 m v1 (nI k) K n s v) (fun i s => s = zb (zVt S k = true ∧ ¬ zOc (zVt S) L i (L k) = true)) k (by omega) (zb (zVt S k = true)) ?_ ?_ ?_
    · obtain ⟨s, e, hK⟩ := key
      intro K
      rw [hK, e]
      congr 1
      unfold zFi
      by_cases c : zVt S k = true ∧ ¬ zOc (zVt S) L k (L k) = true
      · rw [zbt c, zbt]
        rw [c.1]
        cases e2 : zOc (zVt S) L k (L k) with
        | false => rfl
        | true => exact absurd e2 c.2
      · rw [zbf c, zbf]
        intro z
        rw [Bool.and_eq_true] at z
        apply c
        refine ⟨z.1, fun y => ?_⟩
        rw [y] at z
        exact absurd z.2 (by decide)
    · by_cases c : zVt S k = true
      · rw [zbt c, zbt ⟨c, fun z => by cases z⟩]
      · rw [zbf c, zbf (fun z => c z.1)]
    · intro K n s hI
      show fX7_partsNow_B19 m v1 (nI k) K s (nI k) _ = K s
      unfold fX7_partsNow_B19
      simp (disch := omega) only [qle, Nat.le_refl, if_true]
    · intro n i s hi hI
      subst hI
      have hoc : zOc (zVt S) L (i + 1) (L k) = (zOc (zVt S) L i (L k) || (zVt S i && decide (L i = L k))) := rfl
      have e1 := (hL i (by omega))
      have e2 := (hL k hk)
      refine ⟨_, rfl, fun K => ?_⟩
      show fX7_partsNow_B19 m v1 (nI k) K _ (nI i) _ = _
      unfold fX7_partsNow_B19 fX7_partsNow_j59
      simp (disch := omega) only [qle, zb0, eR_vt g w (show i < 18 by omega), ob, xrdN, e1.1, e2.1, qeq, nI_add]
      rw [if_neg (show ¬ k ≤ i by omega)]
      by_cases c : zVt S k = true ∧ ¬ zOc (zVt S) L i (L k) = true
      · rw [if_neg (fun z => z c)]
        have c0 : zOc (zVt S) L i (L k) = false := by
          cases e3 : zOc (zVt S) L i (L k) with
          | false => rfl
          | true => exact absurd e3 c.2
        by_cases d : zVt S i = true
        · rw [if_neg (fun z => z d)]
          by_cases f : L i = L k
          · rw [if_pos f, zbf (fun z => z.2 (by rw [hoc, d, decide_eq_true f]; simp))]
          · rw [if_neg f, zbt ⟨c.1, by rw [hoc, c0, decide_eq_false f]; simp⟩]
        · rw [if_pos d]
          have d0 : zVt S i = false := by
            cases e3 : zVt S i with
            | false => rfl
            | true => exact absurd e3 d
          rw [zbt ⟨c.1, by rw [hoc, c0, d0]; simp⟩]
      · rw [if_pos c, zbf (fun z => c ⟨z.1, fun y => z.2 (by rw [hoc, y]; rfl)⟩)]
  have key := lp0 (fun (k : Int32 → Option Int32) n (s : Int32) v => fX7_partsNow_L4 m k n s v) (fun i s => s = nI (cn (zFi (zVt S) L) i)) 18 (by omega) (nI 0) rfl ?_ ?_
  · obtain ⟨s, e, hk⟩ := key
    unfold fX7_partsNow
    rw [hk, e]
  · intro k n s hI
    show fX7_partsNow_B4 m k s (nI 18) _ = k s
    unfold fX7_partsNow_B4
    simp (disch := omega) only [qle, Nat.le_refl, if_true]
  · intro n i s hi hI
    subst hI
    refine ⟨_, rfl, fun k => ?_⟩
    show fX7_partsNow_B4 m k _ (nI i) _ = _
    unfold fX7_partsNow_B4 fX7_partsNow_j76
    simp (disch := omega) only [qle, eR_vt g w hi, ob, inner _ i hi, zb0, nI_add]
    rw [if_neg (by omega)]
    show _ = fX7_partsNow_L4 m k n (nI (cn (zFi (zVt S) L) i + (if zFi (zVt S) L i = true then 1 else 0))) (nI (i + 1))
    by_cases c : zFi (zVt S) L i = true
    · rw [if_neg (fun z => z c), if_pos c]
    · rw [if_pos c, if_neg c]
theorem zLb_s {n : Nat} (c : S (117 + n) = 4) : zLb S (n + 1) = fun k => if zLb S n k = zLb S n (10 + S (21 + n)) then zLb S n (S (45 + n)) else zLb S n k := if_pos c
theorem zLb_k {n : Nat} (c : ¬ S (117 + n) = 4) : zLb S (n + 1) = zLb S n := if_neg c
def LB (r : Nat) (L : Nat → Nat) (M : xM) : Prop := ∀ k, k < 18 → M.1 r k = nI (L k)
theorem eR_join (g : RA S m) (w : WF S) : ∃ m', fX7_joinAll m = some (nI (cn (zFw S) (S 2)), m') ∧ Fq [13] [] m m' ∧ LB 13 (zLb S (S 2)) m' := by
  obtain ⟨w0, w1, w2, w3⟩ := w.1
  have L1 : ∃ m', (Fq [13] [] m m' ∧ ∀ k, k < 18 → m'.1 13 k = nI k) ∧ ∀ K, fX7_joinAll_L2 K 512 m (nI 0) = K m' := by
    refine lp0 (fun k' n M v => fX7_joinAll_L2 k' n M v) (fun i m' => Fq [13] [] m m' ∧ ∀ k, k < i → m'.1 13 k = nI k) 18 (by omega) m ⟨Fq.rf, fun b hb => by omega⟩ ?_ ?_
    · intro k' n m' hI
      show fX7_joinAll_B2 k' m' (nI 18) _ = k' m'
      unfold fX7_joinAll_B2
      simp (disch := omega) only [qle, Nat.le_refl, if_true]
    · intro n i m' hi hI
      refine ⟨xI m' 13 i (nI i), ⟨hI.1.I (by decide) _ _, fun k hk => ?_⟩, fun k' => ?_⟩
      · rw [rI1]
        by_cases c : k = i
        · subst c; exact us _ _ _
        · rw [un _ _ c]; exact hI.2 k (by omega)
      · show fX7_joinAll_B2 k' m' (nI i) _ = _
        unfold fX7_joinAll_B2
        simp (disch := omega) only [qle, xwIN, nI_add]
        rw [if_neg (by omega)]
  obtain ⟨m1, ⟨f1, b1⟩, e1⟩ := L1
  have inner : ∀ (v1 v2 : Int32) (L : Nat → Nat) (c d : Nat), c < 18 → d < 18 → (∀ k, k < 18 → L k < 18) → ∀ m0 : xM, LB 13 L m0 → ∃ m', (Fq [13] [] m0 m' ∧ LB 13 (fun k => if L k = d then c else L k) m') ∧ ∀ K, fX7_joinAll_L82 v1 v2 (nI c) (nI d) K 512 m0 (nI 0) = K m' := by
    intro v1 v2 L c d hc hd hL m0 h0
    have key := lp0 (fun (k' : xM → Option (Int32 × xM)) n M v => fX7_joinAll_L82 v1 v2 (nI c) (nI d) k' n M v) (fun i m' => Fq [13] [] m0 m' ∧ ∀ k, k < 18 → m'.1 13 k = nI (if k < i then (if L k = d then c else L k) else L k)) 18 (by omega) m0 ⟨Fq.rf, fun k hk => by rw [if_neg (by omega)]; exact h0 k hk⟩ ?_ ?_
    · obtain ⟨m', ⟨a1, a2⟩, a3⟩ := key
      refine ⟨m', ⟨a1, fun k hk => ?_⟩, a3⟩
      rw [a2 k hk, if_pos hk]
    · intro k' n m' hI
      show fX7_joinAll_B82 _ _ _ _ k' m' (nI 18) _ = k' m'
      unfold fX7_joinAll_B82
      simp (disch := omega) only [qle, Nat.le_refl, if_true]
    · intro n i m' hi hI
      have ei := hI.2 i hi
      rw [if_neg (by omega)] at ei
      have hLi := hL i hi
      refine ⟨xI m' 13 i (nI (if L i = d then c else L i)), ⟨hI.1.I (by decide) _ _, fun k hk => ?_⟩, fun k' => ?_⟩
      · rw [rI1]
        by_cases z : k = i
        · subst z; rw [us, if_pos (show k < k + 1 by omega)]
        · rw [un _ _ z, hI.2 k hk]
          by_cases z2 : k < i
          · rw [if_pos z2, if_pos (show k < i + 1 by omega)]
          · rw [if_neg z2, if_neg (show ¬ k < i + 1 by omega)]
      · show fX7_joinAll_B82 _ _ _ _ k' m' (nI i) _ = _
        unfold fX7_joinAll_B82 fX7_joinAll_j118
        simp (disch := omega) only [qle, xrdN, ei, qeq, xwIN, nI_add]
        rw [if_neg (by omega)]
        by_cases z : L i = d
        · rw [if_pos z, if_pos z]
        · rw [if_neg z, if_neg z]
  have L2 : ∃ s : xM × Int32, (Fq [13] [] m1 s.1 ∧ LB 13 (zLb S (S 2)) s.1 ∧ s.2 = nI (cn (zFw S) (S 2))) ∧ ∀ K : xM → Int32 → Option (Int32 × xM), fX7_joinAll_L25 K 512 m1 (nI 0) (nI 0) = K s.1 s.2 := by
    have key := lp0 (fun (k' : xM × Int32 → Option (Int32 × xM)) n (s : xM × Int32) v => fX7_joinAll_L25 (fun M v1 => k' (M, v1)) n s.1 s.2 v) (fun i s => Fq [13] [] m1 s.1 ∧ LB 13 (zLb S i) s.1 ∧ s.2 = nI (cn (zFw S) i)) (S 2) (by omega) (m1, nI 0) ⟨Fq.rf, b1, rfl⟩ ?_ ?_
    · obtain ⟨s, a1, a2⟩ := key
      exact ⟨s, a1, fun K => a2 (fun s => K s.1 s.2)⟩
    · intro k' n s hI
      have g' : RA S s.1 := (g.fr f1 (by decide)).fr hI.1 (by decide)
      show fX7_joinAll_B25 _ s.1 s.2 (nI (S 2)) _ = k' s
      unfold fX7_joinAll_B25
      simp (disch := omega) only [eR_ports g', ob, qle, Nat.le_refl, if_true]
    · intro n i s hi hI
      obtain ⟨q1, q2, q3⟩ := hI
      have hi24 : i < 24 := by omega
      have g' : RA S s.1 := (g.fr f1 (by decide)).fr q1 (by decide)
      obtain ⟨x1, x2, x3, x4, x5, x6⟩ := w.2.2.1 i hi24
      have hlt := zLb_lt w i (by omega)
      have st : ∀ k' : xM × Int32 → Option (Int32 × xM), fX7_joinAll_L25 (fun M v1 => k' (M, v1)) (n + 1) s.1 s.2 (nI i) = fX7_joinAll_B25 (fun M v1 => k' (M, v1)) s.1 s.2 (nI i) (fun M v1 v2 => fX7_joinAll_L25 (fun M v1 => k' (M, v1)) n M v1 v2) := fun _ => rfl
      by_cases c : S (117 + i) = 4
      · obtain ⟨m2, ⟨y1, y2⟩, y3⟩ := inner (s.2 + nI 1) (nI i) (zLb S i) (zLb S i (S (45 + i))) (zLb S i (10 + S (21 + i))) (hlt _ (by omega)) (hlt _ (by omega)) hlt s.1 q2
        refine ⟨(m2, s.2 + nI 1), ⟨q1.tr y1 (fun _ h => h) (fun _ h => h), by rw [zLb_s c]; exact y2, ?_⟩, fun k' => ?_⟩
        · show s.2 + nI 1 = nI (cn (zFw S) i + (if zFw S i = true then 1 else 0))
          rw [q3, nI_add, if_pos (show zFw S i = true from decide_eq_true c)]
        · rw [st]
          unfold fX7_joinAll_B25
          simp (disch := omega) only [eR_ports g', ob, qle, nI_add, xrdN, g' (117 + i) (by omega), g' (45 + i) (by omega), eR_br g' hi24, q2 _ (show S (45 + i) < 18 by omega), q2 _ (show 10 + S (21 + i) < 18 by omega), qeq]
          rw [if_neg (by omega), if_pos c]
          exact y3 _
      · refine ⟨s, ⟨q1, by rw [zLb_k c]; exact q2, ?_⟩, fun k' => ?_⟩
        · show s.2 = nI (cn (zFw S) i + (if zFw S i = true then 1 else 0))
          rw [q3, if_neg (show ¬ zFw S i = true from fun z => c (of_decide_eq_true z))]
          rfl
        · rw [st]
          unfold fX7_joinAll_B25
          simp (disch := omega) only [eR_ports g', ob, qle, nI_add, xrdN, g' (117 + i) (by omega), qeq]
          rw [if_neg (by omega), if_neg c]
  obtain ⟨s, ⟨a1, a2, a3⟩, a4⟩ := L2
  refine ⟨s.1, ?_, f1.tr a1 (fun _ h => h) (fun _ h => h), a2⟩
  unfold fX7_joinAll
  rw [e1, a4, a3]
theorem eC_fw (h : AC S M) (w : WF S) {p : Nat} (hp : p < 24) : fX3_isForwarding M (nI p) = some (zb (S (117 + p) = 4)) := by
  have := (w.2.2.1 p hp).2.2.2.2.1
  unfold fX3_isForwarding
  simp (disch := omega) only [xrdN, h.r7, qeq, some_zb]
theorem vt_cn (w : WF S) : cn (zVt S) 18 = S 1 + cn (fun b => decide (S (13 + b) = 1)) (S 0) := by
  obtain ⟨w0, w1, w2, w3⟩ := w.1
  have a : cn (zVt S) (10 + 8) = cn (zVt S) 10 + cn (fun i => zVt S (10 + i)) 8 := cn_add
  have b : cn (zVt S) 10 = cn (fun _ => true) (S 1) := by
    refine cn_cut w1 (fun i hi => ?_) (fun i h1 h2 => ?_)
    · unfold zVt; rw [if_pos (by omega)]; exact decide_eq_true hi
    · unfold zVt; rw [if_pos h2]; exact decide_eq_false (by omega)
  have c : cn (fun i => zVt S (10 + i)) 8 = cn (fun b => decide (S (13 + b) = 1)) (S 0) := by
    refine cn_cut w0 (fun i hi => ?_) (fun i h1 h2 => ?_)
    · show zVt S (10 + i) = _
      unfold zVt
      rw [if_neg (by omega), show 10 + i - 10 = i by omega]
      by_cases z : S (13 + i) = 1
      · rw [decide_eq_true z, decide_eq_true ⟨hi, z⟩]
      · rw [decide_eq_false z, decide_eq_false (fun y => z y.2)]
    · show zVt S (10 + i) = _
      unfold zVt
      rw [if_neg (by omega), show 10 + i - 10 = i by omega]
      exact decide_eq_false (fun y => by omega)
  rw [show 18 = 10 + 8 from rfl, a, b, c, cn_all]
theorem eC_vs (h : AC S M) (w : WF S) : fX5_countVertices M = some (nI (cn (zVt S) 18)) := by
  obtain ⟨w0, w1, w2, w3⟩ := w.1
  rw [vt_cn w]
  have key := lp0 (fun (k : Int32 → Option Int32) n (s : Int32) v => fX5_countVertices_L10 M k n s v) (fun i s => s = nI (S 1 + cn (fun b => decide (S (13 + b) = 1)) i)) (S 0) (by omega) (nI (S 1)) rfl ?_ ?_
  · obtain ⟨s, e, hk⟩ := key
    unfold fX5_countVertices
    rw [h.n1, hk, e]
  · intro k n s hI
    show fX5_countVertices_B10 M k s (nI (S 0)) _ = k s
    unfold fX5_countVertices_B10
    simp (disch := omega) only [h.n0, qle, Nat.le_refl, if_true]
  · intro n i s hi hI
    subst hI
    refine ⟨_, rfl, fun k => ?_⟩
    show fX5_countVertices_B10 M k _ (nI i) _ = _
    unfold fX5_countVertices_B10
    simp (disch := omega) only [h.n0, qle, eC_up h w (show i < 8 by omega), ob, zb0, nI_add]
    rw [if_neg (by omega)]
    show _ = fX5_countVertices_L10 M k n (nI (S 1 + (cn (fun b => decide (S (13 + b) = 1)) i + (if decide (S (13 + i) = 1) = true then 1 else 0)))) (nI (i + 1))
    by_cases c : S (13 + i) = 1
    · rw [if_neg (fun z => z c), if_pos (decide_eq_true c), Nat.add_assoc]
    · rw [if_pos c, if_neg (fun z => c (of_decide_eq_true z))]
      rfl
theorem eC_jn (h : AC S M) (w : WF S) {L : Nat → Nat} (hL : LB 31 L M) (hlt : ∀ k, k < 18 → L k < 18) {p : Nat} (hp : p < 24) : ∃ M', Fq [31] [] M M' ∧ LB 31 (fun k => if L k = L (10 + S (21 + p)) then L (S (45 + p)) else L k) M' ∧ fX5_join M (nI p) = some (zb (L (S (45 + p)) ≠ L (10 + S (21 + p))), M') := by
  obtain ⟨x1, x2, x3, x4, x5, x6⟩ := w.2.2.1 p hp
  have hc := hlt (S (45 + p)) (by omega)
  have hd := hlt (10 + S (21 + p)) (by omega)
  generalize hcc : L (S (45 + p)) = c at hc
  generalize hdd : L (10 + S (21 + p)) = d at hd
  have e1 := hL (S (45 + p)) (by omega)
  have e2 := hL (10 + S (21 + p)) (by omega)
  rw [hcc] at e1
  rw [hdd] at e2
  unfold fX5_join
  simp (disch := omega) only [xrdN, h.r4, h.r3, nI_add, e1, e2, qeq]
  by_cases z : c = d
  · rw [if_pos z, zbf (fun y => y z)]
    refine ⟨M, Fq.rf, fun k hk => ?_, rfl⟩
    rw [hL k hk]
    show nI (L k) = nI (if L k = d then c else L k)
    by_cases y : L k = d
    · rw [if_pos y, z, y]
    · rw [if_neg y]
  · rw [if_neg z, zbt z]
    have key := lp0 (fun (k' : xM → Option (Int32 × xM)) n M v => fX5_join_L43 (nI c) (nI d) k' n M v) (fun i M' => Fq [31] [] M M' ∧ ∀ k, k < 18 → M'.1 31 k = nI (if k < i then (if L k = d then c else L k) else L k)) 18 (by omega) M ⟨Fq.rf, fun k hk => by rw [if_neg (by omega)]; exact hL k hk⟩ ?_ ?_
    · obtain ⟨M', ⟨a1, a2⟩, a3⟩ := key
      exact ⟨M', a1, fun k hk => by rw [a2 k hk, if_pos hk], a3 _⟩
    · intro k' n M' hI
      show fX5_join_B43 _ _ k' M' (nI 18) _ = k' M'
      unfold fX5_join_B43
      simp (disch := omega) only [qle, Nat.le_refl, if_true]
    · intro n i M' hi hI
      have ei := hI.2 i hi
      rw [if_neg (by omega)] at ei
      have hLi := hlt i hi
      by_cases y : L i = d
      · refine ⟨xI M' 31 i (nI c), ⟨hI.1.I (by decide) _ _, fun k hk => ?_⟩, fun k' => ?_⟩
        · rw [rI1]
          by_cases u : k = i
          · subst u; rw [us, if_pos (show k < k + 1 by omega), if_pos y]
          · rw [un _ _ u, hI.2 k hk]
            by_cases u2 : k < i
            · rw [if_pos u2, if_pos (show k < i + 1 by omega)]
            · rw [if_neg u2, if_neg (show ¬ k < i + 1 by omega)]
        · show fX5_join_B43 _ _ k' M' (nI i) _ = _
          unfold fX5_join_B43
          simp (disch := omega) only [qle, xrdN, ei, qeq, xwIN, nI_add]
          rw [if_neg (by omega), if_pos y]
      · refine ⟨M', ⟨hI.1, fun k hk => ?_⟩, fun k' => ?_⟩
        · rw [hI.2 k hk]
          by_cases u : k = i
          · subst u; rw [if_neg (show ¬ k < k by omega), if_pos (show k < k + 1 by omega), if_neg y]
          · by_cases u2 : k < i
            · rw [if_pos u2, if_pos (show k < i + 1 by omega)]
            · rw [if_neg u2, if_neg (show ¬ k < i + 1 by omega)]
        · show fX5_join_B43 _ _ k' M' (nI i) _ = _
          unfold fX5_join_B43
          simp (disch := omega) only [qle, xrdN, ei, qeq, nI_add]
          rw [if_neg (by omega), if_neg y]
theorem eC_parts (h : AC S M) (w : WF S) (q : WQ S) : ∃ M', fX5_countParts M = some (nI (cn (zFi (zVt S) (zLb S (S 2))) 18), M') ∧ Fq [31] [] M M' := by
  obtain ⟨w0, w1, w2, w3⟩ := w.1
  have L1 : ∃ M', (Fq [31] [] M M' ∧ ∀ k, k < 18 → M'.1 31 k = nI k) ∧ ∀ K, fX5_countParts_L2 K 512 M (nI 0) = K M' := by
    refine lp0 (fun k' n M v => fX5_countParts_L2 k' n M v) (fun i m' => Fq [31] [] M m' ∧ ∀ k, k < i → m'.1 31 k = nI k) 18 (by omega) M ⟨Fq.rf, fun b hb => by omega⟩ ?_ ?_
    · intro k' n m' hI
      show fX5_countParts_B2 k' m' (nI 18) _ = k' m'
      unfold fX5_countParts_B2
      simp (disch := omega) only [qle, Nat.le_refl, if_true]
    · intro n i m' hi hI
      refine ⟨xI m' 31 i (nI i), ⟨hI.1.I (by decide) _ _, fun k hk => ?_⟩, fun k' => ?_⟩
      · rw [rI1]
        by_cases c : k = i
        · subst c; exact us _ _ _
        · rw [un _ _ c]; exact hI.2 k (by omega)
      · show fX5_countParts_B2 k' m' (nI i) _ = _
        unfold fX5_countParts_B2
        simp (disch := omega) only [qle, xwIN, nI_add]
        rw [if_neg (by omega)]
  obtain ⟨M1, ⟨f1, b1⟩, e1⟩ := L1
  have h1 : AC S M1 := h.fr f1 (by decide) (by decide)
  have V0 : cn (zVt S) 18 = cn (zOc (zVt S) (zLb S 0) 18) 18 := by
    refine cn_ext (fun i hi => ?_)
    cases e : zVt S i with
    | true => exact (zOc_iff.mpr ⟨i, hi, e, rfl⟩).symm
    | false =>
      cases e2 : zOc (zVt S) (zLb S 0) 18 i with
      | false => rfl
      | true =>
        obtain ⟨k, h1, h2, h3⟩ := zOc_iff.mp e2
        have h3 : k = i := h3
        subst h3
        rw [h2] at e; cases e
  have L2 : ∃ s : xM × Int32, (Fq [31] [] M1 s.1 ∧ LB 31 (zLb S (S 2)) s.1 ∧ s.2 = nI (cn (zOc (zVt S) (zLb S (S 2)) 18) 18)) ∧ ∀ K : xM → Int32 → Option (Int32 × xM), fX5_countParts_L31 K 512 M1 (nI (cn (zVt S) 18)) (nI 0) = K s.1 s.2 := by
    have key := lp0 (fun (k' : xM × Int32 → Option (Int32 × xM)) n (s : xM × Int32) v => fX5_countParts_L31 (fun M v1 => k' (M, v1)) n s.1 s.2 v) (fun i s => Fq [31] [] M1 s.1 ∧ LB 31 (zLb S i) s.1 ∧ s.2 = nI (cn (zOc (zVt S) (zLb S i) 18) 18)) (S 2) (by omega) (M1, nI (cn (zVt S) 18)) ⟨Fq.rf, b1, by rw [V0]⟩ ?_ ?_
    · obtain ⟨s, a1, a2⟩ := key
      exact ⟨s, a1, fun K => a2 (fun s => K s.1 s.2)⟩
    · intro k' n s hI
      have h' : AC S s.1 := h1.fr hI.1 (by decide) (by decide)
      show fX5_countParts_B31 _ s.1 s.2 (nI (S 2)) _ = k' s
      unfold fX5_countParts_B31
      simp (disch := omega) only [h'.n2, qle, Nat.le_refl, if_true]
    · intro n i s hi hI
      obtain ⟨q1, q2, q3⟩ := hI
      have hi24 : i < 24 := by omega
      have h' : AC S s.1 := h1.fr q1 (by decide) (by decide)
      have hlt := zLb_lt w i (by omega)
      obtain ⟨x1, x2, x3, x4, x5, x6⟩ := w.2.2.1 i hi24
      obtain ⟨y1, y2⟩ := w.2.2.2.1 i hi
      have st : ∀ k' : xM × Int32 → Option (Int32 × xM), fX5_countParts_L31 (fun M v1 => k' (M, v1)) (n + 1) s.1 s.2 (nI i) = fX5_countParts_B31 (fun M v1 => k' (M, v1)) s.1 s.2 (nI i) (fun M v1 v2 => fX5_countParts_L31 (fun M v1 => k' (M, v1)) n M v1 v2) := fun _ => rfl
      by_cases c : S (117 + i) = 4
      · obtain ⟨M2, z1, z2, z3⟩ := eC_jn h' w q2 hlt hi24
        have hup : S (13 + S (21 + i)) = 1 := ((q i hi24 (by omega)).2).2
        have oc : zOc (zVt S) (zLb S i) 18 (zLb S i (S (45 + i))) = true := zOc_iff.mpr ⟨S (45 + i), by omega, by unfold zVt; rw [if_pos x2]; exact decide_eq_true y2, rfl⟩
        have od : zOc (zVt S) (zLb S i) 18 (zLb S i (10 + S (21 + i))) = true := zOc_iff.mpr ⟨10 + S (21 + i), by omega, by unfold zVt; rw [if_neg (by omega), show 10 + S (21 + i) - 10 = S (21 + i) by omega]; exact decide_eq_true ⟨y1, hup⟩, rfl⟩
        by_cases ne : zLb S i (S (45 + i)) = zLb S i (10 + S (21 + i))
        · have same : zLb S (i + 1) = zLb S i := by
            rw [zLb_s c]
            funext k
            by_cases u : zLb S i k = zLb S i (10 + S (21 + i))
            · rw [if_pos u, ne, u]
            · rw [if_neg u]
          rw [zbf (fun y => y ne)] at z3
          refine ⟨(M2, s.2), ⟨q1.tr z1 (fun _ h => h) (fun _ h => h), by rw [zLb_s c]; exact z2, by rw [same]; exact q3⟩, fun k' => ?_⟩
          rw [st]
          unfold fX5_countParts_B31
          simp (disch := omega) only [h'.n2, qle, eC_fw h' w hi24, ob, zb0, z3, if_true, nI_add]
          rw [if_neg (by omega), if_neg (fun y => y c)]
        · have mg := oc_merge ne (hlt _ (by omega)) oc od
          rw [zbt ne] at z3
          refine ⟨(M2, s.2 + (-1)), ⟨q1.tr z1 (fun _ h => h) (fun _ h => h), by rw [zLb_s c]; exact z2, ?_⟩, fun k' => ?_⟩
          · show s.2 + (-1) = _
            rw [q3, zLb_s c, mg]
            exact pk_m1 _
          · rw [st]
            unfold fX5_countParts_B31
            simp (disch := omega) only [h'.n2, qle, eC_fw h' w hi24, ob, zb0, z3, n10f, if_false, nI_add]
            rw [if_neg (by omega), if_neg (fun y => y c)]
      · refine ⟨s, ⟨q1, by rw [zLb_k c]; exact q2, by rw [zLb_k c]; exact q3⟩, fun k' => ?_⟩
        rw [st]
        unfold fX5_countParts_B31
        simp (disch := omega) only [h'.n2, qle, eC_fw h' w hi24, ob, zb0, nI_add]
        rw [if_neg (by omega), if_pos c]
  obtain ⟨s, ⟨a1, a2, a3⟩, a4⟩ := L2
  refine ⟨s.1, ?_, f1.tr a1 (fun _ h => h) (fun _ h => h)⟩
  unfold fX5_countParts
  rw [e1, eC_vs h1 w]
  simp only [ob]
  rw [a4, a3, fi_oc (zLb_lt w (S 2) (Nat.le_refl _))]
theorem s_parts (j : J S sl sv M m) : Rs sl sv (fX6_parts M) (fX7_parts m) := by
  obtain ⟨h, g, g2, g3, w, q⟩ := id j
  obtain ⟨M', c1, c2⟩ := eC_parts h w q
  obtain ⟨m', d1, d2, d3⟩ := eR_join g w
  have j1 := j.frR d2 (by decide) (by decide) (by decide)
  have hlt := zLb_lt w (S 2) (Nat.le_refl _)
  unfold fX6_parts fX7_parts
  rw [c1, d1]
  simp only [ob]
  rw [eR_pn j1.2.1 w (L := zLb S (S 2)) (fun k hk => ⟨d3 k hk, hlt k hk⟩)]
  exact ⟨_, _, _, _, rfl, rfl, j1.frC c2 (by decide) (by decide)⟩
theorem s_loops (j : J S sl sv M m) : Rs sl sv (fX6_loops M) (fX7_loops m) := by
  obtain ⟨h, g, g2, g3, w, q⟩ := id j
  obtain ⟨w0, w1, w2, w3⟩ := w.1
  obtain ⟨M', c1, c2⟩ := eC_parts h w q
  obtain ⟨m', d1, d2, d3⟩ := eR_join g w
  have j1 := j.frR d2 (by decide) (by decide) (by decide)
  have hlt := zLb_lt w (S 2) (Nat.le_refl _)
  have fw : ∀ K : Int32 → Option (Int32 × xM), fX5_countLoops_L4 M K 512 (nI 0) (nI 0) = K (nI (cn (zFw S) (S 2))) := by
    have key := lp0 (fun (k : Int32 → Option (Int32 × xM)) n (s : Int32) v => fX5_countLoops_L4 M k n s v) (fun i s => s = nI (cn (zFw S) i)) (S 2) (by omega) (nI 0) rfl ?_ ?_
    · obtain ⟨s, e, hk⟩ := key
      subst e
      exact hk
    · intro k n s hI
      show fX5_countLoops_B4 M k s (nI (S 2)) _ = k s
      unfold fX5_countLoops_B4
      simp (disch := omega) only [h.n2, qle, Nat.le_refl, if_true]
    · intro n i s hi hI
      subst hI
      refine ⟨_, rfl, fun k => ?_⟩
      show fX5_countLoops_B4 M k _ (nI i) _ = _
      unfold fX5_countLoops_B4
      simp (disch := omega) only [h.n2, qle, eC_fw h w (show i < 24 by omega), ob, zb0, nI_add]
      rw [if_neg (by omega)]
      show _ = fX5_countLoops_L4 M k n (nI (cn (zFw S) i + (if zFw S i = true then 1 else 0))) (nI (i + 1))
      by_cases c : S (117 + i) = 4
      · rw [if_neg (fun z => z c), if_pos (show zFw S i = true from decide_eq_true c)]
      · rw [if_pos c, if_neg (show ¬ zFw S i = true from fun z => c (of_decide_eq_true z))]
        rfl
  unfold fX6_loops fX7_loops fX5_countLoops
  rw [fw, d1, eC_vs h w, c1]
  simp only [ob]
  rw [eR_vs j1.2.1 w, eR_pn j1.2.1 w (L := zLb S (S 2)) (fun k hk => ⟨d3 k hk, hlt k hk⟩)]
  exact ⟨_, _, _, _, rfl, rfl, j1.frC c2 (by decide) (by decide)⟩
end PT
