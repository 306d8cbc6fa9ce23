def zFg (T : Nat → Nat) (p n : Nat) : Nat → Nat := fun j => if 357 ≤ j ∧ j < 357 + n ∧ T (j - 64) = p then 0 else T j
def zTn0 (T : Nat → Nat) (p st : Nat) : Nat → Nat := upS (upS T (165 + 5 * p + 4) 0) (117 + p) st
def zTn (T : Nat → Nat) (p : Nat) : Nat → Nat := if zAct T p then zTn0 T p 1 else zFg (zTn0 T p 0) p 64
def zTA (S : Nat → Nat) (k v : Nat) : Nat → Nat → Nat
  | 0 => upS S k v
  | n + 1 => if zAct (zTA S k v n) n ↔ zAct S n then zTA S k v n else zTn (zTA S k v n) n
section SW
variable {S T : Nat → Nat} {M m : xM} {sl sv : Nat → Int32}
theorem zTn0_o {p st j : Nat} (h1 : j ≠ 165 + 5 * p + 4) (h2 : j ≠ 117 + p) : zTn0 T p st j = T j := by
  unfold zTn0
  rw [upS_n _ _ h2, upS_n _ _ h1]
theorem zTn0_s {p st : Nat} : zTn0 T p st (117 + p) = st := upS_s _ _ _
theorem zTn0_l {p st : Nat} (hp : p < 24) : zTn0 T p st (165 + 5 * p + 4) = 0 := by
  unfold zTn0
  rw [upS_n _ _ (by omega), upS_s]
theorem zTn_o {p j : Nat} (h1 : j ≠ 165 + 5 * p + 4) (h2 : j ≠ 117 + p) (h3 : j < 357 ∨ 421 ≤ j) : zTn T p j = T j := by
  unfold zTn
  by_cases c : zAct T p
  · rw [if_pos c]; exact zTn0_o h1 h2
  · rw [if_neg c]
    unfold zFg
    rw [if_neg (by omega)]
    exact zTn0_o h1 h2
theorem zTn_s {p : Nat} (hp : p < 24) : zTn T p (117 + p) = if zAct T p then 1 else 0 := by
  unfold zTn
  by_cases c : zAct T p
  · rw [if_pos c, if_pos c]; exact zTn0_s
  · rw [if_neg c, if_neg c]
    unfold zFg
    rw [if_neg (by omega)]
    exact zTn0_s
theorem zTn_l {p : Nat} (hp : p < 24) : zTn T p (165 + 5 * p + 4) = 0 := by
  unfold zTn
  by_cases c : zAct T p
  · rw [if_pos c]; exact zTn0_l hp
  · rw [if_neg c]
    unfold zFg
    rw [if_neg (by omega)]
    exact zTn0_l hp
theorem zTn_e {p k : Nat} (hp : p < 24) (hk : k < 64) : zTn T p (357 + k) = T (357 + k) ∨ zTn T p (357 + k) = 0 := by
  unfold zTn
  by_cases c : zAct T p
  · rw [if_pos c]; exact Or.inl (zTn0_o (by omega) (by omega))
  · rw [if_neg c]
    unfold zFg
    by_cases d : 357 ≤ 357 + k ∧ 357 + k < 357 + 64 ∧ zTn0 T p 0 (357 + k - 64) = p
    · rw [if_pos d]; exact Or.inr rfl
    · rw [if_neg d]; exact Or.inl (zTn0_o (by omega) (by omega))
theorem zTn_wf (w : WF T) {p : Nat} (hp : p < 24) : WF (zTn T p) := by
  have o : ∀ j, j ≠ 165 + 5 * p + 4 → j ≠ 117 + p → (j < 357 ∨ 421 ≤ j) → zTn T p j = T j := fun j => zTn_o
  obtain ⟨a1, a2, a3, a4, a5, a6, a7, a8⟩ := w
  refine ⟨?_, ?_, ?_, ?_, ?_, ?_, ?_, ?_⟩
  · rw [o 0 (by omega) (by omega) (by omega), o 1 (by omega) (by omega) (by omega), o 2 (by omega) (by omega) (by omega), o 3 (by omega) (by omega) (by omega)]; exact a1
  · intro b hb; rw [o _ (by omega) (by omega) (by omega), o _ (by omega) (by omega) (by omega)]; exact a2 b hb
  · intro i hi
    have := a3 i hi
    unfold zM at this ⊢
    rw [o (21 + i) (by omega) (by omega) (by omega), o (45 + i) (by omega) (by omega) (by omega), o (69 + i) (by omega) (by omega) (by omega), o (93 + i) (by omega) (by omega) (by omega)]
    by_cases d : i = p
    · subst d
      rw [zTn_s hp, zTn_l hp]
      have : (if zAct T i then 1 else 0) ≤ 4 := by split <;> omega
      omega
    · rw [o (117 + i) (by omega) (by omega) (by omega), o (165 + 5 * i + 4) (by omega) (by omega) (by omega)]; exact this
  · intro i hi
    rw [o 2 (by omega) (by omega) (by omega)] at hi
    have := a1.2.2.1
    rw [o (21 + i) (by omega) (by omega) (by omega), o (45 + i) (by omega) (by omega) (by omega), o 0 (by omega) (by omega) (by omega), o 1 (by omega) (by omega) (by omega)]
    exact a4 i hi
  · intro i hi
    rw [o (141 + i) (by omega) (by omega) (by omega)]
    by_cases d : i = p
    · subst d
      rw [zTn_s hp]
      intro z
      have : (if zAct T i then 1 else 0) ≤ 1 := by split <;> omega
      omega
    · rw [o (117 + i) (by omega) (by omega) (by omega)]; exact a5 i hi
  · intro i hi
    have := a6 i hi
    unfold zM at this ⊢
    rw [o (165 + 5 * i + 0) (by omega) (by omega) (by omega), o (165 + 5 * i + 1) (by omega) (by omega) (by omega), o (165 + 5 * i + 2) (by omega) (by omega) (by omega), o (165 + 5 * i + 3) (by omega) (by omega) (by omega)]
    by_cases d : i = p
    · subst d
      rw [zTn_l hp]
      intro z; omega
    · rw [o (165 + 5 * i + 4) (by omega) (by omega) (by omega)]; exact this
  · intro s hs; rw [o _ (by omega) (by omega) (by omega)]; exact a7 s hs
  · intro k hk
    have := a8 k hk
    rw [o (293 + k) (by omega) (by omega) (by omega)]
    refine ⟨this.1, ?_⟩
    rcases zTn_e (T := T) hp hk with z | z
    · rw [z]; exact this.2
    · rw [z]; omega
theorem zTn_act (w : WF T) {p i : Nat} (hp : p < 24) (hi : i < 24) : zAct (zTn T p) i ↔ zAct T i := by
  have b1 := (w.2.2.1 i hi).1
  unfold zAct
  rw [zTn_o (by omega) (by omega) (by omega), zTn_o (j := 21 + i) (by omega) (by omega) (by omega), zTn_o (j := 13 + T (21 + i)) (by omega) (by omega) (by omega)]
theorem up_wf (w : WF S) {k v : Nat} (hk : (∃ b, b < 8 ∧ k = 13 + b) ∨ (∃ p, p < 24 ∧ k = 93 + p)) (hv : v ≤ 1) : WF (upS S k v) := by
  have o : ∀ i, i ≠ k → upS S k v i = S i := fun i z => upS_n _ _ z
  have o1 : upS S k v k = v := upS_s _ _ _
  have kk : (13 ≤ k ∧ k < 21) ∨ (93 ≤ k ∧ k < 117) := by
    rcases hk with ⟨b, h1, h2⟩ | ⟨b, h1, h2⟩ <;> omega
  generalize upS S k v = U at o o1
  obtain ⟨a1, a2, a3, a4, a5, a6, a7, a8⟩ := w
  refine ⟨?_, ?_, ?_, ?_, ?_, ?_, ?_, ?_⟩
  · rw [o 0 (by omega), o 1 (by omega), o 2 (by omega), o 3 (by omega)]; exact a1
  · intro b hb
    have := a2 b hb
    rw [o (5 + b) (by omega)]
    by_cases d : 13 + b = k
    · rw [d, o1]; omega
    · rw [o _ d]; exact this
  · intro p hp
    have := a3 p hp
    unfold zM at this ⊢
    rw [o (21 + p) (by omega), o (45 + p) (by omega), o (69 + p) (by omega), o (117 + p) (by omega), o (165 + 5 * p + 4) (by omega)]
    by_cases d : 93 + p = k
    · rw [d, o1]; omega
    · rw [o _ d]; exact this
  · intro p hp
    rw [o 2 (by omega)] at hp
    have : S 2 ≤ 24 := a1.2.2.1
    rw [o (21 + p) (by omega), o (45 + p) (by omega), o 0 (by omega), o 1 (by omega)]
    exact a4 p hp
  · intro p hp; rw [o _ (by omega), o _ (by omega)]; exact a5 p hp
  · intro p hp
    unfold zM
    rw [o (165 + 5 * p + 0) (by omega), o (165 + 5 * p + 1) (by omega), o (165 + 5 * p + 2) (by omega), o (165 + 5 * p + 3) (by omega), o (165 + 5 * p + 4) (by omega)]
    exact a6 p hp
  · intro s hs; rw [o _ (by omega)]; exact a7 s hs
  · intro i hi; rw [o _ (by omega), o _ (by omega)]; exact a8 i hi
theorem zTA_wf (w : WF S) {k v : Nat} (hk : (∃ b, b < 8 ∧ k = 13 + b) ∨ (∃ p, p < 24 ∧ k = 93 + p)) (hv : v ≤ 1) : ∀ n, n ≤ 24 → WF (zTA S k v n) := by
  intro n
  induction n with
  | zero => intro _; exact up_wf w hk hv
  | succ n ih =>
    intro hn
    unfold zTA
    by_cases c : zAct (zTA S k v n) n ↔ zAct S n
    · rw [if_pos c]; exact ih (by omega)
    · rw [if_neg c]; exact zTn_wf (ih (by omega)) (by omega)
theorem zTA_o {k v : Nat} : ∀ n, n ≤ 24 → ∀ j, j < 117 ∨ (141 ≤ j ∧ j < 165) ∨ (285 ≤ j ∧ j < 357) ∨ 421 ≤ j → zTA S k v n j = upS S k v j := by
  intro n
  induction n with
  | zero => intro _ j _; rfl
  | succ n ih =>
    intro hn j hj
    unfold zTA
    by_cases c : zAct (zTA S k v n) n ↔ zAct S n
    · rw [if_pos c]; exact ih (by omega) j hj
    · rw [if_neg c, zTn_o (by omega) (by omega) (by omega)]; exact ih (by omega) j hj
theorem zTA_act (w : WF S) {k v : Nat} (hk : (∃ b, b < 8 ∧ k = 13 + b) ∨ (∃ p, p < 24 ∧ k = 93 + p)) (hv : v ≤ 1) {n p : Nat} (hn : n ≤ 24) (hp : p < 24) : zAct (zTA S k v n) p ↔ zAct (upS S k v) p := by
  have b1 := ((zTA_wf w hk hv n hn).2.2.1 p hp).1
  unfold zAct
  rw [zTA_o n hn (93 + p) (by omega)]
  rw [zTA_o n hn (21 + p) (by omega)] at b1 ⊢
  rw [zTA_o n hn (13 + upS S k v (21 + p)) (by omega)]
theorem zTA_st {k v : Nat} (hk : (13 ≤ k ∧ k < 21) ∨ (93 ≤ k ∧ k < 117)) : ∀ n, n ≤ 24 → ∀ p, p < 24 → zTA S k v n (117 + p) = if p < n ∧ ¬ (zAct (zTA S k v p) p ↔ zAct S p) then (if zAct (zTA S k v p) p then 1 else 0) else S (117 + p) := by
  intro n
  induction n with
  | zero =>
    intro _ p hp
    rw [if_neg (by omega)]
    exact upS_n _ _ (by omega)
  | succ n ih =>
    intro hn p hp
    have ih := ih (by omega) p hp
    have hz : zTA S k v (n + 1) = if zAct (zTA S k v n) n ↔ zAct S n then zTA S k v n else zTn (zTA S k v n) n := rfl
    rw [hz]
    by_cases c : zAct (zTA S k v n) n ↔ zAct S n
    · rw [if_pos c, ih]
      by_cases d : p = n
      · subst d
        rw [if_neg (by omega), if_neg (fun z => z.2 c)]
      · by_cases d2 : p < n
        · by_cases d3 : zAct (zTA S k v p) p ↔ zAct S p
          · rw [if_neg (fun z => z.2 d3), if_neg (fun z => z.2 d3)]
          · rw [if_pos (show p < n ∧ ¬ (zAct (zTA S k v p) p ↔ zAct S p) from ⟨d2, d3⟩), if_pos (show p < n + 1 ∧ ¬ (zAct (zTA S k v p) p ↔ zAct S p) from ⟨by omega, d3⟩)]
        · rw [if_neg (fun z => d2 z.1), if_neg (by omega)]
    · rw [if_neg c]
      by_cases d : p = n
      · subst d
        rw [zTn_s hp, if_pos (show p < p + 1 ∧ ¬ (zAct (zTA S k v p) p ↔ zAct S p) from ⟨by omega, c⟩)]
      · rw [zTn_o (by omega) (by omega) (by omega), ih]
        by_cases d2 : p < n
        · by_cases d3 : zAct (zTA S k v p) p ↔ zAct S p
          · rw [if_neg (fun z => z.2 d3), if_neg (fun z => z.2 d3)]
          · rw [if_pos (show p < n ∧ ¬ (zAct (zTA S k v p) p ↔ zAct S p) from ⟨d2, d3⟩), if_pos (show p < n + 1 ∧ ¬ (zAct (zTA S k v p) p ↔ zAct S p) from ⟨by omega, d3⟩)]
        · rw [if_neg (fun z => d2 z.1), if_neg (by omega)]
theorem zTA_wq (w : WF S) (q : WQ S) {k v : Nat} (hk : (∃ b, b < 8 ∧ k = 13 + b) ∨ (∃ p, p < 24 ∧ k = 93 + p)) (hv : v ≤ 1) : WQ (zTA S k v (S 2)) := by
  have w2 := w.1.2.2.1
  have kk : (13 ≤ k ∧ k < 21) ∨ (93 ≤ k ∧ k < 117) := by
    rcases hk with ⟨b, h1, h2⟩ | ⟨b, h1, h2⟩ <;> omega
  intro p hp hne
  have e2 : zTA S k v (S 2) 2 = S 2 := by rw [zTA_o _ w2 2 (by omega), upS_n _ _ (by omega)]
  have a1 := zTA_act w hk hv (n := S 2) (p := p) w2 hp
  have a2 := zTA_act w hk hv (n := p) (p := p) (by omega) hp
  rw [zTA_st kk _ w2 p hp] at hne
  rw [e2, a1]
  by_cases c : p < S 2 ∧ ¬ (zAct (zTA S k v p) p ↔ zAct S p)
  · rw [if_pos c] at hne
    refine ⟨c.1, ?_⟩
    apply Classical.byContradiction
    intro z
    exact hne (if_neg (fun y => z (a2.mp y)))
  · rw [if_neg c] at hne
    obtain ⟨z1, z2⟩ := q p hp hne
    refine ⟨z1, ?_⟩
    have c2 : zAct (zTA S k v p) p ↔ zAct S p := by
      apply Classical.byContradiction
      intro z
      exact c ⟨z1, z⟩
    exact a2.mp (c2.mpr z2)
theorem AC.tn0 (h : AC T M) {p st : Nat} (hp : p < 24) (hst : st ≤ 1) : AC (zTn0 T p st) (xI (xI (xI M 10 p (nI 0)) 8 p (nI 0)) 7 p (nI st)) := by
  have A1 : AC (upS T (165 + 5 * p + 4) 0) (xI M 10 p (nI 0)) := by
    refine h.msg (p := p) (fun j hj => upS_n _ _ (by omega)) (fun i hi hne v hv => upS_n _ _ (by omega)) (fun k hk => rIn _ _ _ hk) ?_ (fun i _ => rfl) (fun z => ?_)
    · rw [rI1]
      show _ = upd (M.1 10) p (nI (upS T (165 + 5 * p + 4) 0 (165 + 5 * p + 4)))
      rw [upS_s]
    · have z : 0 < upS T (165 + 5 * p + 4) 0 (165 + 5 * p + 4) := z
      rw [upS_s] at z
      omega
  refine A1.st hp (fun j z1 _ => upS_n _ _ z1) (fun k z1 z2 => by rw [rIn _ _ _ z1, rIn _ _ _ z2]) ?_ (fun i hi => ?_) (fun z => ?_) rfl
  · rw [rI1, rIn _ _ _ (show 7 ≠ 8 by decide)]
    show _ = upd ((xI M 10 p (nI 0)).1 7) p (nI (upS (upS T (165 + 5 * p + 4) 0) (117 + p) st (117 + p)))
    rw [upS_s]
  · rw [rIn _ _ _ (show 8 ≠ 7 by decide), rI1, un _ _ hi]
  · have z : upS (upS T (165 + 5 * p + 4) 0) (117 + p) st (117 + p) = 2 ∨ upS (upS T (165 + 5 * p + 4) 0) (117 + p) st (117 + p) = 3 := z
    rw [upS_s] at z
    omega
theorem zFg_s {U : Nat → Nat} {p n j : Nat} (hn : n < 64) : zFg U p (n + 1) j = if j = 357 + n ∧ U (293 + n) = p then 0 else zFg U p n j := by
  unfold zFg
  by_cases c : j = 357 + n
  · subst c
    rw [show 357 + n - 64 = 293 + n by omega]
    by_cases d : U (293 + n) = p
    · rw [if_pos ⟨by omega, by omega, d⟩, if_pos ⟨rfl, d⟩]
    · rw [if_neg (fun z => d z.2.2), if_neg (fun z => d z.2), if_neg (by omega)]
  · rw [if_neg (show ¬ (j = 357 + n ∧ U (293 + n) = p) from fun z => c z.1)]
    by_cases d : 357 ≤ j ∧ j < 357 + n ∧ U (j - 64) = p
    · rw [if_pos d, if_pos (show 357 ≤ j ∧ j < 357 + (n + 1) ∧ U (j - 64) = p from ⟨d.1, by omega, d.2.2⟩)]
    · rw [if_neg d, if_neg (show ¬ (357 ≤ j ∧ j < 357 + (n + 1) ∧ U (j - 64) = p) from fun z => d ⟨z.1, by omega, z.2.2⟩)]
theorem zFg_o {U : Nat → Nat} {p n j : Nat} (hn : n ≤ 64) (hj : j < 357 ∨ 421 ≤ j) : zFg U p n j = U j := if_neg (by omega)
theorem eC_forget {U : Nat → Nat} (h : AC U M) {p : Nat} (hp : p < 24) (hb : ∀ k, k < 64 → U (293 + k) < 24) : ∃ M', fX3_forgetEntriesWith M (nI p) = some M' ∧ AC (zFg U p 64) M' := by
  have h0 : zFg U p 0 = U := by
    funext j
    exact if_neg (by omega)
  have key := lp0 (fun (k : xM → Option xM) n M v => fX3_forgetEntriesWith_L2 (nI p) k n M v) (fun i M' => AC (zFg U p i) M') 64 (by omega) M (by rw [h0]; exact h) ?_ ?_
  · obtain ⟨M', a, e⟩ := key
    unfold fX3_forgetEntriesWith
    exact ⟨M', e _, a⟩
  · intro k n M' hI
    show fX3_forgetEntriesWith_B2 (nI p) k M' (nI 64) _ = k M'
    unfold fX3_forgetEntriesWith_B2
    simp (disch := omega) only [qle, Nat.le_refl, if_true]
  · intro n i M' hi a1
    have e12 : M'.1 12 i = nI (U (293 + i)) := by rw [a1.r12 i hi, zFg_o (by omega) (by omega)]
    have b := hb i hi
    by_cases c : U (293 + i) = p
    · refine ⟨xI M' 13 i (nI 0), a1.set1 (k := 13) (o := 357) (n := 64) (by decide) hi (by decide) (fun j hj => ?_) (fun a ha => rIn _ _ _ ha) ?_ rfl, fun k => ?_⟩
      · rw [zFg_s hi, if_neg (fun z => hj z.1)]
      · rw [rI1, zFg_s hi, if_pos ⟨rfl, c⟩]
      · show fX3_forgetEntriesWith_B2 (nI p) k M' (nI i) _ = _
        unfold fX3_forgetEntriesWith_B2
        simp (disch := omega) only [qle, xrdN, e12, qeq, xwIN, nI_add]
        rw [if_neg (by omega), if_pos c]
    · refine ⟨M', ?_, fun k => ?_⟩
      · have : zFg U p (i + 1) = zFg U p i := by
          funext j
          rw [zFg_s hi, if_neg (fun z => c z.2)]
        rw [this]; exact a1
      · show fX3_forgetEntriesWith_B2 (nI p) k M' (nI i) _ = _
        unfold fX3_forgetEntriesWith_B2
        simp (disch := omega) only [qle, xrdN, e12, qeq, nI_add]
        rw [if_neg (by omega), if_neg c]
theorem eC_reset (h : AC T M) (w : WF T) {p : Nat} (hp : p < 24) : ∃ M', fX3_resetPort M (nI p) = some M' ∧ AC (zTn T p) M' := by
  have hact : fX3_isActive (xI (xI M 10 p (nI 0)) 8 p (nI 0)) (nI p) = some (zb (zAct T p)) := by
    have := eC_act h w hp
    unfold fX3_isActive fX3_isBridgeUp at this ⊢
    simp only [rIn _ _ _ (show 6 ≠ 8 by decide), rIn _ _ _ (show 6 ≠ 10 by decide), rIn _ _ _ (show 3 ≠ 8 by decide), rIn _ _ _ (show 3 ≠ 10 by decide), rIn _ _ _ (show 2 ≠ 8 by decide), rIn _ _ _ (show 2 ≠ 10 by decide)]
    exact this
  unfold fX3_resetPort zTn
  simp (disch := omega) only [xwIN, hact, ob, zb0]
  by_cases c : zAct T p
  · rw [if_neg (fun z => z c), if_pos c]
    exact ⟨_, rfl, h.tn0 hp (by omega)⟩
  · rw [if_pos c, if_neg c]
    obtain ⟨M', e, a⟩ := eC_forget (h.tn0 hp (st := 0) (by omega)) hp (fun k hk => by rw [zTn0_o (by omega) (by omega)]; exact (w.2.2.2.2.2.2.2 k hk).1)
    rw [e]
    exact ⟨M', rfl, a⟩
theorem vnb (P : Prop) [Decidable P] : vp_nar .boolean (zb P) = zb P := by
  unfold zb
  by_cases c : P
  · rw [if_pos c]; rfl
  · rw [if_neg c]; rfl
theorem zb_eq {P Q : Prop} [Decidable P] [Decidable Q] : (zb P = zb Q) = (P ↔ Q) := by
  unfold zb
  by_cases c : P
  · rw [if_pos c]
    by_cases d : Q
    · rw [if_pos d]; exact propext ⟨fun _ => ⟨fun _ => d, fun _ => c⟩, fun _ => rfl⟩
    · rw [if_neg d]; exact propext ⟨fun z => absurd z (by decide), fun z => absurd (z.mp c) d⟩
  · rw [if_neg c]
    by_cases d : Q
    · rw [if_pos d]; exact propext ⟨fun z => absurd z (by decide), fun z => absurd (z.mpr d) c⟩
    · rw [if_neg d]; exact propext ⟨fun _ => ⟨fun z => absurd z c, fun z => absurd z d⟩, fun _ => rfl⟩
theorem eR_forget {U : Nat → Nat} (h : RA U m) {p : Nat} (hp : p < 24) (hb : ∀ k, k < 64 → U (293 + k) < 24 ∧ U (357 + k) ≤ 10) : ∃ m', (Fq [1] [] m m' ∧ RA (zFg U p 64) m') ∧ ∀ K, fX7_turn_L48 (nI p) (nI 0) K 512 m (nI 0) = K m' := by
  have h0 : zFg U p 0 = U := by
    funext j
    exact if_neg (by omega)
  refine lp0 (fun (k : xM → Option xM) n M v => fX7_turn_L48 (nI p) (nI 0) k n M v) (fun i m' => Fq [1] [] m m' ∧ RA (zFg U p i) m') 64 (by omega) m ⟨Fq.rf, by rw [h0]; exact h⟩ ?_ ?_
  · intro k n m' hI
    show fX7_turn_B48 (nI p) (nI 0) k m' (nI 64) _ = k m'
    unfold fX7_turn_B48
    simp (disch := omega) only [qle, Nat.le_refl, if_true]
  · intro n i m' hi hI
    obtain ⟨f1, a1⟩ := hI
    have e1 : m'.1 1 (293 + i) = nI (U (293 + i)) := by rw [a1 _ (by omega), zFg_o (by omega) (by omega)]
    have e2 : m'.1 1 (357 + i) = nI (U (357 + i)) := by
      rw [a1 _ (by omega)]
      unfold zFg
      rw [if_neg (by omega)]
    obtain ⟨b1, b2⟩ := hb i hi
    by_cases c : U (293 + i) = p ∧ 0 < U (357 + i)
    · refine ⟨xI m' 1 (357 + i) (nI 0), ⟨f1.I (by decide) _ _, a1.set (fun j hj => ?_) ?_⟩, fun k => ?_⟩
      · rw [zFg_s hi, if_neg (fun z => hj z.1)]
      · rw [zFg_s hi, if_pos ⟨rfl, c.1⟩]
      · show fX7_turn_B48 (nI p) (nI 0) k m' (nI i) _ = _
        unfold fX7_turn_B48
        simp (disch := omega) only [qle, nI_add, xrdN, e1, e2, qeq, if_true, xwIN]
        rw [if_neg (by omega), if_neg (by omega), if_pos c.1]
    · refine ⟨m', ⟨f1, fun j hj => ?_⟩, fun k => ?_⟩
      · rw [zFg_s hi]
        by_cases d : j = 357 + i ∧ U (293 + i) = p
        · rw [if_pos d, d.1, e2, show U (357 + i) = 0 by omega]
        · rw [if_neg d]; exact a1 j hj
      · show fX7_turn_B48 (nI p) (nI 0) k m' (nI i) _ = _
        unfold fX7_turn_B48
        simp (disch := omega) only [qle, nI_add, xrdN, e1, e2, qeq, if_true]
        rw [if_neg (by omega)]
        by_cases d : U (357 + i) ≤ 0
        · rw [if_pos d]
        · rw [if_neg d, if_neg (by omega)]
theorem eR_keepT {p : Nat} : ∃ m', (m' = m) ∧ ∀ K, fX7_turn_L48 (nI p) (nI 1) K 512 m (nI 0) = K m' := by
  refine lp0 (fun (k : xM → Option xM) n M v => fX7_turn_L48 (nI p) (nI 1) k n M v) (fun i m' => m' = m) 64 (by omega) m rfl ?_ ?_
  · intro k n m' hI
    show fX7_turn_B48 (nI p) (nI 1) k m' (nI 64) _ = k m'
    unfold fX7_turn_B48
    simp (disch := omega) only [qle, Nat.le_refl, if_true]
  · intro n i m' hi hI
    refine ⟨m', hI, fun k => ?_⟩
    show fX7_turn_B48 (nI p) (nI 1) k m' (nI i) _ = _
    unfold fX7_turn_B48
    simp (disch := omega) only [qle, n10f, if_false, nI_add]
    rw [if_neg (by omega)]
theorem eR_turn (h : RA T m) (w : WF T) {p : Nat} (hp : p < 24) (P : Prop) [Decidable P] : ∃ m', fX7_turn m (nI p) (zb P) = some m' ∧ Fq [1] [] m m' ∧ RA (if zAct T p ↔ P then T else zTn T p) m' := by
  unfold fX7_turn
  rw [eR_act h w hp]
  simp only [ob, zb_eq]
  by_cases c : zAct T p ↔ P
  · rw [if_pos c, if_pos c]; exact ⟨m, rfl, Fq.rf, h⟩
  · rw [if_neg c, if_neg c]
    simp (disch := omega) only [pk_mul, nI_add, xwIN, zb0]
    have B : ∀ st, RA (zTn0 T p st) (xI (xI m 1 (165 + 5 * p + 4) (nI 0)) 1 (117 + p) (nI st)) := fun st => (h.up (j := 165 + 5 * p + 4) (v := 0)).up (j := 117 + p) (v := st)
    have F : ∀ st : Int32, Fq [1] [] m (xI (xI m 1 (165 + 5 * p + 4) (nI 0)) 1 (117 + p) st) := fun st => (Fq.rf.I (by decide) _ _).I (by decide) _ _
    unfold zTn
    by_cases d : zAct T p
    · rw [if_neg (fun z => z d), if_pos d]
      unfold fX7_turn_j44
      simp (disch := omega) only [xwIN, zbt d]
      obtain ⟨m', rfl, e⟩ := eR_keepT (m := xI (xI m 1 (165 + 5 * p + 4) (nI 0)) 1 (117 + p) (nI 1)) (p := p)
      rw [e]
      exact ⟨_, rfl, F _, B 1⟩
    · rw [if_pos d, if_neg d]
      unfold fX7_turn_j44
      simp (disch := omega) only [xwIN, zbf d]
      obtain ⟨m', ⟨f, a⟩, e⟩ := eR_forget (B 0) hp (fun k hk => by rw [zTn0_o (by omega) (by omega), zTn0_o (by omega) (by omega)]; exact w.2.2.2.2.2.2.2 k hk)
      rw [e]
      exact ⟨_, rfl, (F _).tr f (fun _ h => h) (fun _ h => h), a⟩
theorem eR_turnAll (h : RA S m) (w : WF S) {k v : Nat} (hk : (∃ b, b < 8 ∧ k = 13 + b) ∨ (∃ p, p < 24 ∧ k = 93 + p)) (hv : v ≤ 1) (y : Int32) (hy : (if y = nI 0 then nI 0 else nI 1) = nI v) : ∃ m', fX7_turnAll m (nI k) y = some (nI (S k), m') ∧ Fq [1, 4] [] m m' ∧ RA (zTA S k v (S 2)) m' := by
  obtain ⟨w0, w1, w2, w3⟩ := w.1
  have kk : (13 ≤ k ∧ k < 21) ∨ (93 ≤ k ∧ k < 117) := by
    rcases hk with ⟨b, h1, h2⟩ | ⟨b, h1, h2⟩ <;> omega
  have L1 : ∃ m', (Fq [4] [] m m' ∧ ∀ p, p < S 2 → m'.1 4 p = zb (zAct S p)) ∧ ∀ K, fX7_turnAll_L2 (nI k) y K 512 m (nI 0) = K m' := by
    refine lp0 (fun k' n M v => fX7_turnAll_L2 (nI k) y k' n M v) (fun i m' => Fq [4] [] m m' ∧ ∀ p, p < i → m'.1 4 p = zb (zAct S p)) (S 2) (by omega) m ⟨Fq.rf, fun b hb => by omega⟩ ?_ ?_
    · intro k' n m' hI
      have h' : RA S m' := h.fr hI.1 (by decide)
      show fX7_turnAll_B2 (nI k) y k' m' (nI (S 2)) _ = k' m'
      unfold fX7_turnAll_B2
      simp (disch := omega) only [eR_ports h', ob, qle, Nat.le_refl, if_true]
    · intro n i m' hi hI
      have h' : RA S m' := h.fr hI.1 (by decide)
      refine ⟨xI m' 4 i (zb (zAct S i)), ⟨hI.1.I (by decide) _ _, fun p hp => ?_⟩, fun k' => ?_⟩
      · rw [rI1]
        by_cases c : p = i
        · subst c; exact us _ _ _
        · rw [un _ _ c]; exact hI.2 p (by omega)
      · show fX7_turnAll_B2 (nI k) y k' m' (nI i) _ = _
        unfold fX7_turnAll_B2
        simp (disch := omega) only [eR_ports h', ob, qle, eR_act h' w (show i < 24 by omega), vnb, xwIN, nI_add]
        rw [if_neg (by omega)]
  obtain ⟨m1, ⟨f1, b1⟩, e1⟩ := L1
  have h1 : RA S m1 := h.fr f1 (by decide)
  have h2 : RA (upS S k v) (xI m1 1 k (nI v)) := h1.up
  have f2 : Fq [1] [] m1 (xI m1 1 k (nI v)) := Fq.rf.I (by decide) _ _
  have L2 : ∃ m', (Fq [1] [] (xI m1 1 k (nI v)) m' ∧ RA (zTA S k v (S 2)) m') ∧ ∀ K, fX7_turnAll_L45 (nI (S k)) K 512 (xI m1 1 k (nI v)) (nI 0) = K m' := by
    refine lp0 (fun k' n M u => fX7_turnAll_L45 (nI (S k)) k' n M u) (fun i m' => Fq [1] [] (xI m1 1 k (nI v)) m' ∧ RA (zTA S k v i) m') (S 2) (by omega) _ ⟨Fq.rf, h2⟩ ?_ ?_
    · intro k' n m' hI
      have hp : fX7_ports m' = some (nI (S 2)) := by rw [eR_ports hI.2, zTA_o _ w2 2 (by omega), upS_n _ _ (by omega)]
      show fX7_turnAll_B45 (nI (S k)) k' m' (nI (S 2)) _ = k' m'
      unfold fX7_turnAll_B45
      simp (disch := omega) only [hp, ob, qle, Nat.le_refl, if_true]
    · intro n i m' hi hI
      obtain ⟨g1, g2⟩ := hI
      have hi24 : i < 24 := by omega
      have hp : fX7_ports m' = some (nI (S 2)) := by rw [eR_ports g2, zTA_o _ (by omega) 2 (by omega), upS_n _ _ (by omega)]
      have e4 : m'.1 4 i = zb (zAct S i) := by rw [g1.1 4 (by decide), f2.1 4 (by decide)]; exact b1 i hi
      obtain ⟨m2, q1, q2, q3⟩ := eR_turn g2 (zTA_wf w hk hv i (by omega)) hi24 (zAct S i)
      refine ⟨m2, ⟨g1.tr q2 (fun _ h => h) (fun _ h => h), q3⟩, fun k' => ?_⟩
      show fX7_turnAll_B45 (nI (S k)) k' m' (nI i) _ = _
      unfold fX7_turnAll_B45
      simp (disch := omega) only [hp, ob, qle, xrdN, e4, q1, nI_add]
      rw [if_neg (by omega)]
  obtain ⟨m3, ⟨f3, a3⟩, e3⟩ := L2
  have hset : fX7_turnAll_j38 m1 (nI v) (nI k) = some (nI (S k), m3) := by
    unfold fX7_turnAll_j38 fX7_set
    simp (disch := omega) only [xrdN, h1 k (by omega), xwIN, ob, e3]
  refine ⟨m3, ?_, ((f1.up (by decide) (by decide)).tr (f2.up (ks := [1, 4]) (js := []) (by decide) (by decide)) (fun _ h => h) (fun _ h => h)).tr f3 (by decide) (by decide), a3⟩
  unfold fX7_turnAll
  rw [e1]
  by_cases c : y = nI 0
  · rw [if_pos c] at hy ⊢
    rw [hy]; exact hset
  · rw [if_neg c] at hy ⊢
    rw [hy]; exact hset
theorem eC_swB (h : AC S M) (w : WF S) {b v : Nat} (hb : b < 8) (hv : v ≤ 1) : ∃ M', fX3_switchBridge M (nI b) (nI v) = some (nI (S (13 + b)), M') ∧ AC (zTA S (13 + b) v (S 2)) M' := by
  obtain ⟨w0, w1, w2, w3⟩ := w.1
  have hk : (∃ b', b' < 8 ∧ 13 + b = 13 + b') ∨ (∃ p, p < 24 ∧ 13 + b = 93 + p) := Or.inl ⟨b, hb, rfl⟩
  have b1 := (w.2.1 b hb).2
  have A0 : AC (upS S (13 + b) v) (xI M 2 b (nI v)) := h.up (k := 2) (o := 13) (n := 8) (by decide) hb (by decide)
  have L : ∃ M', (AC (zTA S (13 + b) v (S 2)) M') ∧ ∀ K, fX3_switchBridge_L17 (nI b) (nI v) (nI (S (13 + b))) K 512 (xI M 2 b (nI v)) (nI 0) = K M' := by
    refine lp0 (fun k' n M u => fX3_switchBridge_L17 (nI b) (nI v) (nI (S (13 + b))) k' n M u) (fun i M' => AC (zTA S (13 + b) v i) M') (S 2) (by omega) _ A0 ?_ ?_
    · intro k' n M' a1
      have hn : M'.1 0 2 = nI (S 2) := by rw [a1.n2, zTA_o _ w2 2 (by omega), upS_n _ _ (by omega)]
      show fX3_switchBridge_B17 _ _ _ k' M' (nI (S 2)) _ = k' M'
      unfold fX3_switchBridge_B17
      simp (disch := omega) only [hn, qle, Nat.le_refl, if_true]
    · intro n i M' hi a1
      have hi24 : i < 24 := by omega
      have hn : M'.1 0 2 = nI (S 2) := by rw [a1.n2, zTA_o _ (by omega) 2 (by omega), upS_n _ _ (by omega)]
      have e3 : M'.1 3 i = nI (S (21 + i)) := by rw [a1.r3 i hi24, zTA_o _ (by omega) _ (by omega), upS_n _ _ (by omega)]
      have e6 : M'.1 6 i = nI (S (93 + i)) := by rw [a1.r6 i hi24, zTA_o _ (by omega) _ (by omega), upS_n _ _ (by omega)]
      obtain ⟨i1, i2, i3, i4, i5, i6⟩ := w.2.2.1 i hi24
      have act := zTA_act w hk hv (n := i) (p := i) (by omega) hi24
      have chg : (zAct (zTA S (13 + b) v i) i ↔ zAct S i) ↔ ¬ (S (13 + b) ≠ v ∧ S (21 + i) = b ∧ S (93 + i) = 1) := by
        rw [act]
        unfold zAct
        rw [upS_n (j := 93 + i) _ _ (by omega), upS_n (j := 21 + i) _ _ (by omega)]
        by_cases d : S (21 + i) = b
        · rw [d, upS_s]
          constructor
          · rintro z ⟨z1, -, z3⟩
            have hv2 : v = 1 ∨ S (13 + b) = 1 := by omega
            rcases hv2 with y | y
            · have := (z.mp ⟨z3, y⟩).2; omega
            · have := (z.mpr ⟨z3, y⟩).2; omega
          · intro z
            by_cases z1 : S (93 + i) = 1
            · have : S (13 + b) = v := by
                apply Classical.byContradiction
                intro y; exact z ⟨y, rfl, z1⟩
              rw [this]
            · exact ⟨fun y => absurd y.1 z1, fun y => absurd y.1 z1⟩
        · rw [upS_n _ _ (by omega)]
          exact ⟨fun _ z => d z.2.1, fun _ => Iff.rfl⟩
      have hz : zTA S (13 + b) v (i + 1) = if zAct (zTA S (13 + b) v i) i ↔ zAct S i then zTA S (13 + b) v i else zTn (zTA S (13 + b) v i) i := rfl
      by_cases c : S (13 + b) ≠ v ∧ S (21 + i) = b ∧ S (93 + i) = 1
      · obtain ⟨M2, q1, q2⟩ := eC_reset a1 (zTA_wf w hk hv i (by omega)) hi24
        refine ⟨M2, by rw [hz, if_neg (fun z => chg.mp z c)]; exact q2, fun k' => ?_⟩
        show fX3_switchBridge_B17 _ _ _ k' M' (nI i) _ = _
        unfold fX3_switchBridge_B17
        simp (disch := omega) only [hn, qle, qeq, xrdN, e3, e6, q1, ob, nI_add]
        rw [if_neg (by omega), if_neg c.1, if_pos c.2.1, if_pos c.2.2]
      · refine ⟨M', by rw [hz, if_pos (chg.mpr c)]; exact a1, fun k' => ?_⟩
        show fX3_switchBridge_B17 _ _ _ k' M' (nI i) _ = _
        unfold fX3_switchBridge_B17
        simp (disch := omega) only [hn, qle, qeq, xrdN, e3, e6, nI_add]
        rw [if_neg (by omega)]
        by_cases d1 : S (13 + b) = v
        · rw [if_pos d1]
        rw [if_neg d1]
        by_cases d2 : S (21 + i) = b
        · rw [if_pos d2, if_neg (fun z => c ⟨d1, d2, z⟩)]
        · rw [if_neg d2]
  obtain ⟨M', a, e⟩ := L
  unfold fX3_switchBridge
  simp (disch := omega) only [xrdN, h.r2, xwIN, e]
  exact ⟨M', rfl, a⟩
theorem eC_swP (h : AC S M) (w : WF S) {p v : Nat} (hp : p < S 2) (hv : v ≤ 1) : ∃ M', fX3_switchPort M (nI p) (nI v) = some (nI (S (93 + p)), M') ∧ AC (zTA S (93 + p) v (S 2)) M' := by
  obtain ⟨w0, w1, w2, w3⟩ := w.1
  have hp24 : p < 24 := by omega
  have hk : (∃ b', b' < 8 ∧ 93 + p = 13 + b') ∨ (∃ p', p' < 24 ∧ 93 + p = 93 + p') := Or.inr ⟨p, hp24, rfl⟩
  obtain ⟨i1, i2, i3, i4, i5, i6⟩ := w.2.2.1 p hp24
  have b1 := (w.2.1 _ i1).2
  have A0 : AC (upS S (93 + p) v) (xI M 6 p (nI v)) := h.up (k := 6) (o := 93) (n := 24) (by decide) hp24 (by decide)
  have wU := up_wf w hk hv
  have u21 : upS S (93 + p) v (21 + p) = S (21 + p) := upS_n _ _ (by omega)
  have u13 : upS S (93 + p) v (13 + S (21 + p)) = S (13 + S (21 + p)) := upS_n _ _ (by omega)
  have chg : (zAct (upS S (93 + p) v) p ↔ zAct S p) ↔ ¬ (S (93 + p) ≠ v ∧ S (13 + S (21 + p)) = 1) := by
    unfold zAct
    rw [u21, u13, upS_s]
    constructor
    · rintro z ⟨z1, z2⟩
      have hv2 : v = 1 ∨ S (93 + p) = 1 := by omega
      rcases hv2 with y | y
      · have := (z.mp ⟨y, z2⟩).1; omega
      · have := (z.mpr ⟨y, z2⟩).1; omega
    · intro z
      by_cases z1 : S (13 + S (21 + p)) = 1
      · have : S (93 + p) = v := by
          apply Classical.byContradiction
          intro y; exact z ⟨y, z1⟩
        rw [this]
      · exact ⟨fun y => absurd y.2 z1, fun y => absurd y.2 z1⟩
  have res : ∀ n, n ≤ 24 → zTA S (93 + p) v n = if p < n ∧ (S (93 + p) ≠ v ∧ S (13 + S (21 + p)) = 1) then zTn (upS S (93 + p) v) p else upS S (93 + p) v := by
    intro n
    induction n with
    | zero => intro _; rw [if_neg (by omega)]; rfl
    | succ n ih =>
      intro hn
      have ih := ih (by omega)
      have hz : zTA S (93 + p) v (n + 1) = if zAct (zTA S (93 + p) v n) n ↔ zAct S n then zTA S (93 + p) v n else zTn (zTA S (93 + p) v n) n := rfl
      have act := zTA_act w hk hv (n := n) (p := n) (by omega) (by omega)
      rw [hz]
      by_cases d : n = p
      · subst d
        rw [if_neg (by omega)] at ih
        by_cases c : S (93 + n) ≠ v ∧ S (13 + S (21 + n)) = 1
        · rw [if_neg (fun z => chg.mp (act.symm.trans z) c), if_pos ⟨by omega, c⟩, ih]
        · rw [if_pos (act.trans (chg.mpr c)), if_neg (fun z => c z.2), ih]
      · have bn := (w.2.2.1 n (by omega)).1
        have same : zAct (upS S (93 + p) v) n ↔ zAct S n := by
          unfold zAct
          rw [upS_n (j := 93 + n) _ _ (by omega), upS_n (j := 21 + n) _ _ (by omega), upS_n _ _ (by omega)]
        rw [if_pos (act.trans same), ih]
        by_cases c : p < n ∧ (S (93 + p) ≠ v ∧ S (13 + S (21 + p)) = 1)
        · rw [if_pos c, if_pos ⟨by omega, c.2⟩]
        · rw [if_neg c, if_neg (fun z => c ⟨by omega, z.2⟩)]
  unfold fX3_switchPort
  simp (disch := omega) only [xrdN, h.r6, xwIN, qeq]
  have e3 : (xI M 6 p (nI v)).1 3 p = nI (S (21 + p)) := by rw [rIn _ _ _ (by decide)]; exact h.r3 p hp24
  have up := eC_up A0 wU i1
  rw [u13] at up
  rw [res (S 2) w2]
  by_cases c1 : S (93 + p) = v
  · rw [if_pos c1, if_neg (fun z => z.2.1 c1)]
    exact ⟨_, rfl, A0⟩
  · rw [if_neg c1]
    simp (disch := omega) only [e3, up, ob, zb0]
    by_cases c2 : S (13 + S (21 + p)) = 1
    · rw [if_neg (fun z => z c2), if_pos ⟨hp, c1, c2⟩]
      obtain ⟨M', q1, q2⟩ := eC_reset A0 wU hp24
      rw [q1]
      exact ⟨M', rfl, q2⟩
    · rw [if_pos c2, if_neg (fun z => c2 z.2.2)]
      exact ⟨_, rfl, A0⟩
theorem s_setBridge (j : J S sl sv M m) (x y : Int32) : Rs sl sv (fX6_setBridge M x y) (fX7_setBridge m x y) := by
  obtain ⟨h, g, g2, g3, w, q⟩ := id j
  obtain ⟨w0, w1, w2, w3⟩ := w.1
  unfold fX6_setBridge fX7_setBridge
  rcases Or.symm (sB h g w x) with ⟨e1, e2⟩ | ⟨b, hb, rfl, e1, e2⟩
  · rw [e1, e2]; exact Rs.same j
  rw [e1, e2]
  have hb8 : b < 8 := by omega
  have hk : (∃ b', b' < 8 ∧ 13 + b = 13 + b') ∨ (∃ p, p < 24 ∧ 13 + b = 93 + p) := Or.inl ⟨b, hb8, rfl⟩
  simp only [ob, n10f, if_false, nI_add]
  have fin : ∀ v, v ≤ 1 → (if y = nI 0 then nI 0 else nI 1) = nI v → Rs sl sv (fX6_setBridge_j27 M (nI v) (nI b)) ((fX7_turnAll m (nI (13 + b)) y).bind fun z2 => some (z2.1, z2.2)) := by
    intro v hv hy
    obtain ⟨M', c1, c2⟩ := eC_swB h w hb8 hv
    obtain ⟨m', d1, d2, d3⟩ := eR_turnAll g w hk hv y hy
    unfold fX6_setBridge_j27
    rw [c1, d1]
    exact ⟨_, _, _, _, rfl, rfl, c2, d3, by rw [d2.1 2 (by decide)]; exact g2, by rw [d2.1 3 (by decide)]; exact g3, zTA_wf w hk hv _ w2, zTA_wq w q hk hv⟩
  by_cases c : y = nI 0
  · rw [if_pos c]; exact fin 0 (by omega) (if_pos c)
  · rw [if_neg c]; exact fin 1 (by omega) (if_neg c)
theorem s_setPort (j : J S sl sv M m) (x y : Int32) : Rs sl sv (fX6_setPort M x y) (fX7_setPort m x y) := by
  obtain ⟨h, g, g2, g3, w, q⟩ := id j
  obtain ⟨w0, w1, w2, w3⟩ := w.1
  unfold fX6_setPort fX7_setPort
  rcases Or.symm (sP h g w x) with ⟨e1, e2⟩ | ⟨p, hp, rfl, e1, e2⟩
  · rw [e1, e2]; exact Rs.same j
  rw [e1, e2]
  have hk : (∃ b', b' < 8 ∧ 93 + p = 13 + b') ∨ (∃ p', p' < 24 ∧ 93 + p = 93 + p') := Or.inr ⟨p, by omega, rfl⟩
  simp only [ob, n10f, if_false, nI_add]
  have fin : ∀ v, v ≤ 1 → (if y = nI 0 then nI 0 else nI 1) = nI v → Rs sl sv (fX6_setPort_j28 M (nI v) (nI p)) ((fX7_turnAll m (nI (93 + p)) y).bind fun z2 => some (z2.1, z2.2)) := by
    intro v hv hy
    obtain ⟨M', c1, c2⟩ := eC_swP h w hp hv
    obtain ⟨m', d1, d2, d3⟩ := eR_turnAll g w hk hv y hy
    unfold fX6_setPort_j28
    rw [c1, d1]
    exact ⟨_, _, _, _, rfl, rfl, c2, d3, by rw [d2.1 2 (by decide)]; exact g2, by rw [d2.1 3 (by decide)]; exact g3, zTA_wf w hk hv _ w2, zTA_wq w q hk hv⟩
  by_cases c : y = nI 0
  · rw [if_pos c]; exact fin 0 (by omega) (if_pos c)
  · rw [if_neg c]; exact fin 1 (by omega) (if_neg c)
end SW
