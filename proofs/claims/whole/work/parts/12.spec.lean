def zM (S : Nat → Nat) (p w : Nat) : Nat := S (165 + 5 * p + w)
def zId (S : Nat → Nat) (b : Nat) : Nat := 16 * S (5 + b) + b
abbrev zAct (S : Nat → Nat) (p : Nat) : Prop := S (93 + p) = 1 ∧ S (13 + S (21 + p)) = 1
abbrev zOff (S : Nat → Nat) (p : Nat) : Prop := zAct S p ∧ 0 < zM S p 4 ∧ zM S p 2 ≠ zId S (S (21 + p))
noncomputable def zMk (S : Nat → Nat) (p : Nat) : Nat := zPk (zM S p 0) (zM S p 1) (zM S p 2) (zM S p 3)
noncomputable def zOk (S : Nat → Nat) (p : Nat) : Nat := zPk (zM S p 0) (zM S p 1 + S (69 + p)) (zM S p 2) (zM S p 3)
noncomputable def zBo (S : Nat → Nat) (b : Nat) : Nat → Option Nat
  | 0 => none
  | n + 1 => match zBo S b n with
    | none => if S (21 + n) = b ∧ zOff S n then some n else none
    | some q => if S (21 + n) = b ∧ zOff S n ∧ zOk S n < zOk S q then some n else some q
noncomputable def zRp (S : Nat → Nat) (b : Nat) : Option Nat := match zBo S b (S 2) with
  | none => none
  | some q => if zM S q 0 < zId S b then some q else none
noncomputable def zRt (S : Nat → Nat) (b : Nat) : Nat := match zRp S b with
  | none => zId S b
  | some q => zM S q 0
noncomputable def zRc (S : Nat → Nat) (b : Nat) : Nat := match zRp S b with
  | none => 0
  | some q => zM S q 1 + S (69 + q)
noncomputable def zOw (S : Nat → Nat) (p : Nat) : Nat := zPk (zRt S (S (21 + p))) (zRc S (S (21 + p))) (zId S (S (21 + p))) p
noncomputable def zRo (S : Nat → Nat) (p : Nat) : Nat := if zAct S p then (if zRp S (S (21 + p)) = some p then 1 else if zM S p 4 = 0 ∨ zOw S p < zMk S p then 2 else if zM S p 2 = zId S (S (21 + p)) then 4 else 3) else 0
def WF (S : Nat → Nat) : Prop := (S 0 ≤ 8 ∧ S 1 ≤ 10 ∧ S 2 ≤ 24 ∧ S 3 ≤ 8) ∧ (∀ b, b < 8 → S (5 + b) ≤ 15 ∧ S (13 + b) ≤ 1) ∧ (∀ p, p < 24 → S (21 + p) < 8 ∧ S (45 + p) < 10 ∧ S (69 + p) ≤ 100 ∧ S (93 + p) ≤ 1 ∧ S (117 + p) ≤ 4 ∧ zM S p 4 ≤ 6) ∧ (∀ p, p < S 2 → S (21 + p) < S 0 ∧ S (45 + p) < S 1) ∧ (∀ p, p < 24 → S (117 + p) = 2 ∨ S (117 + p) = 3 → 1 ≤ S (141 + p) ∧ S (141 + p) ≤ 2) ∧ (∀ p, p < 24 → 0 < zM S p 4 → zM S p 0 < 256 ∧ zM S p 1 + 100 * zM S p 4 ≤ 600 ∧ zM S p 2 < 256 ∧ zM S p 3 < 24) ∧ (∀ s, s < 8 → S (285 + s) < 10) ∧ (∀ k, k < 64 → S (293 + k) < 24 ∧ S (357 + k) ≤ 10)
def zT : List (Nat × Nat × Nat) := [(0, 0, 5), (1, 5, 8), (2, 13, 8), (3, 21, 24), (4, 45, 24), (5, 69, 24), (6, 93, 24), (7, 117, 24), (11, 285, 8), (12, 293, 64), (13, 357, 64), (14, 421, 10)]
def AC (S : Nat → Nat) (M : xM) : Prop := (∀ t, t ∈ zT → ∀ i, i < t.2.2 → M.1 t.1 i = nI (S (t.2.1 + i))) ∧ (∀ i, i < 24 → M.1 10 i = nI (zM S i 4)) ∧ (∀ i, i < 24 → 0 < zM S i 4 → M.2 9 i = lN (zMk S i)) ∧ (∀ i, i < 24 → S (117 + i) = 2 ∨ S (117 + i) = 3 → M.1 8 i = nI (S (141 + i)))
def AR (S : Nat → Nat) (sl sv : Nat → Int32) (m : xM) : Prop := (∀ j, j < 431 → m.1 1 j = nI (S j)) ∧ m.1 2 = sl ∧ m.1 3 = sv
def Fq (ks js : List Nat) (M M' : xM) : Prop := (∀ k, k ∉ ks → M'.1 k = M.1 k) ∧ (∀ k, k ∉ js → M'.2 k = M.2 k)
theorem Fq.rf {ks js : List Nat} {M : xM} : Fq ks js M M := ⟨fun _ _ => rfl, fun _ _ => rfl⟩
theorem Fq.I {ks js : List Nat} {M M' : xM} (f : Fq ks js M M') {k : Nat} (hk : k ∈ ks) (j : Nat) (v : Int32) : Fq ks js M (xI M' k j v) := by
  refine ⟨fun a ha => ?_, fun a ha => f.2 a ha⟩
  have hne : a ≠ k := fun e => ha (by rw [e]; exact hk)
  rw [rIn _ _ _ hne]
  exact f.1 a ha
theorem Fq.J {ks js : List Nat} {M M' : xM} (f : Fq ks js M M') {k : Nat} (hk : k ∈ js) (j : Nat) (v : Int64) : Fq ks js M (xJ M' k j v) := by
  refine ⟨fun a ha => f.1 a ha, fun a ha => ?_⟩
  have hne : a ≠ k := fun e => ha (by rw [e]; exact hk)
  rw [rJn _ _ _ hne]
  exact f.2 a ha
theorem Fq.tr {ks js ks' js' : List Nat} {M M' M'' : xM} (f : Fq ks js M M') (g : Fq ks' js' M' M'') (hk : ∀ k, k ∈ ks' → k ∈ ks) (hj : ∀ k, k ∈ js' → k ∈ js) : Fq ks js M M'' :=
  ⟨fun a ha => (g.1 a (fun h => ha (hk a h))).trans (f.1 a ha), fun a ha => (g.2 a (fun h => ha (hj a h))).trans (f.2 a ha)⟩
theorem Fq.up {ks js ks' js' : List Nat} {M M' : xM} (f : Fq ks' js' M M') (hk : ∀ k, k ∈ ks' → k ∈ ks) (hj : ∀ k, k ∈ js' → k ∈ js) : Fq ks js M M' := ⟨fun a ha => f.1 a (fun h => ha (hk a h)), fun a ha => f.2 a (fun h => ha (hj a h))⟩
theorem AC.fr {S : Nat → Nat} {M M' : xM} {ks js : List Nat} (h : AC S M) (f : Fq ks js M M') (hk : ∀ k, k < 15 → k ∉ ks) (hj : 9 ∉ js) : AC S M' := by
  obtain ⟨h1, h2, h3, h4⟩ := h
  refine ⟨fun t ht i hi => ?_, fun i hi => ?_, fun i hi h0 => ?_, fun i hi h0 => ?_⟩
  · have : ∀ t, t ∈ zT → t.1 < 15 := by decide
    have := this t ht
    rw [f.1 _ (hk _ this)]
    exact h1 t ht i hi
  · rw [f.1 _ (hk 10 (by decide))]
    exact h2 i hi
  · rw [f.2 _ hj]
    exact h3 i hi h0
  · rw [f.1 _ (hk 8 (by decide))]
    exact h4 i hi h0
section AL
variable {S : Nat → Nat} {M : xM}
theorem AC.n0 (h : AC S M) : M.1 0 0 = nI (S 0) := h.1 (0, 0, 5) (by decide) 0 (by decide)
theorem AC.n1 (h : AC S M) : M.1 0 1 = nI (S 1) := h.1 (0, 0, 5) (by decide) 1 (by decide)
theorem AC.n2 (h : AC S M) : M.1 0 2 = nI (S 2) := h.1 (0, 0, 5) (by decide) 2 (by decide)
theorem AC.n3 (h : AC S M) : M.1 0 3 = nI (S 3) := h.1 (0, 0, 5) (by decide) 3 (by decide)
theorem AC.n4 (h : AC S M) : M.1 0 4 = nI (S 4) := h.1 (0, 0, 5) (by decide) 4 (by decide)
theorem AC.r1 (h : AC S M) : ∀ i, i < 8 → M.1 1 i = nI (S (5 + i)) := h.1 (1, 5, 8) (by decide)
theorem AC.r2 (h : AC S M) : ∀ i, i < 8 → M.1 2 i = nI (S (13 + i)) := h.1 (2, 13, 8) (by decide)
theorem AC.r3 (h : AC S M) : ∀ i, i < 24 → M.1 3 i = nI (S (21 + i)) := h.1 (3, 21, 24) (by decide)
theorem AC.r4 (h : AC S M) : ∀ i, i < 24 → M.1 4 i = nI (S (45 + i)) := h.1 (4, 45, 24) (by decide)
theorem AC.r5 (h : AC S M) : ∀ i, i < 24 → M.1 5 i = nI (S (69 + i)) := h.1 (5, 69, 24) (by decide)
theorem AC.r6 (h : AC S M) : ∀ i, i < 24 → M.1 6 i = nI (S (93 + i)) := h.1 (6, 93, 24) (by decide)
theorem AC.r7 (h : AC S M) : ∀ i, i < 24 → M.1 7 i = nI (S (117 + i)) := h.1 (7, 117, 24) (by decide)
theorem AC.r8 (h : AC S M) : ∀ i, i < 24 → S (117 + i) = 2 ∨ S (117 + i) = 3 → M.1 8 i = nI (S (141 + i)) := h.2.2.2
theorem AC.r9 (h : AC S M) : ∀ i, i < 24 → 0 < zM S i 4 → M.2 9 i = lN (zMk S i) := h.2.2.1
theorem AC.r10 (h : AC S M) : ∀ i, i < 24 → M.1 10 i = nI (zM S i 4) := h.2.1
theorem AC.r11 (h : AC S M) : ∀ i, i < 8 → M.1 11 i = nI (S (285 + i)) := h.1 (11, 285, 8) (by decide)
theorem AC.r12 (h : AC S M) : ∀ i, i < 64 → M.1 12 i = nI (S (293 + i)) := h.1 (12, 293, 64) (by decide)
theorem AC.r13 (h : AC S M) : ∀ i, i < 64 → M.1 13 i = nI (S (357 + i)) := h.1 (13, 357, 64) (by decide)
theorem AC.r14 (h : AC S M) : ∀ i, i < 10 → M.1 14 i = nI (S (421 + i)) := h.1 (14, 421, 10) (by decide)
end AL
def zb (P : Prop) [Decidable P] : Int32 := if P then nI 1 else nI 0
theorem zb0 (P : Prop) [Decidable P] : (zb P = nI 0) = ¬ P := by
  unfold zb
  by_cases h : P
  · rw [if_pos h]; exact propext ⟨fun q => absurd q (by decide), fun q => absurd h q⟩
  · rw [if_neg h]; exact propext ⟨fun _ => h, fun _ => rfl⟩
theorem zb1 (P : Prop) [Decidable P] : (zb P = nI 1) = P := by
  unfold zb
  by_cases h : P
  · rw [if_pos h]; exact propext ⟨fun _ => h, fun _ => rfl⟩
  · rw [if_neg h]; exact propext ⟨fun q => absurd q (by decide), fun q => absurd q h⟩
theorem zbt {P : Prop} [Decidable P] (h : P) : zb P = nI 1 := if_pos h
theorem zbf {P : Prop} [Decidable P] (h : ¬ P) : zb P = nI 0 := if_neg h
theorem some_zb {P : Prop} [Decidable P] : (if P then some (nI 1) else some (nI 0)) = some (zb P) := by
  unfold zb
  by_cases h : P
  · rw [if_pos h, if_pos h]
  · rw [if_neg h, if_neg h]
section CE
variable {S : Nat → Nat} {M : xM}
theorem eC_up (h : AC S M) (w : WF S) {b : Nat} (hb : b < 8) : fX3_isBridgeUp M (nI b) = some (zb (S (13 + b) = 1)) := by
  have := (w.2.1 b hb).2
  unfold fX3_isBridgeUp
  simp (disch := omega) only [xrdN, h.r2, qeq, some_zb]
theorem eC_act (h : AC S M) (w : WF S) {p : Nat} (hp : p < 24) : fX3_isActive M (nI p) = some (zb (zAct S p)) := by
  obtain ⟨h1, h2, h3, h4, h5, h6⟩ := w.2.2.1 p hp
  unfold fX3_isActive
  simp (disch := omega) only [xrdN, h.r6, h.r3, qeq, eC_up h w h1, ob, zb0]
  by_cases a : S (93 + p) = 1
  · rw [if_pos a]
    by_cases b : S (13 + S (21 + p)) = 1
    · rw [if_neg (fun q => q b), zbt ⟨a, b⟩]
    · rw [if_pos b, zbf (fun q => b q.2)]
  · rw [if_neg a, zbf (fun q => a q.1)]
theorem eC_sto (h : AC S M) (w : WF S) {p : Nat} (hp : p < 24) : fX3_storesMessage M (nI p) = some (zb (0 < zM S p 4)) := by
  obtain ⟨h1, h2, h3, h4, h5, h6⟩ := w.2.2.1 p hp
  unfold fX3_storesMessage
  simp (disch := omega) only [xrdN, h.r10, qle]
  by_cases a : 0 < zM S p 4
  · rw [if_neg (by omega), zbt a]
  · rw [if_pos (by omega), zbf a]
theorem eC_id (h : AC S M) {b : Nat} (hb : b < 8) : fX3_identifierOf M (nI b) = some (nI (zId S b)) := by
  unfold fX3_identifierOf
  simp (disch := omega) only [xrdN, h.r1, pk_mul, nI_add, zId]
theorem zId_lt (w : WF S) {b : Nat} (hb : b < 8) : zId S b < 256 := by
  have := (w.2.1 b hb).1
  unfold zId
  omega
theorem zMk_lt (w : WF S) {p : Nat} (hp : p < 24) (h0 : 0 < zM S p 4) : zMk S p < 2 ^ 48 := by
  obtain ⟨h1, h2, h3, h4⟩ := w.2.2.2.2.2.1 p hp h0
  exact zPk_lt h1 (by omega) h3 (by omega)
theorem zOk_lt (w : WF S) {p : Nat} (hp : p < 24) (h0 : 0 < zM S p 4) : zOk S p < 2 ^ 48 := by
  obtain ⟨h1, h2, h3, h4⟩ := w.2.2.2.2.2.1 p hp h0
  have := (w.2.2.1 p hp).2.2.1
  exact zPk_lt h1 (by omega) h3 (by omega)
theorem eC_own (h : AC S M) (w : WF S) {p : Nat} (hp : p < 24) (h0 : 0 < zM S p 4) : fX0_isFromOwnBridge M (nI p) = some (zb (zM S p 2 = zId S (S (21 + p)))) := by
  obtain ⟨h1, h2, h3, h4, h5, h6⟩ := w.2.2.1 p hp
  obtain ⟨g1, g2, g3, g4⟩ := w.2.2.2.2.2.1 p hp h0
  have hk := zMk_lt w hp h0
  have hi := zId_lt w h1
  have hb : zMk S p / 2 ^ 8 % 2 ^ 8 = zM S p 2 := zPk_b g3 (by omega)
  unfold fX0_isFromOwnBridge
  simp (disch := omega) only [xrdN, h.r9, h.r3, eX2_senderOf, ob, eC_id h h1, hb, qeq, some_zb]
theorem eC_off (h : AC S M) (w : WF S) {p : Nat} (hp : p < 24) : fX0_hasOffer M (nI p) = some (zb (zOff S p)) := by
  unfold fX0_hasOffer
  simp only [eC_act h w hp, eC_sto h w hp, ob, zb0]
  by_cases a : zAct S p
  · rw [if_neg (fun q => q a)]
    by_cases b : 0 < zM S p 4
    · rw [if_neg (fun q => q b)]
      simp only [eC_own h w hp b, ob, zb0]
      by_cases c : zM S p 2 = zId S (S (21 + p))
      · rw [if_neg (fun q => q c), zbf (fun q => q.2.2 c)]
      · rw [if_pos c, zbt ⟨a, b, c⟩]
    · rw [if_pos b, zbf (fun q => b q.2.1)]
  · rw [if_pos a, zbf (fun q => a q.1)]
end CE
