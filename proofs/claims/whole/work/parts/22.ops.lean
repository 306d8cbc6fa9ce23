def upS (S : Nat → Nat) (k v : Nat) : Nat → Nat := fun j => if j = k then v else S j
theorem upS_s (S : Nat → Nat) (k v : Nat) : upS S k v k = v := if_pos rfl
theorem upS_n (S : Nat → Nat) {k j : Nat} (v : Nat) (h : j ≠ k) : upS S k v j = S j := if_neg h
def WQ (S : Nat → Nat) : Prop := ∀ p, p < 24 → S (117 + p) ≠ 0 → p < S 2 ∧ zAct S p
def J (S : Nat → Nat) (sl sv : Nat → Int32) (M m : xM) : Prop := AC S M ∧ RA S m ∧ m.1 2 = sl ∧ m.1 3 = sv ∧ WF S ∧ WQ S
def Rs (sl sv : Nat → Int32) (fc fr : Option (Int32 × xM)) : Prop := ∃ (r : Int32) (M' m' : xM) (S' : Nat → Nat), fc = some (r, M') ∧ fr = some (r, m') ∧ J S' sl sv M' m'
def Rp (fc fr : Option Int32) : Prop := ∃ r : Int32, fc = some r ∧ fr = some r
theorem RA.set {T T' : Nat → Nat} {m : xM} {j v : Nat} (h : RA T m) (ho : ∀ i, i ≠ j → T' i = T i) (hj : T' j = v) : RA T' (xI m 1 j (nI v)) := by
  intro i hi
  rw [rI1]
  by_cases c : i = j
  · subst c; rw [us, hj]
  · rw [un _ _ c, ho i c]; exact h i hi
theorem AC.up {T : Nat → Nat} {M : xM} {k o n i v : Nat} (h : AC T M) (ht : (k, o, n) ∈ zT) (hi : i < n) (h7 : k ≠ 7) : AC (upS T (o + i) v) (xI M k i (nI v)) :=
  h.set1 ht hi h7 (fun j hj => upS_n _ _ hj) (fun a ha => rIn _ _ _ ha) (by rw [rI1, upS_s]) rfl
theorem RA.up {T : Nat → Nat} {m : xM} {j v : Nat} (h : RA T m) : RA (upS T j v) (xI m 1 j (nI v)) := h.set (fun i hi => upS_n _ _ hi) (upS_s _ _ _)
section OP
variable {S : Nat → Nat} {M m : xM} {sl sv : Nat → Int32}
theorem nIm1 : nI 0 - nI 1 = (-1) := by decide
theorem inC (m : xM) (x : Int32) {n : Nat} (hn : n ≤ 24) : (∃ b, b < n ∧ x = nI b ∧ fX7_in m x (nI 0) (nI n - nI 1) = some (nI 1)) ∨ ((∀ b, b < n → x ≠ nI b) ∧ (x < nI 0 ∨ nI n ≤ x) ∧ fX7_in m x (nI 0) (nI n - nI 1) = some (nI 0)) := by
  unfold fX7_in
  rcases pk_ix x (n := n) (by omega) with h | h | ⟨j, h1, h2⟩
  · right
    refine ⟨fun b hb e => ?_, Or.inl h, if_pos h⟩
    subst e
    have h : nI b < nI 0 := h
    rw [qn0 (by omega)] at h
    exact h
  · right
    have hx : ¬ x < nI 0 := by
      intro z
      have : nI n < nI 0 := Int32.lt_of_le_of_lt h z
      rw [qn0 (by omega)] at this
      exact this
    refine ⟨fun b hb e => ?_, Or.inr h, ?_⟩
    · subst e
      rw [qle (by omega) (by omega)] at h
      omega
    · rw [if_neg hx]
      refine if_pos ?_
      by_cases c : n = 0
      · subst c
        rw [nIm1]
        exact Int32.lt_of_lt_of_le (by decide) h
      · rw [pk_sub (by omega)]
        exact Int32.lt_of_lt_of_le (by rw [qlt (by omega) (by omega)]; omega) h
  · left
    subst h2
    refine ⟨j, h1, rfl, ?_⟩
    rw [pk_sub (by omega)]
    simp (disch := omega) only [qlt]
    rw [if_neg (show ¬ j < 0 by omega)]
    exact if_neg (by omega)
theorem inD (m : xM) (x : Int32) {lo hi : Nat} (hh : hi ≤ 1000) (hl : lo ≤ hi) : (∃ b, lo ≤ b ∧ b ≤ hi ∧ x = nI b ∧ fX7_in m x (nI lo) (nI hi) = some (nI 1)) ∨ ((x < nI lo ∨ nI hi < x) ∧ fX7_in m x (nI lo) (nI hi) = some (nI 0)) := by
  unfold fX7_in
  by_cases c1 : x < nI lo
  · exact Or.inr ⟨Or.inl c1, if_pos c1⟩
  rw [if_neg c1]
  by_cases c2 : nI hi < x
  · exact Or.inr ⟨Or.inr c2, if_pos c2⟩
  rw [if_neg c2]
  left
  rcases pk_ix x (n := hi + 1) (by omega) with h | h | ⟨j, h1, h2⟩
  · exact absurd (Int32.lt_of_lt_of_le h (show (0 : Int32) ≤ nI lo from nI_pos' (by omega))) c1
  · exact absurd (Int32.lt_of_lt_of_le (show nI hi < nI (hi + 1) by rw [qlt (by omega) (by omega)]; omega) h) c2
  · subst h2
    rw [qlt (by omega) (by omega)] at c1 c2
    exact ⟨j, by omega, by omega, rfl, rfl⟩
theorem hasC {x : Int32} {n : Nat} {a : Int32} (ha : a = nI n) (hn : n ≤ 24) : ((x < nI 0 ∨ nI n ≤ x) → (if x < nI 0 then some (nI 0) else if a ≤ x then some (nI 0) else some (nI 1)) = some (nI 0)) ∧ (∀ b, b < n → x = nI b → (if x < nI 0 then some (nI 0) else if a ≤ x then some (nI 0) else some (nI 1)) = some (nI 1)) := by
  subst ha
  constructor
  · intro h
    by_cases c : x < nI 0
    · exact if_pos c
    · rw [if_neg c]
      rcases h with h | h
      · exact absurd h c
      · exact if_pos h
  · intro b hb e
    subst e
    simp (disch := omega) only [qn0, if_false, qle]
    exact if_neg (by omega)
def HS (S : Nat → Nat) (x : Int32) (k : Nat) (fc fr : Option Int32) : Prop := (∃ b, b < S k ∧ x = nI b ∧ fc = some (nI 1) ∧ fr = some (nI 1)) ∨ (fc = some (nI 0) ∧ fr = some (nI 0))
theorem sB (h : AC S M) (g : RA S m) (w : WF S) (x : Int32) : HS S x 0 (fX3_hasBridge M x) (fX7_isBridge m x) := by
  obtain ⟨w0, w1, w2, w3⟩ := w.1
  unfold fX3_hasBridge fX7_isBridge
  simp (disch := omega) only [xrdN, g 0 (by decide)]
  have hc := hasC (x := x) h.n0 (show S 0 ≤ 24 by omega)
  rcases inC m x (show S 0 ≤ 24 by omega) with ⟨b, h1, h2, h3⟩ | ⟨h1, h2, h3⟩
  · exact Or.inl ⟨b, h1, h2, hc.2 b h1 h2, by rw [h3]; rfl⟩
  · exact Or.inr ⟨hc.1 h2, by rw [h3]; rfl⟩
theorem sG (h : AC S M) (g : RA S m) (w : WF S) (x : Int32) : HS S x 1 (fX3_hasSegment M x) (fX7_isSegment m x) := by
  obtain ⟨w0, w1, w2, w3⟩ := w.1
  unfold fX3_hasSegment fX7_isSegment
  simp (disch := omega) only [xrdN, g 1 (by decide)]
  have hc := hasC (x := x) h.n1 (show S 1 ≤ 24 by omega)
  rcases inC m x (show S 1 ≤ 24 by omega) with ⟨b, h1, h2, h3⟩ | ⟨h1, h2, h3⟩
  · exact Or.inl ⟨b, h1, h2, hc.2 b h1 h2, by rw [h3]; rfl⟩
  · exact Or.inr ⟨hc.1 h2, by rw [h3]; rfl⟩
theorem sP (h : AC S M) (g : RA S m) (w : WF S) (x : Int32) : HS S x 2 (fX3_hasPort M x) (fX7_isPort m x) := by
  obtain ⟨w0, w1, w2, w3⟩ := w.1
  unfold fX3_hasPort fX7_isPort
  simp (disch := omega) only [xrdN, g 2 (by decide)]
  have hc := hasC (x := x) h.n2 (show S 2 ≤ 24 by omega)
  rcases inC m x (show S 2 ≤ 24 by omega) with ⟨b, h1, h2, h3⟩ | ⟨h1, h2, h3⟩
  · exact Or.inl ⟨b, h1, h2, hc.2 b h1 h2, by rw [h3]; rfl⟩
  · exact Or.inr ⟨hc.1 h2, by rw [h3]; rfl⟩
theorem sS (h : AC S M) (g : RA S m) (w : WF S) (x : Int32) : HS S x 3 (fX3_hasStation M x) (fX7_isStation m x) := by
  obtain ⟨w0, w1, w2, w3⟩ := w.1
  unfold fX3_hasStation fX7_isStation
  simp (disch := omega) only [xrdN, g 3 (by decide)]
  have hc := hasC (x := x) h.n3 (show S 3 ≤ 24 by omega)
  rcases inC m x (show S 3 ≤ 24 by omega) with ⟨b, h1, h2, h3⟩ | ⟨h1, h2, h3⟩
  · exact Or.inl ⟨b, h1, h2, hc.2 b h1 h2, by rw [h3]; rfl⟩
  · exact Or.inr ⟨hc.1 h2, by rw [h3]; rfl⟩
theorem n10f : (nI 1 = nI 0) = False := by decide
theorem Rs.same {r : Int32} (j : J S sl sv M m) : Rs sl sv (some (r, M)) (some (r, m)) := ⟨r, M, m, S, rfl, rfl, j⟩
theorem zIsP (x : Int32) {lo hi : Nat} (hh : hi ≤ 1000) (hl : lo ≤ hi) : (∀ b, lo ≤ b → b ≤ hi → x = nI b → (if x < nI lo then some (nI 0) else if nI hi < x then some (nI 0) else some (nI 1)) = some (nI 1)) ∧ ((x < nI lo ∨ nI hi < x) → (if x < nI lo then some (nI 0) else if nI hi < x then some (nI 0) else some (nI 1)) = some (nI 0)) := by
  constructor
  · intro b h1 h2 e
    subst e
    simp (disch := omega) only [qlt]
    rw [if_neg (by omega), if_neg (by omega)]
  · intro h
    by_cases c : x < nI lo
    · exact if_pos c
    · rw [if_neg c]
      rcases h with h | h
      · exact absurd h c
      · exact if_pos h
def PS (x : Int32) (lo hi : Nat) (fc fr : Option Int32) : Prop := (∃ b, lo ≤ b ∧ b ≤ hi ∧ x = nI b ∧ fc = some (nI 1) ∧ fr = some (nI 1)) ∨ (fc = some (nI 0) ∧ fr = some (nI 0))
theorem sPr (M m : xM) (x : Int32) : PS x 0 15 (fX6_isPriority M x) (fX7_in m x (nI 0) (nI 15)) := by
  have hz := zIsP x (lo := 0) (hi := 15) (by omega) (by omega)
  rcases inD m x (lo := 0) (hi := 15) (by omega) (by omega) with ⟨b, h1, h2, h3, h4⟩ | ⟨h1, h2⟩
  · exact Or.inl ⟨b, h1, h2, h3, hz.1 b h1 h2 h3, h4⟩
  · exact Or.inr ⟨hz.2 h1, h2⟩
theorem sCo (M m : xM) (x : Int32) : PS x 1 100 (fX6_isCost M x) (fX7_in m x (nI 1) (nI 100)) := by
  have hz := zIsP x (lo := 1) (hi := 100) (by omega) (by omega)
  rcases inD m x (lo := 1) (hi := 100) (by omega) (by omega) with ⟨b, h1, h2, h3, h4⟩ | ⟨h1, h2⟩
  · exact Or.inl ⟨b, h1, h2, h3, hz.1 b h1 h2 h3, h4⟩
  · exact Or.inr ⟨hz.2 h1, h2⟩
theorem s_identifier (j : J S sl sv M m) (x : Int32) : Rp (fX6_identifier M x) (fX7_identifier m x) := by
  obtain ⟨h, g, -, -, w, q⟩ := j
  obtain ⟨w0, w1, w2, w3⟩ := w.1
  unfold fX6_identifier fX7_identifier
  rcases sB h g w x with ⟨b, h1, rfl, e1, e2⟩ | ⟨e1, e2⟩
  · rw [e1, e2]
    simp only [ob, n10f, if_false, eC_id h (show b < 8 by omega), eR_id g (show b < 8 by omega)]
    exact ⟨_, rfl, rfl⟩
  · rw [e1, e2]; exact ⟨_, rfl, rfl⟩
theorem s_state (j : J S sl sv M m) (x : Int32) : Rp (fX6_state M x) (fX7_state m x) := by
  obtain ⟨h, g, -, -, w, q⟩ := j
  obtain ⟨w0, w1, w2, w3⟩ := w.1
  unfold fX6_state fX7_state
  rcases sP h g w x with ⟨b, h1, rfl, e1, e2⟩ | ⟨e1, e2⟩
  · rw [e1, e2]
    simp (disch := omega) only [ob, n10f, if_false, xrdN, nI_add, h.r7, g (117 + b) (by omega)]
    exact ⟨_, rfl, rfl⟩
  · rw [e1, e2]; exact ⟨_, rfl, rfl⟩
theorem s_transmissions (j : J S sl sv M m) (x : Int32) : Rp (fX6_transmissions M x) (fX7_transmissions m x) := by
  obtain ⟨h, g, -, -, w, q⟩ := j
  obtain ⟨w0, w1, w2, w3⟩ := w.1
  unfold fX6_transmissions fX7_transmissions
  rcases sG h g w x with ⟨b, h1, rfl, e1, e2⟩ | ⟨e1, e2⟩
  · rw [e1, e2]
    simp (disch := omega) only [ob, n10f, if_false, xrdN, nI_add, h.r14, g (421 + b) (by omega)]
    exact ⟨_, rfl, rfl⟩
  · rw [e1, e2]; exact ⟨_, rfl, rfl⟩
theorem s_entry (j : J S sl sv M m) (x y : Int32) : Rp (fX6_entry M x y) (fX7_entry m x y) := by
  obtain ⟨h, g, -, -, w, q⟩ := j
  obtain ⟨w0, w1, w2, w3⟩ := w.1
  unfold fX6_entry fX7_entry
  rcases sB h g w x with ⟨b, h1, rfl, e1, e2⟩ | ⟨e1, e2⟩
  · rw [e1, e2]
    simp only [ob, n10f, if_false]
    rcases sS h g w y with ⟨s, h2, rfl, e3, e4⟩ | ⟨e3, e4⟩
    · rw [e3, e4]
      have l := w.2.2.2.2.2.2.2 (8 * b + s) (by omega)
      have c1 : b * 8 + s = 8 * b + s := by omega
      unfold fX3_learnedPort fX3_entryIndex fX7_cell
      simp (disch := omega) only [ob, n10f, if_false, pk_mul, nI_add, c1, xrdN, h.r13, h.r12, g (357 + (8 * b + s)) (by omega), g (293 + (8 * b + s)) (by omega), qle]
      by_cases c : S (357 + (8 * b + s)) ≤ 0
      · rw [if_pos c, if_pos c]; exact ⟨_, rfl, rfl⟩
      · rw [if_neg c, if_neg c]
        simp (disch := omega) only [ob, qm1, if_false]
        exact ⟨_, rfl, rfl⟩
    · rw [e3, e4]; exact ⟨_, rfl, rfl⟩
  · rw [e1, e2]; exact ⟨_, rfl, rfl⟩
theorem s_count (j : J S sl sv M m) (x : Int32) : Rp (fX6_count M x) (fX7_count m x) := by
  obtain ⟨h, g, -, -, w, q⟩ := j
  unfold fX6_count fX7_count
  rcases inD m x (lo := 0) (hi := 4) (by omega) (by omega) with ⟨b, h1, h2, rfl, h4⟩ | ⟨h1, h2⟩
  · rw [h4]
    simp (disch := omega) only [ob, n10f, if_false, xrdN, g b (by omega), qeq, h.n0, h.n1, h.n2, h.n3, h.n4]
    by_cases c0 : b = 0
    · subst c0; rw [if_pos rfl]; exact ⟨_, rfl, rfl⟩
    rw [if_neg c0]
    by_cases c1 : b = 1
    · subst c1; rw [if_pos rfl]; exact ⟨_, rfl, rfl⟩
    rw [if_neg c1]
    by_cases c2 : b = 2
    · subst c2; rw [if_pos rfl]; exact ⟨_, rfl, rfl⟩
    rw [if_neg c2]
    by_cases c3 : b = 3
    · subst c3; rw [if_pos rfl]; exact ⟨_, rfl, rfl⟩
    rw [if_neg c3]
    have c4 : b = 4 := by omega
    subst c4; rw [if_pos rfl]; exact ⟨_, rfl, rfl⟩
  · rw [h2]
    have ne : ∀ k, k ≤ 4 → x ≠ nI k := by
      intro k hk e
      subst e
      rw [qlt (by omega) (by omega), qlt (by omega) (by omega)] at h1
      omega
    rw [if_neg (ne 0 (by omega)), if_neg (ne 1 (by omega)), if_neg (ne 2 (by omega)), if_neg (ne 3 (by omega)), if_neg (ne 4 (by omega))]
    exact ⟨_, rfl, rfl⟩
theorem s_stored (j : J S sl sv M m) (x y : Int32) : Rp (fX6_stored M x y) (fX7_stored m x y) := by
  obtain ⟨h, g, -, -, w, q⟩ := j
  obtain ⟨w0, w1, w2, w3⟩ := w.1
  unfold fX6_stored fX7_stored
  rcases sP h g w x with ⟨p, h1, rfl, e1, e2⟩ | ⟨e1, e2⟩
  · rw [e1, e2]
    have hp : p < 24 := by omega
    simp only [ob, n10f, if_false]
    rcases inD m y (lo := 0) (hi := 4) (by omega) (by omega) with ⟨b, h3, h2, rfl, h4⟩ | ⟨h3, h2⟩
    · rw [h4]
      simp (disch := omega) only [ob, n10f, if_false, qn0, qle]
      rw [if_pos h2]
      simp only [eC_sto h w hp, eR_sto g w hp, ob, zb0]
      by_cases c : 0 < zM S p 4
      · rw [if_neg (fun z => z c), if_neg (fun z => z c)]
        obtain ⟨g1, g2, g3, g4⟩ := w.2.2.2.2.2.1 p hp c
        have hk := zMk_lt w hp c
        have k0 : zMk S p / 2 ^ 40 = zM S p 0 := zPk_r (by omega) (by omega) (by omega)
        have k1 : zMk S p / 2 ^ 16 % 2 ^ 24 = zM S p 1 := zPk_c (by omega) (by omega) (by omega)
        have k2 : zMk S p / 2 ^ 8 % 2 ^ 8 = zM S p 2 := zPk_b (by omega) (by omega)
        have k3 : zMk S p % 2 ^ 8 = zM S p 3 := zPk_p (by omega)
        simp (disch := omega) only [xrdN, h.r9 p hp c, h.r10, eX2_rootOf, eX2_costOf, eX2_senderOf, eX2_senderPortOf, ob, k0, k1, k2, k3, qeq, eR_msg g hp (show b < 5 by omega)]
        by_cases c0 : b = 0
        · subst c0; rw [if_pos rfl]; exact ⟨_, rfl, rfl⟩
        rw [if_neg c0]
        by_cases c1 : b = 1
        · subst c1; rw [if_pos rfl]; exact ⟨_, rfl, rfl⟩
        rw [if_neg c1]
        by_cases c2 : b = 2
        · subst c2; rw [if_pos rfl]; exact ⟨_, rfl, rfl⟩
        rw [if_neg c2]
        by_cases c3 : b = 3
        · subst c3; rw [if_pos rfl]; exact ⟨_, rfl, rfl⟩
        rw [if_neg c3]
        have c4 : b = 4 := by omega
        subst c4; exact ⟨_, rfl, rfl⟩
      · rw [if_pos c, if_pos c]; exact ⟨_, rfl, rfl⟩
    · rw [h2]
      have lt4 : y < nI 0 ∨ ¬ y ≤ nI 4 := by
        rcases h3 with z | z
        · exact Or.inl z
        · exact Or.inr (Int32.not_le.mpr z)
      by_cases c : y < nI 0
      · rw [if_pos c]; exact ⟨_, rfl, rfl⟩
      · rw [if_neg c]
        rcases lt4 with z | z
        · exact absurd z c
        · rw [if_neg z]; exact ⟨_, rfl, rfl⟩
  · rw [e1, e2]; exact ⟨_, rfl, rfl⟩
theorem s_portsIn (j : J S sl sv M m) (x : Int32) : Rp (fX6_portsIn M x) (fX7_portsIn m x) := by
  obtain ⟨h, g, -, -, w, q⟩ := j
  obtain ⟨w0, w1, w2, w3⟩ := w.1
  unfold fX6_portsIn fX7_portsIn
  rcases inD m x (lo := 0) (hi := 4) (by omega) (by omega) with ⟨b, h3, h2, rfl, h4⟩ | ⟨h3, h2⟩
  · rw [h4]
    simp (disch := omega) only [ob, n10f, if_false, qn0, qle]
    rw [if_pos h2]
    have key : ∀ (d i n : Nat) (v : Int32), S 2 = i + d → d < n → ∀ k : Int32 → Option Int32, fX6_portsIn_L16 M (nI b) k n v (nI i) = fX7_portsIn_L16 m (nI b) k n v (nI i) := by
      intro d
      induction d with
      | zero =>
        intro i n v he hn k
        obtain ⟨n, rfl⟩ : ∃ k, n = k + 1 := ⟨n - 1, by omega⟩
        show fX6_portsIn_B16 M (nI b) k v (nI i) _ = fX7_portsIn_B16 m (nI b) k v (nI i) _
        unfold fX6_portsIn_B16 fX7_portsIn_B16
        simp (disch := omega) only [h.n2, eR_ports g, ob, qle]
        rw [if_pos (by omega), if_pos (by omega)]
      | succ d ih =>
        intro i n v he hn k
        obtain ⟨n, rfl⟩ : ∃ k, n = k + 1 := ⟨n - 1, by omega⟩
        have b5 := (w.2.2.1 i (by omega)).2.2.2.2.1
        show fX6_portsIn_B16 M (nI b) k v (nI i) _ = fX7_portsIn_B16 m (nI b) k v (nI i) _
        unfold fX6_portsIn_B16 fX7_portsIn_B16 fX7_portsIn_j45
        simp (disch := omega) only [h.n2, eR_ports g, ob, qle, xrdN, h.r7, nI_add, g (117 + i) (by omega), qeq]
        rw [if_neg (show ¬ S 2 ≤ i by omega), if_neg (show ¬ S 2 ≤ i by omega)]
        by_cases c : S (117 + i) = b
        · rw [if_pos c, if_pos c]; exact ih (i + 1) n _ (by omega) (by omega) k
        · rw [if_neg c, if_neg c]
          have hv : v ||| nI 0 = v := by
            apply Int32.toBitVec_inj.mp
            rw [Int32.toBitVec_or]
            show v.toBitVec ||| 0#32 = v.toBitVec
            exact BitVec.or_zero
          rw [hv]
          exact ih (i + 1) n _ (by omega) (by omega) k
    have tot : ∀ (d i n : Nat) (v : Int32), S 2 = i + d → d < n → ∃ r : Int32, ∀ k : Int32 → Option Int32, fX6_portsIn_L16 M (nI b) k n v (nI i) = k r := by
      intro d
      induction d with
      | zero =>
        intro i n v he hn
        obtain ⟨n, rfl⟩ : ∃ k, n = k + 1 := ⟨n - 1, by omega⟩
        refine ⟨v, fun k => ?_⟩
        show fX6_portsIn_B16 M (nI b) k v (nI i) _ = _
        unfold fX6_portsIn_B16
        simp (disch := omega) only [h.n2, qle]
        rw [if_pos (by omega)]
      | succ d ih =>
        intro i n v he hn
        obtain ⟨n, rfl⟩ : ∃ k, n = k + 1 := ⟨n - 1, by omega⟩
        have b5 := (w.2.2.1 i (by omega)).2.2.2.2.1
        by_cases c : S (117 + i) = b
        · obtain ⟨r, hr⟩ := ih (i + 1) n (v ||| ((nI 1) <<< (nI i &&& 31))) (by omega) (by omega)
          refine ⟨r, fun k => ?_⟩
          show fX6_portsIn_B16 M (nI b) k v (nI i) _ = _
          unfold fX6_portsIn_B16
          simp (disch := omega) only [h.n2, qle, xrdN, h.r7, nI_add, qeq]
          rw [if_neg (by omega), if_pos c]
          exact hr k
        · obtain ⟨r, hr⟩ := ih (i + 1) n v (by omega) (by omega)
          refine ⟨r, fun k => ?_⟩
          show fX6_portsIn_B16 M (nI b) k v (nI i) _ = _
          unfold fX6_portsIn_B16
          simp (disch := omega) only [h.n2, qle, xrdN, h.r7, nI_add, qeq]
          rw [if_neg (by omega), if_neg c]
          exact hr k
    obtain ⟨r, hr⟩ := tot (S 2) 0 512 (nI 0) (by omega) (by omega)
    refine ⟨r, hr _, ?_⟩
    rw [← key (S 2) 0 512 (nI 0) (by omega) (by omega)]
    exact hr _
  · rw [h2]
    by_cases c : x < nI 0
    · rw [if_pos c]; exact ⟨_, rfl, rfl⟩
    · rw [if_neg c]
      rcases h3 with z | z
      · exact absurd z c
      · rw [if_neg (Int32.not_le.mpr z)]; exact ⟨_, rfl, rfl⟩
theorem J.frC (j : J S sl sv M m) {M' : xM} {ks js : List Nat} (f : Fq ks js M M') (hk : ∀ k, k < 15 → k ∉ ks) (hj : 9 ∉ js) : J S sl sv M' m := ⟨j.1.fr f hk hj, j.2⟩
theorem J.frR (j : J S sl sv M m) {m' : xM} {ks js : List Nat} (f : Fq ks js m m') (h1 : 1 ∉ ks) (h2 : 2 ∉ ks) (h3 : 3 ∉ ks) : J S sl sv M m' := ⟨j.1, j.2.1.fr f h1, by rw [f.1 2 h2]; exact j.2.2.1, by rw [f.1 3 h3]; exact j.2.2.2.1, j.2.2.2.2⟩
theorem eR_up (g : RA S m) (w : WF S) {b : Nat} (hb : b < 8) : fX7_isUp m (nI b) = some (zb (S (13 + b) = 1)) := by
  have := (w.2.1 b hb).2
  unfold fX7_isUp
  simp (disch := omega) only [nI_add, xrdN, g (13 + b) (by omega), qeq, some_zb]
theorem s_root (j : J S sl sv M m) (x : Int32) : Rs sl sv (fX6_root M x) (fX7_root m x) := by
  obtain ⟨h, g, -, -, w, q⟩ := id j
  obtain ⟨w0, w1, w2, w3⟩ := w.1
  unfold fX6_root fX7_root
  rcases sB h g w x with ⟨b, h1, rfl, e1, e2⟩ | ⟨e1, e2⟩
  · rw [e1, e2]
    have hb : b < 8 := by omega
    obtain ⟨m', d1, d2, d3, d4⟩ := eR_lay g w
    have j1 := j.frR d2 (by decide) (by decide) (by decide)
    simp only [ob, n10f, if_false, eC_up h w hb, d1, zb0]
    rw [eR_up j1.2.1 w hb]
    simp only [ob, zb0]
    by_cases c : S (13 + b) = 1
    · rw [if_neg (fun z => z c), if_neg (fun z => z c)]
      obtain ⟨v, M', c1, c2, c3, c4, c5⟩ := eC_elect h w
      rw [c1]
      simp (disch := omega) only [ob, xrdN, (c3 b h1).1, (d3 b h1).2.1]
      exact ⟨_, _, _, _, rfl, rfl, j1.frC c2 (by decide) (by decide)⟩
    · rw [if_pos c, if_pos c]; exact Rs.same j1
  · rw [e1, e2]; exact Rs.same j
theorem s_rootCost (j : J S sl sv M m) (x : Int32) : Rs sl sv (fX6_rootCost M x) (fX7_rootCost m x) := by
  obtain ⟨h, g, -, -, w, q⟩ := id j
  obtain ⟨w0, w1, w2, w3⟩ := w.1
  unfold fX6_rootCost fX7_rootCost
  rcases sB h g w x with ⟨b, h1, rfl, e1, e2⟩ | ⟨e1, e2⟩
  · rw [e1, e2]
    have hb : b < 8 := by omega
    obtain ⟨m', d1, d2, d3, d4⟩ := eR_lay g w
    have j1 := j.frR d2 (by decide) (by decide) (by decide)
    simp only [ob, n10f, if_false, eC_up h w hb, d1, zb0]
    rw [eR_up j1.2.1 w hb]
    simp only [ob, zb0]
    by_cases c : S (13 + b) = 1
    · rw [if_neg (fun z => z c), if_neg (fun z => z c)]
      obtain ⟨v, M', c1, c2, c3, c4, c5⟩ := eC_elect h w
      rw [c1]
      simp (disch := omega) only [ob, xrdN, (c3 b h1).2.1, (d3 b h1).2.2]
      exact ⟨_, _, _, _, rfl, rfl, j1.frC c2 (by decide) (by decide)⟩
    · rw [if_pos c, if_pos c]; exact Rs.same j1
  · rw [e1, e2]; exact Rs.same j
theorem s_rootPort (j : J S sl sv M m) (x : Int32) : Rs sl sv (fX6_rootPort M x) (fX7_rootPort m x) := by
  obtain ⟨h, g, -, -, w, q⟩ := id j
  obtain ⟨w0, w1, w2, w3⟩ := w.1
  unfold fX6_rootPort fX7_rootPort
  rcases sB h g w x with ⟨b, h1, rfl, e1, e2⟩ | ⟨e1, e2⟩
  · rw [e1, e2]
    have hb : b < 8 := by omega
    obtain ⟨m', d1, d2, d3, d4⟩ := eR_lay g w
    have j1 := j.frR d2 (by decide) (by decide) (by decide)
    obtain ⟨v, M', c1, c2, c3, c4, c5⟩ := eC_elect h w
    have j2 := j1.frC c2 (by decide) (by decide)
    simp (disch := omega) only [ob, n10f, if_false, d1, c1, xrdN, (c3 b h1).2.2, (d3 b h1).1]
    cases e : zRp S b with
    | none =>
      rw [show zo1 none = (-1) from rfl, if_pos rfl]
      exact ⟨_, _, _, _, rfl, rfl, j2⟩
    | some q =>
      have := (zRp_in e).1
      simp (disch := omega) only [zo1, qm1, if_false, zo9]
      exact ⟨_, _, _, _, rfl, rfl, j2⟩
  · rw [e1, e2]; exact Rs.same j
theorem s_role (j : J S sl sv M m) (x : Int32) : Rs sl sv (fX6_role M x) (fX7_role m x) := by
  obtain ⟨h, g, -, -, w, q⟩ := id j
  obtain ⟨w0, w1, w2, w3⟩ := w.1
  unfold fX6_role fX7_role
  rcases sP h g w x with ⟨p, h1, rfl, e1, e2⟩ | ⟨e1, e2⟩
  · rw [e1, e2]
    obtain ⟨m', d1, d2, d3, d4⟩ := eR_lay g w
    have j1 := j.frR d2 (by decide) (by decide) (by decide)
    obtain ⟨v, M', c1, c2, c3, c4, c5⟩ := eC_elect h w
    have j2 := j1.frC c2 (by decide) (by decide)
    simp (disch := omega) only [ob, n10f, if_false, d1, c1, xrdN, c4 p h1, d4 p h1]
    exact ⟨_, _, _, _, rfl, rfl, j2⟩
  · rw [e1, e2]; exact Rs.same j
end OP
