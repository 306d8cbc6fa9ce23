theorem cpy0 {α : Type} (f g : Nat → α) {n i : Nat} (h : i < n) : va_cpy f g 0 0 n i = f i := by
  unfold va_cpy
  rw [if_pos (by omega)]
  congr 1
  omega
theorem AC.cp {S : Nat → Nat} {M : xM} (h : AC S M) (D : xM) : AC S (cpM D M) := by
  refine ⟨fun t ht i hi => ?_, fun i hi => ?_, fun i hi h0 => ?_, fun i hi h0 => ?_⟩
  · have h1 := h.1 t ht i hi
    simp only [zT, List.mem_cons, List.not_mem_nil, or_false] at ht
    rcases ht with rfl | rfl | rfl | rfl | rfl | rfl | rfl | rfl | rfl | rfl | rfl | rfl
    · show (if i < 5 then M.1 0 i else D.1 0 i) = _
      rw [if_pos hi]; exact h1
    · exact (cpy0 (M.1 1) (D.1 1) hi).trans h1
    · exact (cpy0 (M.1 2) (D.1 2) hi).trans h1
    · exact (cpy0 (M.1 3) (D.1 3) hi).trans h1
    · exact (cpy0 (M.1 4) (D.1 4) hi).trans h1
    · exact (cpy0 (M.1 5) (D.1 5) hi).trans h1
    · exact (cpy0 (M.1 6) (D.1 6) hi).trans h1
    · exact (cpy0 (M.1 7) (D.1 7) hi).trans h1
    · exact (cpy0 (M.1 11) (D.1 11) hi).trans h1
    · exact (cpy0 (M.1 12) (D.1 12) hi).trans h1
    · exact (cpy0 (M.1 13) (D.1 13) hi).trans h1
    · exact (cpy0 (M.1 14) (D.1 14) hi).trans h1
  · exact (cpy0 (M.1 10) (D.1 10) hi).trans (h.2.1 i hi)
  · exact (cpy0 (M.2 9) (D.2 9) hi).trans (h.2.2.1 i hi h0)
  · exact (cpy0 (M.1 8) (D.1 8) hi).trans (h.2.2.2 i hi h0)
def slI (o : Option xM) (sl sv : Nat → Int32) (i : Nat) : Prop := match o with
  | none => sv i = nI 0
  | some M1 => sv i = nI 1 ∧ ∃ S1 : Nat → Nat, AC S1 M1 ∧ WF S1 ∧ WQ S1 ∧ ∀ k, k < 431 → sl (431 * i + k) = nI (S1 k)
theorem slI.oth {o : Option xM} {sl sv sl2 sv2 : Nat → Int32} {i : Nat} (h : slI o sl sv i) (h1 : sv2 i = sv i) (h2 : ∀ k, k < 431 → sl2 (431 * i + k) = sl (431 * i + k)) : slI o sl2 sv2 i := by
  cases o with
  | none => exact h1.trans h
  | some M1 =>
    obtain ⟨a, S1, b, c, d, e⟩ := h
    exact ⟨h1.trans a, S1, b, c, d, fun k hk => (h2 k hk).trans (e k hk)⟩
section SL
variable {S : Nat → Nat} {M m : xM} {sl sv : Nat → Int32}
theorem r_save (h : RA S m) {i : Nat} (hi : i < 2) : ∃ m' : xM, fX7_save m (nI i) = some (nI (S 0), m') ∧ RA S m' ∧ (∀ k, k < 431 → m'.1 2 (431 * i + k) = nI (S k)) ∧ (∀ j, j < 431 * i ∨ 431 * i + 431 ≤ j → m'.1 2 j = m.1 2 j) ∧ m'.1 3 i = nI 1 ∧ ∀ j, j ≠ i → m'.1 3 j = m.1 3 j := by
  have key := lp0 (fun (k : xM → Option (Int32 × xM)) n M v => fX7_save_L14 (nI i) k n M v) (fun a m' => Fq [2] [] m m' ∧ (∀ k, k < a → m'.1 2 (431 * i + k) = nI (S k)) ∧ (∀ j, j < 431 * i ∨ 431 * i + a ≤ j → m'.1 2 j = m.1 2 j)) 431 (by omega) m ⟨Fq.rf, fun k hk => absurd hk (by omega), fun j _ => rfl⟩ ?_ ?_
  · obtain ⟨m1, ⟨f1, f2, f3⟩, hk⟩ := key
    have ra1 : RA S m1 := h.fr f1 (by decide)
    have a0 : fX7_in m (nI i) (nI 0) (nI 1) = some (nI 1) := by
      rcases inD m (nI i) (lo := 0) (hi := 1) (by omega) (by omega) with ⟨b, _, _, _, e⟩ | ⟨c, _⟩
      · exact e
      · rcases c with c | c
        · rw [qlt (by omega) (by omega)] at c; omega
        · rw [qlt (by omega) (by omega)] at c; omega
    have ha := hk (fun M4 => xwI 2 M4 3 (nI i) (vp_nar .boolean (nI 1)) fun M5 => xrd 431 (M5.1 1) (nI 0) fun x6 => some (x6, M5))
    have hnar : vp_nar .boolean (nI 1) = nI 1 := by decide +kernel
    have ra2 : RA S (xI m1 3 i (nI 1)) := fun j hj => by rw [rIn _ _ _ (by decide)]; exact ra1 j hj
    refine ⟨xI m1 3 i (nI 1), ?_, ra2, ?_, ?_, ?_, ?_⟩
    · unfold fX7_save
      rw [a0, ob, if_neg (by decide +kernel)]
      refine ha.trans ?_
      rw [hnar, xwIN (by omega) (by omega), xrdN (by omega) (by omega), ra2 0 (by omega)]
    · intro k hk
      rw [rIn _ _ _ (by decide)]
      exact f2 k hk
    · intro j hj
      rw [rIn _ _ _ (by decide)]
      exact f3 j hj
    · rw [rI1, us]
    · intro j hj
      rw [rI1, un _ _ hj, f1.1 3 (by decide)]
  · intro k n m' hI
    show fX7_save_B14 (nI i) k m' (nI 431) _ = k m'
    unfold fX7_save_B14
    simp (disch := omega) only [qle, Nat.le_refl, if_true]
  · intro n a m' ha hI
    obtain ⟨f1, f2, f3⟩ := hI
    have e1 : m'.1 1 a = nI (S a) := by rw [f1.1 1 (by decide)]; exact h a (by omega)
    refine ⟨xI m' 2 (431 * i + a) (nI (S a)), ⟨f1.I (by decide) _ _, fun k hk => ?_, fun j hj => ?_⟩, fun k => ?_⟩
    · rw [rI1]
      by_cases c : k = a
      · subst c; rw [us]
      · rw [un _ _ (by omega)]; exact f2 k (by omega)
    · rw [rI1, un _ _ (by omega)]
      exact f3 j (by omega)
    · show fX7_save_B14 (nI i) k m' (nI a) _ = _
      unfold fX7_save_B14
      rw [if_neg (show ¬ nI 431 ≤ nI a by rw [qle (by omega) (by omega)]; omega), xrdN (by omega) (by omega), e1, pk_mul, nI_add, xwIN (by omega) (by omega), nI_add]
theorem r_bad {x : Int32} (hx : x < nI 0 ∨ nI 1 < x) : fX7_save m x = some (-5, m) ∧ fX7_restore m x = some (-5, m) ∧ (x < nI 0 ∨ nI 2 ≤ x) := by
  have a0 : fX7_in m x (nI 0) (nI 1) = some (nI 0) := by
    rcases inD m x (lo := 0) (hi := 1) (by omega) (by omega) with ⟨b, _, hb, rfl, e⟩ | ⟨_, e⟩
    · rcases hx with c | c
      · rw [qlt (by omega) (by omega)] at c; omega
      · rw [qlt (by omega) (by omega)] at c; omega
    · exact e
  refine ⟨?_, ?_, ?_⟩
  · unfold fX7_save
    rw [a0, ob, if_pos rfl]
  · unfold fX7_restore
    rw [a0, ob, if_pos rfl]
  · rcases hx with c | c
    · exact Or.inl c
    · right
      rw [Int32.lt_iff_toInt_lt, nI_toInt (by omega)] at c
      rw [Int32.le_iff_toInt_le, nI_toInt (by omega)]
      omega
theorem r_in {i : Nat} (hi : i < 2) : fX7_in m (nI i) (nI 0) (nI 1) = some (nI 1) := by
  rcases inD m (nI i) (lo := 0) (hi := 1) (by omega) (by omega) with ⟨b, _, _, _, e⟩ | ⟨c, _⟩
  · exact e
  · rcases c with c | c
    · rw [qlt (by omega) (by omega)] at c; omega
    · rw [qlt (by omega) (by omega)] at c; omega
theorem r_none {i : Nat} (hi : i < 2) (hs : m.1 3 i = nI 0) : fX7_restore m (nI i) = some (-8, m) := by
  unfold fX7_restore
  rw [r_in hi, ob, if_neg (by decide +kernel), xrdN (by omega) (by omega), hs, if_pos rfl]
theorem r_some {S1 : Nat → Nat} {i : Nat} (hi : i < 2) (hs : m.1 3 i = nI 1) (h1 : ∀ k, k < 431 → m.1 2 (431 * i + k) = nI (S1 k)) : ∃ m' : xM, fX7_restore m (nI i) = some (nI (S1 0), m') ∧ RA S1 m' ∧ m'.1 2 = m.1 2 ∧ m'.1 3 = m.1 3 := by
  have key := lp0 (fun (k : xM → Option (Int32 × xM)) n M v => fX7_restore_L26 (nI i) k n M v) (fun a m' => Fq [1] [] m m' ∧ (∀ k, k < a → m'.1 1 k = nI (S1 k))) 431 (by omega) m ⟨Fq.rf, fun k hk => absurd hk (by omega)⟩ ?_ ?_
  · obtain ⟨m1, ⟨f1, f2⟩, hk⟩ := key
    have ha := hk (fun M5 => xrd 431 (M5.1 1) (nI 0) fun x6 => some (x6, M5))
    refine ⟨m1, ?_, f2, f1.1 2 (by decide), f1.1 3 (by decide)⟩
    unfold fX7_restore
    rw [r_in hi, ob, if_neg (by decide +kernel), xrdN (by omega) (by omega), hs, if_neg (by decide +kernel)]
    refine ha.trans ?_
    rw [xrdN (by omega) (by omega), f2 0 (by omega)]
  · intro k n m' hI
    show fX7_restore_B26 (nI i) k m' (nI 431) _ = k m'
    unfold fX7_restore_B26
    simp (disch := omega) only [qle, Nat.le_refl, if_true]
  · intro n a m' ha hI
    obtain ⟨f1, f2⟩ := hI
    have e1 : m'.1 2 (431 * i + a) = nI (S1 a) := by rw [f1.1 2 (by decide)]; exact h1 a ha
    refine ⟨xI m' 1 a (nI (S1 a)), ⟨f1.I (by decide) _ _, fun k hk => ?_⟩, fun k => ?_⟩
    · rw [rI1]
      by_cases c : k = a
      · subst c; rw [us]
      · rw [un _ _ c]; exact f2 k (by omega)
    · show fX7_restore_B26 (nI i) k m' (nI a) _ = _
      unfold fX7_restore_B26
      rw [if_neg (show ¬ nI 431 ≤ nI a by rw [qle (by omega) (by omega)]; omega), pk_mul, nI_add, xrdN (by omega) (by omega), e1, xwIN (by omega) (by omega), nI_add]
end SL
