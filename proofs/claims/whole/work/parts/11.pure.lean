theorem wb_tb (n : Nat) : (lN n).toBitVec = BitVec.ofNat 64 n := rfl
theorem wb_inj {a b : Int64} (h : a.toBitVec = b.toBitVec) : a = b := Int64.toBitVec_inj.mp h
theorem wb_c : ∀ k, k < 64 → ((nI k).toInt64 &&& 63) = lN k := by decide +kernel
theorem wb_sm : ∀ k, k < 64 → (BitVec.ofNat 64 k).smod 64 = BitVec.ofNat 64 k := by decide +kernel
theorem wb_lt2 {a b : Nat} (h : a < b) : 2 ^ a < 2 ^ b := Nat.pow_lt_pow_right (by decide) h
theorem wb_shl (n : Nat) {k : Nat} (hk : k < 64) : lN n <<< ((nI k).toInt64 &&& 63) = lN (n * 2 ^ k) := by
  rw [wb_c k hk]
  apply wb_inj
  rw [Int64.toBitVec_shiftLeft, wb_tb, wb_tb, wb_tb, wb_sm k hk]
  apply BitVec.eq_of_toNat_eq
  rw [BitVec.shiftLeft_eq', BitVec.toNat_shiftLeft, BitVec.toNat_ofNat, BitVec.toNat_ofNat, BitVec.toNat_ofNat, Nat.mod_eq_of_lt (show k < 2 ^ 64 by omega), Nat.shiftLeft_eq, Nat.mul_mod, Nat.mod_mod, ← Nat.mul_mod]
theorem wb_and {a b : Nat} (ha : a < 2 ^ 64) (hb : b < 2 ^ 64) : lN a &&& lN b = lN (a &&& b) := by
  apply wb_inj
  rw [Int64.toBitVec_and, wb_tb, wb_tb, wb_tb]
  apply BitVec.eq_of_toNat_eq
  rw [BitVec.toNat_and, BitVec.toNat_ofNat, BitVec.toNat_ofNat, BitVec.toNat_ofNat, Nat.mod_eq_of_lt ha, Nat.mod_eq_of_lt hb, Nat.mod_eq_of_lt (Nat.and_lt_two_pow _ hb)]
theorem wb_mask {n k : Nat} (hn : n < 2 ^ 64) (hk : k < 64) : lN n &&& lN (2 ^ k - 1) = lN (n % 2 ^ k) := by
  rw [wb_and hn (by have := wb_lt2 hk; omega), Nat.and_two_pow_sub_one_eq_mod]
theorem u_tn {n : Nat} (h : n < 2 ^ 64) : (UInt64.ofNat n).toNat = n := Nat.mod_eq_of_lt h
theorem g_or {k p a b : Nat} (hp : 2 ^ k = p) (ha : a < p) (h : b * p + a < 2 ^ 64) : lN (b * p) ||| lN a = lN (b * p + a) := by
  subst hp
  have h1 : b * 2 ^ k ||| a = b * 2 ^ k + a := by rw [← Nat.shiftLeft_eq, Nat.shiftLeft_add_eq_or_of_lt ha]
  have h3 : UInt64.ofNat (b * 2 ^ k) ||| UInt64.ofNat a = UInt64.ofNat (b * 2 ^ k + a) := UInt64.toNat_inj.mp (by rw [UInt64.toNat_or, u_tn (by omega), u_tn (by omega), u_tn h, h1])
  have h2 := congrArg UInt64.toInt64 h3
  exact h2
theorem pf_lI {a : Nat} (h : a < 2 ^ 63) : (lN a).toInt = (a : Int) := lg_ofNat_toInt h
theorem pf_shr {a d : Nat} {D : Int64} (hD : (D.toBitVec.smod 64).toNat = d) (h : a < 2 ^ 62) : lN a >>> D = lN (a / 2 ^ d) := by
  have hd : a / 2 ^ d ≤ a := Nat.div_le_self _ _
  apply Int64.toInt_inj.mp
  have e : (lN a >>> D).toInt = (lN a).toInt >>> d := by
    rw [← hD]
    exact BitVec.toInt_sshiftRight ..
  rw [e, Int.shiftRight_eq_div_pow, pf_lI (by omega), pf_lI (by omega)]
  rfl
theorem zPk_ex : ∃ f : Nat → Nat → Nat → Nat → Nat, ∀ r c b p, f r c b p = r * 1099511627776 + c * 65536 + b * 256 + p := ⟨fun r c b p => r * 1099511627776 + c * 65536 + b * 256 + p, fun _ _ _ _ => rfl⟩
noncomputable def zPk : Nat → Nat → Nat → Nat → Nat := Classical.choose zPk_ex
theorem zPk_eq (r c b p : Nat) : zPk r c b p = r * 1099511627776 + c * 65536 + b * 256 + p := Classical.choose_spec zPk_ex r c b p
theorem zPk_lt {r c b p : Nat} (hr : r < 256) (hc : c < 16777216) (hb : b < 256) (hp : p < 256) : zPk r c b p < 2 ^ 48 := by simp only [zPk_eq]; omega
theorem zPk_r {r c b p : Nat} (hc : c < 16777216) (hb : b < 256) (hp : p < 256) : zPk r c b p / 2 ^ 40 = r := by simp only [zPk_eq]; omega
theorem zPk_c {r c b p : Nat} (hc : c < 16777216) (hb : b < 256) (hp : p < 256) : zPk r c b p / 2 ^ 16 % 2 ^ 24 = c := by simp only [zPk_eq]; omega
theorem zPk_b {r c b p : Nat} (hb : b < 256) (hp : p < 256) : zPk r c b p / 2 ^ 8 % 2 ^ 8 = b := by simp only [zPk_eq]; omega
theorem zPk_p {r c b p : Nat} (hp : p < 256) : zPk r c b p % 2 ^ 8 = p := by simp only [zPk_eq]; omega
theorem zPk_s {r c b p r' c' b' p' : Nat} (hb : b < 256) (hp : p < 256) (hb' : b' < 256) (hp' : p' < 256) : zPk r c b p % 2 ^ 16 = zPk r' c' b' p' % 2 ^ 16 ↔ b = b' ∧ p = p' := by simp only [zPk_eq]; omega
theorem zPk_lex {r c b p r' c' b' p' : Nat} (hc : c < 16777216) (hb : b < 256) (hp : p < 256) (hc' : c' < 16777216) (hb' : b' < 256) (hp' : p' < 256) : zPk r c b p < zPk r' c' b' p' ↔ (r < r' ∨ r = r' ∧ (c < c' ∨ c = c' ∧ (b < b' ∨ b = b' ∧ p < p'))) := by simp only [zPk_eq]; omega
theorem eX2_of (M : xM) {r c b p : Nat} (hr : r < 256) (hc : c < 16777216) (hb : b < 256) (hp : p < 256) : fX2_of M (nI r) (nI c) (nI b) (nI p) = some (lN (zPk r c b p)) := by
  unfold fX2_of
  rw [nI_l (by omega : r < 2 ^ 31), nI_l (by omega : c < 2 ^ 31), nI_l (by omega : b < 2 ^ 31), nI_l (by omega : p < 2 ^ 31), wb_shl r (by decide : 40 < 64), wb_shl c (by decide : 16 < 64), wb_shl b (by decide : 8 < 64)]
  rw [g_or (k := 40) rfl (by omega) (by omega)]
  rw [show r * 2 ^ 40 + c * 2 ^ 16 = (r * 2 ^ 24 + c) * 2 ^ 16 by omega, g_or (k := 16) rfl (by omega) (by omega)]
  rw [show (r * 2 ^ 24 + c) * 2 ^ 16 + b * 2 ^ 8 = ((r * 2 ^ 24 + c) * 2 ^ 8 + b) * 2 ^ 8 by omega, g_or (k := 8) rfl (by omega) (by omega)]
  rw [zPk_eq, show ((r * 2 ^ 24 + c) * 2 ^ 8 + b) * 2 ^ 8 + p = r * 1099511627776 + c * 65536 + b * 256 + p by omega]
theorem eX2_rootOf (M : xM) {k : Nat} (hk : k < 2 ^ 62) : fX2_rootOf M (lN k) = some (nI (k / 2 ^ 40)) := by
  unfold fX2_rootOf
  rw [pf_shr (d := 40) (by decide +kernel) hk, lN_i]
theorem eX2_costOf (M : xM) {k : Nat} (hk : k < 2 ^ 62) : fX2_costOf M (lN k) = some (nI (k / 2 ^ 16 % 2 ^ 24)) := by
  unfold fX2_costOf
  rw [pf_shr (d := 16) (by decide +kernel) hk, show (16777215 : Int64) = lN (2 ^ 24 - 1) from rfl, wb_mask (k := 24) (by omega) (by decide), lN_i]
theorem eX2_senderOf (M : xM) {k : Nat} (hk : k < 2 ^ 62) : fX2_senderOf M (lN k) = some (nI (k / 2 ^ 8 % 2 ^ 8)) := by
  unfold fX2_senderOf
  rw [pf_shr (d := 8) (by decide +kernel) hk, show (255 : Int64) = lN (2 ^ 8 - 1) from rfl, wb_mask (k := 8) (by omega) (by decide), lN_i]
theorem eX2_senderPortOf (M : xM) {k : Nat} (hk : k < 2 ^ 62) : fX2_senderPortOf M (lN k) = some (nI (k % 2 ^ 8)) := by
  unfold fX2_senderPortOf
  rw [show (255 : Int64) = lN (2 ^ 8 - 1) from rfl, wb_mask (k := 8) (by omega) (by decide), lN_i]
theorem eX2_withCostAdded (M : xM) {k c : Nat} (hc : c < 2 ^ 31) : fX2_withCostAdded M (lN k) (nI c) = some (lN (k + c * 65536)) := by
  unfold fX2_withCostAdded
  rw [nI_l hc, wb_shl c (by decide : 16 < 64), lN_add]
theorem lc_ge {a b : Nat} (ha : a < 2 ^ 63) (hb : b < 2 ^ 63) : (nI 0 ≤ lg_cmp (lN a) (lN b)) ↔ b ≤ a := by
  unfold lg_cmp
  by_cases h1 : lN a > lN b
  · rw [if_pos h1]
    have := (pk_lLT hb ha).mp h1
    exact ⟨fun _ => by omega, fun _ => by decide⟩
  · rw [if_neg h1]
    have h1' : ¬ b < a := fun h => h1 ((pk_lLT hb ha).mpr h)
    by_cases h2 : lN a = lN b
    · rw [if_pos h2]
      have := (pk_lEQ ha hb).mp h2
      exact ⟨fun _ => by omega, fun _ => by decide⟩
    · rw [if_neg h2]
      have h2' : ¬ a = b := fun h => h2 ((pk_lEQ ha hb).mpr h)
      exact ⟨fun h => absurd h (by decide), fun h => by omega⟩
theorem lc_gt {a b : Nat} (ha : a < 2 ^ 63) (hb : b < 2 ^ 63) : (nI 0 < lg_cmp (lN a) (lN b)) ↔ b < a := by
  unfold lg_cmp
  by_cases h1 : lN a > lN b
  · rw [if_pos h1]
    have := (pk_lLT hb ha).mp h1
    exact ⟨fun _ => by omega, fun _ => by decide⟩
  · rw [if_neg h1]
    have h1' : ¬ b < a := fun h => h1 ((pk_lLT hb ha).mpr h)
    by_cases h2 : lN a = lN b
    · rw [if_pos h2]
      exact ⟨fun h => absurd h (by decide), fun h => by omega⟩
    · rw [if_neg h2]
      exact ⟨fun h => absurd h (by decide), fun h => by omega⟩
theorem lc_eq {a b : Nat} (ha : a < 2 ^ 63) (hb : b < 2 ^ 63) : (lg_cmp (lN a) (lN b) = nI 0) ↔ a = b := by
  unfold lg_cmp
  by_cases h1 : lN a > lN b
  · rw [if_pos h1]
    have := (pk_lLT hb ha).mp h1
    exact ⟨fun h => absurd h (by decide), fun h => by omega⟩
  · rw [if_neg h1]
    by_cases h2 : lN a = lN b
    · rw [if_pos h2]
      have := (pk_lEQ ha hb).mp h2
      exact ⟨fun _ => this, fun _ => by decide⟩
    · rw [if_neg h2]
      have h2' : ¬ a = b := fun h => h2 ((pk_lEQ ha hb).mpr h)
      exact ⟨fun h => absurd h (by decide), fun h => absurd h h2'⟩
theorem eX2_haveSameSource (M : xM) {a b : Nat} (ha : a < 2 ^ 62) (hb : b < 2 ^ 62) : fX2_haveSameSource M (lN a) (lN b) = some (if a % 2 ^ 16 = b % 2 ^ 16 then nI 1 else nI 0) := by
  unfold fX2_haveSameSource
  rw [show (65535 : Int64) = lN (2 ^ 16 - 1) from rfl, wb_mask (k := 16) (by omega) (by decide), wb_mask (k := 16) (by omega) (by decide)]
  simp only [lc_eq (show a % 2 ^ 16 < 2 ^ 63 by omega) (show b % 2 ^ 16 < 2 ^ 63 by omega)]
  by_cases h : a % 2 ^ 16 = b % 2 ^ 16
  · rw [if_pos h, if_pos h]
  · rw [if_neg h, if_neg h]
theorem ob {α β : Type} (a : α) (f : α → Option β) : (some a).bind f = f a := rfl
theorem nI_in0 {i n : Nat} (h : i < n) (hn : n ≤ 2147483648) : ¬ (nI i < 0 ∨ n ≤ (nI i).toNatClampNeg) := by
  rw [nI_clamp (by omega)]
  intro q
  rcases q with q | q
  · exact absurd q (nI_pos (by omega))
  · omega
theorem xrdN {ρ α : Type} {n i : Nat} {f : Nat → α} {K : α → Option ρ} (h : i < n) (hn : n ≤ 2147483648) : xrd n f (nI i) K = K (f i) := by
  unfold xrd
  rw [if_pos (nI_in0 h hn), nI_clamp (by omega)]
theorem xwIN {ρ : Type} {n k i : Nat} {v : Int32} {M : xM} {K : xM → Option ρ} (h : i < n) (hn : n ≤ 2147483648) : xwI n M k (nI i) v K = K (xI M k i v) := by
  unfold xwI
  rw [if_pos (nI_in0 h hn), nI_clamp (by omega)]
theorem xwJN {ρ : Type} {n k i : Nat} {v : Int64} {M : xM} {K : xM → Option ρ} (h : i < n) (hn : n ≤ 2147483648) : xwJ n M k (nI i) v K = K (xJ M k i v) := by
  unfold xwJ
  rw [if_pos (nI_in0 h hn), nI_clamp (by omega)]
theorem qeq {a b : Nat} (ha : a < 2147483648) (hb : b < 2147483648) : (nI a = nI b) = (a = b) := propext (nI_eq ha hb)
theorem qle {a b : Nat} (ha : a < 2147483648) (hb : b < 2147483648) : (nI a ≤ nI b) = (a ≤ b) := propext (nI_leI ha hb)
theorem qlt {a b : Nat} (ha : a < 2147483648) (hb : b < 2147483648) : (nI a < nI b) = (a < b) := propext (nI_ltI ha hb)
theorem qm1 {a : Nat} (ha : a < 2147483648) : (nI a = (-1)) = False := by
  apply propext
  refine ⟨fun h => ?_, False.elim⟩
  have := congrArg Int32.toInt h
  rw [nI_toInt ha] at this
  have e : (-1 : Int32).toInt = -1 := by decide
  rw [e] at this
  omega
theorem qm9 {a : Nat} (ha : a < 2147483648) : (nI a = (-9)) = False := by
  apply propext
  refine ⟨fun h => ?_, False.elim⟩
  have := congrArg Int32.toInt h
  rw [nI_toInt ha] at this
  have e : (-9 : Int32).toInt = -9 := by decide
  rw [e] at this
  omega
theorem rI1 (M : xM) (k j : Nat) (v : Int32) : (xI M k j v).1 k = upd (M.1 k) j v := by simp [xI]
theorem rIn (M : xM) {k a : Nat} (j : Nat) (v : Int32) (h : a ≠ k) : (xI M k j v).1 a = M.1 a := by simp [xI, h]
theorem rI2 (M : xM) (k j : Nat) (v : Int32) : (xI M k j v).2 = M.2 := rfl
theorem rJ1 (M : xM) (k j : Nat) (v : Int64) : (xJ M k j v).2 k = vp_updL (M.2 k) j v := by simp [xJ]
theorem rJn (M : xM) {k a : Nat} (j : Nat) (v : Int64) (h : a ≠ k) : (xJ M k j v).2 a = M.2 a := by simp [xJ, h]
theorem rJ2 (M : xM) (k j : Nat) (v : Int64) : (xJ M k j v).1 = M.1 := rfl
theorem us (f : Nat → Int32) (k : Nat) (x : Int32) : upd f k x k = x := by simp [upd]
theorem un (f : Nat → Int32) {k j : Nat} (x : Int32) (h : j ≠ k) : upd f k x j = f j := by simp [upd, h]
theorem uLs (f : Nat → Int64) (k : Nat) (x : Int64) : vp_updL f k x k = x := by simp [vp_updL]
theorem uLn (f : Nat → Int64) {k j : Nat} (x : Int64) (h : j ≠ k) : vp_updL f k x j = f j := by simp [vp_updL, h]
theorem lpS {ρ σ : Type} (L : (σ → Option ρ) → Nat → σ → Int32 → Option ρ) (I : Nat → σ → Prop) (e : Nat) (hx : ∀ k n s, I e s → L k (n + 1) s (nI e) = k s) (hs : ∀ n i s, i < e → I i s → ∃ s', I (i + 1) s' ∧ ∀ k, L k (n + 1) s (nI i) = L k n s' (nI (i + 1))) : ∀ (d n i : Nat) (s : σ), e = i + d → d < n → I i s → ∃ s', I e s' ∧ ∀ k, L k n s (nI i) = k s' := by
  intro d
  induction d with
  | zero =>
    intro n i s he hn hI
    obtain ⟨n, rfl⟩ : ∃ k, n = k + 1 := ⟨n - 1, by omega⟩
    have : i = e := by omega
    subst this
    exact ⟨s, hI, fun k => hx k n s hI⟩
  | succ d ih =>
    intro n i s he hn hI
    obtain ⟨n, rfl⟩ : ∃ k, n = k + 1 := ⟨n - 1, by omega⟩
    obtain ⟨s', h1, h2⟩ := hs n i s (by omega) hI
    obtain ⟨s2, h3, h4⟩ := ih n (i + 1) s' (by omega) (by omega) h1
    exact ⟨s2, h3, fun k => by rw [h2, h4]⟩
theorem lp0 {ρ σ : Type} (L : (σ → Option ρ) → Nat → σ → Int32 → Option ρ) (I : Nat → σ → Prop) (e : Nat) (he : e < 512) (s : σ) (h0 : I 0 s) (hx : ∀ k n s, I e s → L k (n + 1) s (nI e) = k s) (hs : ∀ n i s, i < e → I i s → ∃ s', I (i + 1) s' ∧ ∀ k, L k (n + 1) s (nI i) = L k n s' (nI (i + 1))) : ∃ s', I e s' ∧ ∀ k, L k 512 s (nI 0) = k s' :=
  lpS L I e hx hs e 512 0 s (by omega) he h0
