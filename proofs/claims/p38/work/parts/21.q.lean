/-! pure: small functions of both sides -/
theorem q_fu {k n : Nat} (h : k < n) : ∃ m, n = m + 1 ∧ k ≤ m := ⟨n - 1, by omega, by omega⟩
theorem q_i64le (x y : Int32) : (x.toInt64 ≤ y.toInt64) = (x ≤ y) := by
  apply propext
  rw [Int64.le_iff_toInt_le, Int32.le_iff_toInt_le, Int32.toInt_toInt64, Int32.toInt_toInt64]
theorem q_i64lt (x y : Int32) : (x.toInt64 < y.toInt64) = (x < y) := by
  apply propext
  rw [Int64.lt_iff_toInt_lt, Int32.lt_iff_toInt_lt, Int32.toInt_toInt64, Int32.toInt_toInt64]
theorem q_in {x y z : Int32} {a b : Int64} (ha : a = y.toInt64) (hb : b = z.toInt64) : f_X_in x.toInt64 a b = some (if x < y then 0 else if z < x then 0 else 1) := by
  subst ha; subst hb
  unfold f_X_in
  simp only [lg_cmp_lt, lg_cmp_gt, q_i64lt]
  split
  · rfl
  · split <;> rfl
theorem q_inY {x y z : Int32} {a b : Int64} (ha : a = y.toInt64) (hb : b = z.toInt64) (h1 : y ≤ x) (h2 : x ≤ z) : f_X_in x.toInt64 a b = some 1 := by
  rw [q_in ha hb, if_neg (Int32.not_lt.mpr h1), if_neg (Int32.not_lt.mpr h2)]
theorem q_inL {x y z : Int32} {a b : Int64} (ha : a = y.toInt64) (hb : b = z.toInt64) (h1 : x < y) : f_X_in x.toInt64 a b = some 0 := by
  rw [q_in ha hb, if_pos h1]
theorem q_inR {x y z : Int32} {a b : Int64} (ha : a = y.toInt64) (hb : b = z.toInt64) (h1 : z < x) : f_X_in x.toInt64 a b = some 0 := by
  rw [q_in ha hb, if_pos h1]
  split <;> rfl
theorem q_has {m i : Nat} (hm : m < 2 ^ 31) (hi : i < 32) : f_X_has (nI m) (nI i) = some (if m.testBit i then 1 else 0) := by
  unfold f_X_has
  simp only [pu_bit1 hm hi]
  split <;> rfl
theorem q_lit10 : (10 : Int32) = nI 10 := rfl
theorem q_bits_4 {m : Nat} (hm : m < 2 ^ 31) : ∀ k n i, i + k = 10 → k < n → f_X_bitsOf_4 (nI m) n (nI (pc m i)) (nI i) = some (nI (pc m 10))
  | 0, n, i, hk, hn => by
    obtain ⟨n, rfl, _⟩ := q_fu hn
    obtain rfl : i = 10 := by omega
    rw [f_X_bitsOf_4, if_pos (by decide)]
  | k + 1, n, i, hk, hn => by
    obtain ⟨n, rfl, hn'⟩ := q_fu hn
    rw [f_X_bitsOf_4, q_lit10, if_neg (by rw [pu_le (by omega) (by omega)]; omega), pu_bit hm (by omega), pu_add, pu_one]
    exact q_bits_4 hm k n (i + 1) (by omega) (by omega)
theorem q_bits {m : Nat} (hm : m < 2 ^ 31) : f_X_bitsOf (nI m) = some (nI (pc m 10)) := q_bits_4 hm 10 600 0 (by omega) (by omega)
/-- masks, by their places -/
def mz (P : Nat → Bool) : Int32 := nI (ms P 10)
theorem mz_bit {P : Nat → Bool} {i : Nat} (hi : i < 10) : (ms P 10).testBit i = P i := by rw [ms_bit]; simp [hi]
theorem mz_congr {P Q : Nat → Bool} (h : ∀ i, i < 10 → P i = Q i) : mz P = mz Q := congrArg nI (ms_congr 10 h)
theorem mz_lt (P : Nat → Bool) : ms P 10 < 2 ^ 31 := Nat.lt_trans (ms_10 P) (by decide)
theorem mz_has {P : Nat → Bool} {i : Nat} (hi : i < 10) : f_X_has (mz P) (nI i) = some (if P i then 1 else 0) := by
  unfold mz
  rw [q_has (mz_lt P) (by omega), mz_bit hi]
theorem mz_b1 {P : Nat → Bool} {i : Nat} (hi : i < 10) : ((mz P >>> (nI i &&& 31)) &&& 1 = 1) = (P i = true) := by
  unfold mz
  rw [pu_bit1 (mz_lt P) (by omega), mz_bit hi]
theorem mz_bv {P : Nat → Bool} {i : Nat} (hi : i < 10) : ((mz P >>> (nI i &&& 31)) &&& 1) = if P i then 1 else 0 := by
  unfold mz
  rw [pu_bit (mz_lt P) (by omega), mz_bit hi]
  cases P i <;> rfl
theorem mz_stop {P : Nat → Bool} {i : Nat} (hi : i < 32) (h : mz P >>> (nI i &&& 31) = 0) : ∀ j, i ≤ j → j < 10 → P j = false := by
  intro j h1 h2
  rw [← mz_bit (P := P) h2]
  exact pu_shr0 (mz_lt P) hi h j h1
theorem mz_0 : mz (fun _ => false) = 0 := rfl
theorem mz_eq0 {P : Nat → Bool} (h : mz P = 0) : ∀ i, i < 10 → P i = false := by
  intro i hi
  have h0 : ms P 10 = 0 := pu_inj (b := 0) (mz_lt P) (by decide) h
  rw [← mz_bit (P := P) hi, h0]; simp
theorem mz_inj {P Q : Nat → Bool} (h : mz P = mz Q) : ∀ i, i < 10 → P i = Q i := by
  intro i hi
  have h0 := pu_inj (mz_lt P) (mz_lt Q) h
  rw [← mz_bit (P := P) hi, h0, mz_bit hi]
theorem mz_bits (P : Nat → Bool) : mkBits (mz P) = nI (pc (ms P 10) 10) := pu_bits (ms_10 P)
theorem mz_bitsX (P : Nat → Bool) : f_X_bitsOf (mz P) = some (nI (pc (ms P 10) 10)) := q_bits (mz_lt P)
theorem mz_ext {a : Int32} {P : Nat → Bool} (h : ∀ i, i < 32 → a.toBitVec.getLsbD i = (decide (i < 10) && P i)) : a = mz P := by
  apply Int32.toBitVec_inj.mp
  apply BitVec.eq_of_getLsbD_eq
  intro i hi
  rw [h i hi]
  unfold mz
  rw [← BitVec.testBit_toNat, pk_tn (Nat.lt_trans (ms_10 _) (by decide)), ms_bit]
theorem mz_getLsbD {P : Nat → Bool} {i : Nat} : (mz P).toBitVec.getLsbD i = (decide (i < 10) && P i) := by
  unfold mz
  rw [← BitVec.testBit_toNat, pk_tn (Nat.lt_trans (ms_10 _) (by decide)), ms_bit]
theorem mz_and (P Q : Nat → Bool) : mz P &&& mz Q = mz (fun i => P i && Q i) := by
  apply mz_ext
  intro i hi
  rw [Int32.toBitVec_and, BitVec.getLsbD_and, mz_getLsbD, mz_getLsbD]
  cases decide (i < 10) <;> simp
theorem mz_or (P Q : Nat → Bool) : mz P ||| mz Q = mz (fun i => P i || Q i) := by
  apply mz_ext
  intro i hi
  rw [Int32.toBitVec_or, BitVec.getLsbD_or, mz_getLsbD, mz_getLsbD]
  cases decide (i < 10) <;> simp
theorem mz_anot (P Q : Nat → Bool) : mz P &&& (mz Q ^^^ (-1)) = mz (fun i => P i && !Q i) := by
  show nI (ms P 10) &&& (nI (ms Q 10) ^^^ (-1)) = _
  rw [pu_anot (ms_10 P) (ms_10 Q)]
  exact mz_congr (fun i hi => by rw [mz_bit hi, mz_bit hi])
theorem mz_one {i : Nat} (hi : i < 10) : (1 : Int32) <<< (nI i &&& 31) = mz (fun j => j == i) := by
  have : ∀ i, i < 10 → (1 : Int32) <<< (nI i &&& 31) = mz (fun j => j == i) := by decide +kernel
  exact this i hi
theorem mz_set {P : Nat → Bool} {i : Nat} (hi : i < 10) : mz P ||| (1 <<< (nI i &&& 31)) = mz (fun j => P j || j == i) := by
  rw [mz_one hi, mz_or]
theorem mz_or0 (P : Nat → Bool) : mz P ||| 0 = mz P := pu_or0 _
/-- prefix of a mask -/
def pf (P : Nat → Bool) (i : Nat) : Nat → Bool := fun j => decide (j < i) && P j
theorem pf_0 (P : Nat → Bool) : mz (pf P 0) = 0 := by
  rw [← mz_0]; exact mz_congr (fun i _ => by simp [pf])
theorem pf_no {P : Nat → Bool} {i : Nat} (h : P i = false) : mz (pf P i) = mz (pf P (i + 1)) := by
  apply mz_congr
  intro j _
  unfold pf
  rcases Nat.lt_trichotomy j i with q | q | q
  · simp [q, Nat.lt_succ_of_lt q]
  · subst q; simp [h]
  · simp [show ¬ j < i by omega, show ¬ j < i + 1 by omega]
theorem pf_yes {P : Nat → Bool} {i : Nat} (hi : i < 10) (h : P i = true) : mz (pf P i) ||| (1 <<< (nI i &&& 31)) = mz (pf P (i + 1)) := by
  rw [mz_set hi]
  apply mz_congr
  intro j _
  unfold pf
  rcases Nat.lt_trichotomy j i with q | q | q
  · simp [q, Nat.lt_succ_of_lt q, show ¬ j = i by omega]
  · subst q; simp [h]
  · simp [show ¬ j < i by omega, show ¬ j < i + 1 by omega, show ¬ j = i by omega]
theorem pf_end {P : Nat → Bool} {i : Nat} (h : ∀ j, i ≤ j → j < 10 → P j = false) : mz (pf P i) = mz P := by
  apply mz_congr
  intro j hj
  unfold pf
  rcases Nat.lt_or_ge j i with q | q
  · simp [q]
  · simp [show ¬ j < i by omega, h j q hj]
theorem lt_t {a b : Nat} (h : a < b) (hb : b < 2 ^ 31) : nI a < nI b := (nI_ltI (by omega) hb).mpr h
theorem lt_f {a b : Nat} (h : b ≤ a) (ha : a < 2 ^ 31) : ¬ nI a < nI b := fun q => by have := (nI_ltI ha (by omega)).mp q; omega
theorem le_t {a b : Nat} (h : a ≤ b) (hb : b < 2 ^ 31) : nI a ≤ nI b := (nI_leI (by omega) hb).mpr h
theorem le_f {a b : Nat} (h : b < a) (ha : a < 2 ^ 31) : ¬ nI a ≤ nI b := fun q => by have := (nI_leI ha (by omega)).mp q; omega
theorem eq_f {a b : Nat} (h : a ≠ b) (ha : a < 2 ^ 31) (hb : b < 2 ^ 31) : ¬ nI a = nI b := fun q => h ((nI_eq ha hb).mp q)
theorem mz_hasT {P : Nat → Bool} {i : Nat} (hi : i < 10) (h : P i = true) : f_X_has (mz P) (nI i) = some 1 := by rw [mz_has hi, if_pos h]
theorem mz_hasF {P : Nat → Bool} {i : Nat} (hi : i < 10) (h : P i = false) : f_X_has (mz P) (nI i) = some 0 := by rw [mz_has hi, if_neg (by rw [h]; decide)]
theorem mz_b1T {P : Nat → Bool} {i : Nat} (hi : i < 10) (h : P i = true) : (mz P >>> (nI i &&& 31)) &&& 1 = 1 := by rw [mz_b1 hi]; exact h
theorem mz_b1F {P : Nat → Bool} {i : Nat} (hi : i < 10) (h : P i = false) : ¬ (mz P >>> (nI i &&& 31)) &&& 1 = 1 := by rw [mz_b1 hi, h]; decide
theorem le_f0 {a : Nat} (h : 0 < a) (ha : a < 2 ^ 31) : ¬ nI a ≤ 0 := le_f (b := 0) h ha
theorem eq_f0 {a : Nat} (h : a ≠ 0) (ha : a < 2 ^ 31) : ¬ nI a = 0 := eq_f (b := 0) h ha (by omega)
theorem lt_f0 {a : Nat} (ha : a < 2 ^ 31) : ¬ nI a < 0 := lt_f (b := 0) (by omega) ha
