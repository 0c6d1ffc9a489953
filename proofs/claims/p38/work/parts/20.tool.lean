/-! pure tools: states, numbers, masks -/
theorem upR_s {α : Type} {k : Nat} {g : Nat → α} {u : Nat → Nat → α} : upR k g u k = g := by
  unfold upR
  rw [Nat.beq_refl]
theorem upR_n {α : Type} {k j : Nat} {g : Nat → α} {u : Nat → Nat → α} (h : j ≠ k) : upR k g u j = u j := by
  unfold upR
  rw [show Nat.beq j k = false by cases hb : Nat.beq j k with | false => rfl | true => exact absurd (Nat.eq_of_beq_eq_true hb) h]
theorem upF_s {α : Type} {k : Nat} {v : α} {u : Nat → Nat → α} : upF k v u k = fun _ => v := by
  unfold upF
  rw [Nat.beq_refl]
theorem upF_n {α : Type} {k j : Nat} {v : α} {u : Nat → Nat → α} (h : j ≠ k) : upF k v u j = u j := by
  unfold upF
  rw [show Nat.beq j k = false by cases hb : Nat.beq j k with | false => rfl | true => exact absurd (Nat.eq_of_beq_eq_true hb) h]
theorem upR_R {α : Type} {k : Nat} {g g' : Nat → α} {u : Nat → Nat → α} : upR k g (upR k g' u) = upR k g u := by
  funext j
  by_cases h : j = k
  · subst h; rw [upR_s, upR_s]
  · rw [upR_n h, upR_n h, upR_n h]
theorem upF_F {α : Type} {k : Nat} {g g' : α} {u : Nat → Nat → α} : upF k g (upF k g' u) = upF k g u := by
  funext j
  by_cases h : j = k
  · subst h; rw [upF_s, upF_s]
  · rw [upF_n h, upF_n h, upF_n h]
theorem upR_self {α : Type} {k : Nat} {u : Nat → Nat → α} : upR k (u k) u = u := by
  funext j
  by_cases h : j = k
  · subst h; rw [upR_s]
  · rw [upR_n h]
theorem pu_lit (n : Nat) : (OfNat.ofNat n : Int32) = nI n := rfl
theorem pu_add (a b : Nat) : nI a + nI b = nI (a + b) := nI_add a b
theorem pu_one (a : Nat) : nI a + 1 = nI (a + 1) := nI_1 a
theorem pu_sub {a b : Nat} (h : b ≤ a) : nI a - nI b = nI (a - b) := pk_sub h
theorem pu_le {a b : Nat} (ha : a < 2 ^ 31) (hb : b < 2 ^ 31) : (nI a ≤ nI b) = (a ≤ b) := propext (nI_leI ha hb)
theorem pu_lt {a b : Nat} (ha : a < 2 ^ 31) (hb : b < 2 ^ 31) : (nI a < nI b) = (a < b) := propext (nI_ltI ha hb)
theorem pu_eq {a b : Nat} (ha : a < 2 ^ 31) (hb : b < 2 ^ 31) : (nI a = nI b) = (a = b) := propext (nI_eq ha hb)
theorem pu_inj {a b : Nat} (ha : a < 2 ^ 31) (hb : b < 2 ^ 31) (h : nI a = nI b) : a = b := (nI_eq ha hb).mp h
theorem pu_cl {a : Nat} (h : a < 2 ^ 31) : (nI a).toNatClampNeg = a := nI_clamp h
theorem pu_m1 (a : Nat) : nI a - 1 = nI a + (-1) := by
  apply Int32.toInt_inj.mp; simp [Int32.toInt_sub, Int32.toInt_add]; rfl
theorem pu_s1 (a : Nat) : nI (a + 1) - 1 = nI a := nI_pred a
theorem pu_nm1 {a : Nat} (h : a < 2 ^ 31) : ¬ nI a = -1 := by
  intro e
  have := congrArg Int32.toInt e
  rw [nI_toInt h] at this
  have h2 : (-1 : Int32).toInt = -1 := rfl
  omega
theorem pu_z1 : nI 0 - 1 = -1 := rfl
/-- guards that hold -/
theorem gI_ok {α : Type} {a n : Nat} {k : Option α} (h : a < n) (hn : n < 2 ^ 31) : gI (nI a) n k = k := by
  unfold gI
  rw [if_neg]
  rintro (q | q)
  · exact nI_pos (by omega) q
  · rw [nI_clamp (by omega)] at q; omega
theorem mkAt_ok {n a : Nat} {f : Nat → Int32} (h : a < n) (hn : n < 2 ^ 31) : mkAt n f (nI a) = f a := by
  unfold mkAt
  rw [if_pos (nI_pos' (by omega)), if_pos (nI_lt h hn), nI_clamp (by omega)]
theorem mkPut_ok {n a : Nat} {f : Nat → Int32} {v : Int32} (h : a < n) (hn : n < 2 ^ 31) : mkPut n f (nI a) v = upd f a v := by
  unfold mkPut
  rw [if_pos (nI_pos' (by omega)), if_pos (nI_lt h hn), nI_clamp (by omega)]
theorem upd_s {f : Nat → Int32} {k : Nat} {x : Int32} : upd f k x k = x := pk_us
theorem upd_n {f : Nat → Int32} {k j : Nat} {x : Int32} (h : j ≠ k) : upd f k x j = f j := pk_un h
theorem upd_u {f : Nat → Int32} {k : Nat} {x y : Int32} : upd (upd f k x) k y = upd f k y := by
  funext j
  unfold upd
  by_cases h : j = k
  · rw [if_pos h, if_pos h]
  · rw [if_neg h, if_neg h, if_neg h]
theorem gZ0 {α : Type} {k : Option α} : gZ 0 k = k := by unfold gZ; rw [if_pos (Or.inl rfl)]
theorem gZ1 {α : Type} {k : Option α} : gZ 1 k = k := by unfold gZ; rw [if_pos (Or.inr rfl)]
theorem b1_k {A R : Type} (a : A) (k : A → Option R) : b1 (some a) k = k a := rfl
theorem b2_k {A B R : Type} (a : A) (b : B) (k : A → B → Option R) : b2 (some (a, b)) k = k a b := rfl
theorem b3_k {A B C R : Type} (a : A) (b : B) (c : C) (k : A → B → C → Option R) : b3 (some (a, b, c)) k = k a b c := rfl
theorem b4_k {A B C D R : Type} (a : A) (b : B) (c : C) (d : D) (k : A → B → C → D → Option R) : b4 (some (a, b, c, d)) k = k a b c d := rfl
/-! masks of ten places -/
def ms (P : Nat → Bool) : Nat → Nat
  | 0 => 0
  | n + 1 => ms P n + if P n then 2 ^ n else 0
theorem ms_lt (P : Nat → Bool) : ∀ n, ms P n < 2 ^ n
  | 0 => by show 0 < 1; omega
  | n + 1 => by
    have h := ms_lt P n
    show ms P n + (if P n then 2 ^ n else 0) < 2 ^ (n + 1)
    have : 2 ^ (n + 1) = 2 ^ n + 2 ^ n := by omega
    split <;> omega
theorem ms_10 (P : Nat → Bool) : ms P 10 < 1024 := ms_lt P 10
theorem ms_bit (P : Nat → Bool) : ∀ n i, (ms P n).testBit i = (decide (i < n) && P i)
  | 0, i => by simp [ms]
  | n + 1, i => by
    have h := ms_bit P n i
    have hl := ms_lt P n
    show (ms P n + if P n then 2 ^ n else 0).testBit i = _
    by_cases hP : P n = true
    · rw [if_pos hP, Nat.add_comm]
      rcases Nat.lt_trichotomy i n with q | q | q
      · rw [Nat.testBit_two_pow_add_gt q, h]
        simp [q, Nat.lt_succ_of_lt q]
      · subst q
        rw [Nat.testBit_two_pow_add_eq, Nat.testBit_lt_two_pow hl]
        simp [hP]
      · have hx : 2 ^ n + ms P n < 2 ^ i := by
          have : 2 ^ (n + 1) ≤ 2 ^ i := Nat.pow_le_pow_right (by omega) (by omega)
          have : 2 ^ (n + 1) = 2 ^ n + 2 ^ n := by omega
          omega
        rw [Nat.testBit_lt_two_pow hx]
        simp [show ¬ i < n + 1 by omega]
    · rw [if_neg hP, Nat.add_zero, h]
      rcases Nat.lt_trichotomy i n with q | q | q
      · simp [q, Nat.lt_succ_of_lt q]
      · subst q; simp [hP]
      · simp [show ¬ i < n by omega, show ¬ i < n + 1 by omega]
theorem ms_congr {P Q : Nat → Bool} : ∀ n, (∀ i, i < n → P i = Q i) → ms P n = ms Q n
  | 0, _ => rfl
  | n + 1, h => by
    show ms P n + _ = ms Q n + _
    rw [ms_congr n (fun i hi => h i (by omega)), h n (by omega)]
theorem ms_ext {a b : Nat} (ha : a < 1024) (hb : b < 1024) (h : ∀ i, i < 10 → a.testBit i = b.testBit i) : a = b := by
  apply Nat.eq_of_testBit_eq
  intro i
  rcases Nat.lt_or_ge i 10 with q | q
  · exact h i q
  · have h1 : 2 ^ 10 ≤ 2 ^ i := Nat.pow_le_pow_right (by omega) q
    rw [Nat.testBit_lt_two_pow (by omega), Nat.testBit_lt_two_pow (by omega)]
theorem ms_self {m : Nat} (h : m < 1024) : ms (fun i => m.testBit i) 10 = m :=
  ms_ext (ms_10 _) h (fun i hi => by rw [ms_bit]; simp [hi])
/-- no bit from i on -/
theorem ms_stop {P : Nat → Bool} {i n : Nat} (hin : i ≤ n) (h : ∀ j, i ≤ j → j < n → P j = false) : ms P i = ms P n := by
  induction n with
  | zero => obtain rfl : i = 0 := by omega
            rfl
  | succ n ih =>
    rcases Nat.lt_or_ge i (n + 1) with q | q
    · show _ = ms P n + _
      rw [h n (by omega) (by omega), ← ih (by omega) (fun j h1 h2 => h j h1 (by omega))]
      simp
    · obtain rfl : i = n + 1 := by omega
      rfl
theorem pu_31 {i : Nat} (hi : i < 32) : ((nI i &&& 31).toBitVec.smod 32).toNat = i := by
  have : ∀ i, i < 32 → ((nI i &&& 31).toBitVec.smod 32).toNat = i := by decide +kernel
  exact this i hi
theorem pu_shr {m i : Nat} (hm : m < 2 ^ 31) (hi : i < 32) : nI m >>> (nI i &&& 31) = nI (m / 2 ^ i) := pk_shrN hm _ i (pu_31 hi)
theorem pu_sh1 {i : Nat} (hi : i < 31) : (1 : Int32) <<< (nI i &&& 31) = nI (2 ^ i) := by
  have : ∀ i, i < 31 → (1 : Int32) <<< (nI i &&& 31) = nI (2 ^ i) := by decide +kernel
  exact this i hi
theorem pu_and1 {m : Nat} (hm : m < 2 ^ 31) : nI m &&& 1 = nI (m % 2) := pk_andN (by omega) 1 rfl
theorem pu_bit {m i : Nat} (hm : m < 2 ^ 31) (hi : i < 32) : (nI m >>> (nI i &&& 31)) &&& 1 = nI (if m.testBit i then 1 else 0) := by
  rw [pu_shr hm hi, pu_and1 (Nat.lt_of_le_of_lt (Nat.div_le_self _ _) hm)]
  congr 1
  rw [Nat.testBit_eq_decide_div_mod_eq]
  have : m / 2 ^ i % 2 < 2 := Nat.mod_lt _ (by omega)
  by_cases h : m / 2 ^ i % 2 = 1
  · simp [h]
  · simp [h]; omega
theorem pu_bit1 {m i : Nat} (hm : m < 2 ^ 31) (hi : i < 32) : ((nI m >>> (nI i &&& 31)) &&& 1 = 1) = (m.testBit i = true) := by
  rw [pu_bit hm hi]
  cases m.testBit i <;> simp
  · decide
  · rfl
theorem pu_shr0 {m i : Nat} (hm : m < 2 ^ 31) (hi : i < 32) (h : nI m >>> (nI i &&& 31) = 0) : ∀ j, i ≤ j → m.testBit j = false := by
  rw [pu_shr hm hi] at h
  have h0 : m / 2 ^ i = 0 := pu_inj (Nat.lt_of_le_of_lt (Nat.div_le_self _ _) hm) (by decide) h
  intro j hj
  have h1 : m < 2 ^ i := by
    rcases Nat.div_eq_zero_iff.mp h0 with q | q
    · have : 0 < 2 ^ i := Nat.pos_of_ne_zero (by simp)
      omega
    · exact q
  exact Nat.testBit_lt_two_pow (Nat.lt_of_lt_of_le h1 (Nat.pow_le_pow_right (by omega) hj))
theorem pu_or {P : Nat → Bool} {i : Nat} (hi : i < 31) (hP : P i = true) : nI (ms P i) ||| (1 <<< (nI i &&& 31)) = nI (ms P (i + 1)) := by
  have hlt := ms_lt P i
  have h2 : 2 ^ i ≤ 2 ^ 30 := Nat.pow_le_pow_right (by omega) (by omega)
  have h3 : ms P (i + 1) < 2 ^ 32 := by
    have h4 := ms_lt P (i + 1)
    have h5 : 2 ^ (i + 1) = 2 ^ i + 2 ^ i := by omega
    omega
  rw [pu_sh1 hi]
  apply Int32.toBitVec_inj.mp
  apply BitVec.eq_of_toNat_eq
  show (nI (ms P i) ||| nI (2 ^ i)).toBitVec.toNat = (nI (ms P (i + 1))).toBitVec.toNat
  rw [Int32.toBitVec_or, BitVec.toNat_or, pk_tn (by omega), pk_tn (by omega), pk_tn h3]
  show _ = ms P i + _
  rw [if_pos hP, Nat.or_comm]
  have := Nat.two_pow_add_eq_or_of_lt hlt 1
  rw [Nat.mul_one] at this
  omega
theorem pu_or0 (x : Int32) : x ||| 0 = x := by
  apply Int32.toBitVec_inj.mp
  simp
theorem ms_no {P : Nat → Bool} {i : Nat} (hP : P i = false) : ms P (i + 1) = ms P i := by
  show ms P i + _ = _
  rw [hP]; simp
theorem pu_anot {a b : Nat} (ha : a < 1024) (hb : b < 1024) : nI a &&& (nI b ^^^ (-1)) = nI (ms (fun i => a.testBit i && !b.testBit i) 10) := by
  apply Int32.toBitVec_inj.mp
  apply BitVec.eq_of_getLsbD_eq
  intro i hi
  have ta : (nI a).toBitVec.getLsbD i = a.testBit i := by rw [← BitVec.testBit_toNat, pk_tn (by omega)]
  have tb : (nI b).toBitVec.getLsbD i = b.testBit i := by rw [← BitVec.testBit_toNat, pk_tn (by omega)]
  have tm : ((-1 : Int32)).toBitVec.getLsbD i = true := by
    have : (-1 : Int32).toBitVec = BitVec.allOnes 32 := by decide
    rw [this, BitVec.getLsbD_allOnes]; simpa using hi
  have tc : (nI (ms (fun i => a.testBit i && !b.testBit i) 10)).toBitVec.getLsbD i = (decide (i < 10) && (a.testBit i && !b.testBit i)) := by
    rw [← BitVec.testBit_toNat, pk_tn (Nat.lt_trans (ms_10 _) (by decide)), ms_bit]
  rw [tc, Int32.toBitVec_and, BitVec.getLsbD_and, Int32.toBitVec_xor, BitVec.getLsbD_xor, ta, tb, tm]
  rcases Nat.lt_or_ge i 10 with q | q
  · simp [q]
  · have h1 : 2 ^ 10 ≤ 2 ^ i := Nat.pow_le_pow_right (by omega) q
    rw [Nat.testBit_lt_two_pow (show a < 2 ^ i by omega)]
    simp
/-- how many bits -/
def pc (m : Nat) : Nat → Nat
  | 0 => 0
  | n + 1 => pc m n + if m.testBit n then 1 else 0
theorem pu_bits {m : Nat} (h : m < 1024) : mkBits (nI m) = nI (pc m 10) := by
  have : ∀ m, m < 1024 → mkBits (nI m) = nI (pc m 10) := by decide +kernel
  exact this m h
theorem pc_le (m : Nat) : ∀ n, pc m n ≤ n
  | 0 => Nat.le_refl _
  | n + 1 => by
    have := pc_le m n
    show pc m n + _ ≤ _
    split <;> omega
/-- just one bit -/
theorem pc_one {m : Nat} (h : m < 1024) (h1 : pc m 10 = 1) : ∃ i, i < 10 ∧ m = 2 ^ i := by
  have : ∀ m, m < 1024 → pc m 10 = 1 → ∃ i, i < 10 ∧ m = 2 ^ i := by decide +kernel
  exact this m h h1
theorem pc_two {i : Nat} (h : i < 10) : pc (2 ^ i) 10 = 1 := by
  have : ∀ i, i < 10 → pc (2 ^ i) 10 = 1 := by decide +kernel
  exact this i h
