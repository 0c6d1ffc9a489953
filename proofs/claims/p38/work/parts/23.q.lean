/-! pure: bits taken by both sides -/
def bi (b : Bool) : Int32 := if b then 1 else 0
def tb (d : Nat → Nat) (i k : Nat) : Bool := (d (27 + i)).testBit (d (17 + i) - 1 - k % d (17 + i))
theorem q_bw {d : Nat → Nat} (hB : mk_BD d) {i : Nat} (h : i < d 4) : 1 ≤ d (17 + i) ∧ d (17 + i) ≤ 12 ∧ d (27 + i) < 4096 := by
  obtain ⟨_, _, _, _, h4, _, _, _, hs, _⟩ := hB
  obtain ⟨_, h1, h2, h3⟩ := hs i h
  refine ⟨h1, h2, Nat.lt_of_lt_of_le h3 ?_⟩
  exact Nat.pow_le_pow_right (n := 2) (by omega) h2
theorem q_bitv {d : Nat → Nat} (hB : mk_BD d) {i k : Nat} (h : i < d 4) (hk : k < 2 ^ 30) : (nI (d (27 + i)) >>> (((nI (d (17 + i)) - 1) - (nI k - nI k / nI (d (17 + i)) * nI (d (17 + i)))) &&& 31)) &&& 1 = bi (tb d i k) := by
  obtain ⟨h1, h2, h3⟩ := q_bw hB h
  have hr := Nat.mod_lt k (show d (17 + i) > 0 by omega)
  rw [pk_rem (by omega) (by omega) (by omega), show nI (d (17 + i)) - 1 = nI (d (17 + i) - 1) from pk_sub h1, pk_sub (by omega), pu_bit (by omega) (by omega)]
  unfold bi tb
  cases (d (27 + i)).testBit (d (17 + i) - 1 - k % d (17 + i)) <;> rfl
theorem q_nextBit {d : Nat → Nat} {u w : Nat → Nat → Int32} (hB : mk_BD d) (hC : mk_CQ u d) {i k : Nat} (h : i < d 4) (hk : k < 2 ^ 30) (hw : w 7 i = nI k) : f_Y_nextBit u w (nI i) = some (bi (tb d i k), upR 7 (upd (w 7) i (nI (k + 1))) w) := by
  have h4 : d 4 ≤ 10 := hB.2.2.2.2.1
  obtain ⟨h1, h2, h3⟩ := q_bw hB h
  obtain ⟨c7, c8, c9⟩ := hC.2.2.2.2.2.2.2.1 i h
  have hne : ¬ nI (d (17 + i)) = 0 := eq_f (b := 0) (by omega) (by omega) (by omega)
  unfold f_Y_nextBit
  rw [mkAt_ok (f := u 8) (by omega) (by omega), mkAt_ok (f := u 9) (by omega) (by omega), mkAt_ok (f := w 7) (by omega) (by omega), mkPut_ok (by omega) (by omega), c8, c9, hw, if_neg (le_f0 (by omega) (by omega)), gN, if_neg hne, q_bitv hB h hk, pu_one]
theorem q_takesBit {d : Nat → Nat} {x : Nat → Nat → Int32} (hB : mk_BD d) (hM : mk_MP (x 0) d) {i k : Nat} (h : i < d 4) (hk : k < 2 ^ 30) (hw : x 27 i = nI k) : f_X_takesBit x (nI i) = some (bi (tb d i k), upR 27 (upd (x 27) i (nI (k + 1))) x) := by
  have h4 : d 4 ≤ 10 := hB.2.2.2.2.1
  obtain ⟨h1, h2, h3⟩ := q_bw hB h
  have hne : ¬ nI (d (17 + i)) = 0 := eq_f (b := 0) (by omega) (by omega) (by omega)
  unfold f_X_takesBit f_X_bitOf
  rw [gI_ok (by omega) (by omega), q_p27, q_p17, gI_ok (by omega) (by omega), gI_ok (by omega) (by omega), pu_cl (by omega), pu_cl (by omega), pu_cl (by omega), hM, hM, hw, gN, if_neg hne, q_bitv hB h hk, b1_k, pu_one]
def kk (P : Nat → Bool) (k : Nat → Nat) (i j : Nat) : Nat := k j + if pf P i j then 1 else 0
theorem kk_no {P : Nat → Bool} {k : Nat → Nat} {i : Nat} (h : P i = false) (j : Nat) : kk P k i j = kk P k (i + 1) j := by
  unfold kk pf
  rcases Nat.lt_trichotomy j i with q | q | q
  · simp [q, Nat.lt_succ_of_lt q]
  · subst q; simp [h]
  · simp [show ¬ j < i by omega, show ¬ j < i + 1 by omega]
theorem kk_at {P : Nat → Bool} {k : Nat → Nat} {i : Nat} : kk P k i i = k i := by
  unfold kk pf; simp
theorem kk_yes {P : Nat → Bool} {k : Nat → Nat} {i : Nat} (h : P i = true) {f : Nat → Int32} (m : Nat) (hf : ∀ j, j < m → f j = nI (kk P k i j)) : ∀ j, j < m → upd f i (nI (k i + 1)) j = nI (kk P k (i + 1) j) := by
  intro j hj
  rcases Nat.lt_trichotomy j i with q | q | q
  · rw [upd_n (by omega), hf j hj]; unfold kk pf; simp [q, Nat.lt_succ_of_lt q]
  · subst q; rw [upd_s]; unfold kk pf; simp [h]
  · rw [upd_n (by omega), hf j hj]; unfold kk pf; simp [show ¬ j < i by omega, show ¬ j < i + 1 by omega]
theorem kk_end {P : Nat → Bool} {k : Nat → Nat} {i : Nat} (h : ∀ j, i ≤ j → j < 10 → P j = false) {j : Nat} (hj : j < 10) : kk P k i j = kk P k 10 j := by
  unfold kk pf
  rcases Nat.lt_or_ge j i with q | q
  · simp [q, hj]
  · simp [show ¬ j < i by omega, h j q hj]
theorem q_takeBits_4 {d : Nat → Nat} {u : Nat → Nat → Int32} (hB : mk_BD d) (hC : mk_CQ u d) {P : Nat → Bool} {k : Nat → Nat} (hP : ∀ i, i < 10 → P i = true → i < d 4) (hk : ∀ i, k i < 2 ^ 30) : ∀ kf n i (w : Nat → Nat → Int32), i + kf = 10 → kf < n → (∀ j, j < d 4 → w 7 j = nI (kk P k i j)) → ∃ g, f_Y_takeBits_4 u (mz P) n (mz (pf (fun j => P j && !tb d j (k j)) i)) (nI i) w = some (mz (fun j => P j && !tb d j (k j)), upR 7 g w) ∧ ∀ j, j < d 4 → g j = nI (kk P k 10 j)
  | kf, n, i, w, hi, hn, hw => by
    have h4 : d 4 ≤ 10 := hB.2.2.2.2.1
    have h5 : u 5 0 = nI (d 4) := hC.2.2.2.2.2.1
    obtain ⟨n, rfl, hn'⟩ := q_fu hn
    have fin : (∀ j, i ≤ j → j < 10 → P j = false) → ∃ g, some (mz (pf (fun j => P j && !tb d j (k j)) i), w) = some (mz (fun j => P j && !tb d j (k j)), upR 7 g w) ∧ ∀ j, j < d 4 → g j = nI (kk P k 10 j) := by
      intro hh
      refine ⟨w 7, ?_, fun j hj => by rw [hw j hj, kk_end hh (by omega)]⟩
      rw [upR_self, pf_end]
      intro j h1 h2
      rw [hh j h1 h2]; rfl
    rw [f_Y_takeBits_4, h5]
    by_cases h1 : d 4 ≤ i
    · rw [if_pos (le_t h1 (by omega))]
      refine fin (fun j hj hj' => ?_)
      cases hPj : P j
      · rfl
      · have := hP j hj' hPj; omega
    rw [if_neg (le_f (Nat.lt_of_not_le h1) (by omega))]
    by_cases h2 : mz P >>> (nI i &&& 31) = 0
    · rw [if_pos h2]
      exact fin (mz_stop (by omega) h2)
    obtain ⟨kf, rfl⟩ : ∃ k', kf = k' + 1 := ⟨kf - 1, by omega⟩
    have hi' : i < 10 := by omega
    rw [if_neg h2, pu_one]
    cases hp : P i
    · rw [if_neg (mz_b1F hi' hp), pf_no (by simp [hp])]
      exact q_takeBits_4 hB hC hP hk kf n (i + 1) w (by omega) (by omega) (fun j hj => by rw [hw j hj, kk_no hp])
    · have hwi : w 7 i = nI (k i) := by rw [hw i (by omega), kk_at]
      rw [if_pos (mz_b1T hi' hp), q_nextBit hB hC (by omega) (hk i) hwi, b2_k]
      obtain ⟨g, hg, hg'⟩ := q_takeBits_4 hB hC hP hk kf n (i + 1) (upR 7 (upd (w 7) i (nI (k i + 1))) w) (by omega) (by omega) (by rw [upR_s]; exact kk_yes hp _ hw)
      refine ⟨g, ?_, hg'⟩
      rw [upR_R] at hg
      cases ht : tb d i (k i)
      · rw [if_pos (show bi false = 0 from rfl), pf_yes hi' (by simp [hp, ht])]; exact hg
      · rw [if_neg (show ¬ bi true = 0 by decide), pf_no (by simp [ht])]; exact hg
theorem q_takeBits {d : Nat → Nat} {u : Nat → Nat → Int32} (hB : mk_BD d) (hC : mk_CQ u d) {P : Nat → Bool} {k : Nat → Nat} (hP : ∀ i, i < 10 → P i = true → i < d 4) (hk : ∀ i, k i < 2 ^ 30) (w : Nat → Nat → Int32) (hw : ∀ j, j < d 4 → w 7 j = nI (k j)) : ∃ g, f_Y_takeBits u w (mz P) = some (mz (fun j => P j && !tb d j (k j)), upR 7 g w) ∧ ∀ j, j < d 4 → g j = nI (kk P k 10 j) := by
  have := q_takeBits_4 hB hC hP hk 10 600 0 w (by omega) (by omega) (fun j hj => by rw [hw j hj]; unfold kk pf; simp)
  rw [pf_0] at this
  exact this
theorem q_splits_68 {d : Nat → Nat} (hB : mk_BD d) {P : Nat → Bool} {k : Nat → Nat} (hP : ∀ i, i < 10 → P i = true → i < d 4) (hk : ∀ i, k i < 2 ^ 30) (v1 v4 : Int32) : ∀ kf n i (x : Nat → Nat → Int32), i + kf = 10 → kf < n → mk_MP (x 0) d → (∀ j, j < d 4 → x 27 j = nI (kk P k i j)) → ∃ g, f_X_splits_68 n v1 (mz P) (mz (pf (fun j => P j && tb d j (k j)) i)) v4 (nI i) x = f_X_splits_111 v1 (mz P) (mz (fun j => P j && tb d j (k j))) v4 (upR 27 g x) ∧ ∀ j, j < d 4 → g j = nI (kk P k 10 j)
  | 0, n, i, x, hi, hn, hM, hw => by
    have h4 : d 4 ≤ 10 := hB.2.2.2.2.1
    obtain ⟨n, rfl, hn'⟩ := q_fu hn
    obtain rfl : i = 10 := by omega
    refine ⟨x 27, ?_, hw⟩
    rw [f_X_splits_68, if_pos (by decide), upR_self, pf_end (fun j h1 h2 => by omega)]
  | kf + 1, n, i, x, hi, hn, hM, hw => by
    have h4 : d 4 ≤ 10 := hB.2.2.2.2.1
    obtain ⟨n, rfl, hn'⟩ := q_fu hn
    have hi' : i < 10 := by omega
    rw [f_X_splits_68, if_neg (by rw [q_le10 (by omega)]; omega), pu_one]
    cases hp : P i
    · rw [mz_hasF hi' hp, b1_k, if_pos rfl, mz_or0, pf_no (by simp [hp])]
      exact q_splits_68 hB hP hk v1 v4 kf n (i + 1) x (by omega) (by omega) hM (fun j hj => by rw [hw j hj, kk_no hp])
    · have hi4 := hP i hi' hp
      have hwi : x 27 i = nI (k i) := by rw [hw i hi4, kk_at]
      rw [mz_hasT hi' hp, b1_k, if_neg (by decide), q_takesBit hB hM hi4 (hk i) hwi, b2_k]
      obtain ⟨g, hg, hg'⟩ := q_splits_68 hB hP hk v1 v4 kf n (i + 1) (upR 27 (upd (x 27) i (nI (k i + 1))) x) (by omega) (by omega) (by rw [upR_n (by decide)]; exact hM) (by rw [upR_s]; exact kk_yes hp _ hw)
      refine ⟨g, ?_, hg'⟩
      rw [upR_R] at hg
      cases ht : tb d i (k i)
      · rw [if_neg (show ¬ bi false = 1 by decide), mz_or0, pf_no (by simp [ht])]; exact hg
      · rw [if_pos (show bi true = 1 from rfl), pf_yes hi' (by simp [hp, ht])]; exact hg
