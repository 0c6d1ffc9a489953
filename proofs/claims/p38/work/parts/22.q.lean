/-! pure: the plan on both sides; moments; bits -/
def mk_BD (d : Nat → Nat) : Prop := d 0 ≤ 3 ∧ d 1 ≤ 200 ∧ d 2 ≤ 9 ∧ d 3 ≤ 20 ∧ d 4 ≤ 10 ∧ d 5 ≤ 10 ∧ d 6 ≤ 501 ∧ (d 6 = 0 ↔ d 1 = 0) ∧ (∀ i, i < d 4 → d (7 + i) < 200 ∧ 1 ≤ d (17 + i) ∧ d (17 + i) ≤ 12 ∧ d (27 + i) < 2 ^ d (17 + i)) ∧ (∀ i, i < d 5 → d (37 + i) < 200 ∧ d (47 + i) ≤ 2)
def mk_CP (u : Nat → Nat → Int32) (d : Nat → Nat) : Prop := u 0 0 = nI (d 0) ∧ u 1 0 = nI (d 1) ∧ u 2 0 = nI (d 2) ∧ u 3 0 = nI (d 3) ∧ u 4 0 = nI (d 6) ∧ u 5 0 = nI (d 4) ∧ u 6 0 = nI (d 5) ∧ (∀ i, i < d 4 → u 7 i = nI (d (7 + i)) ∧ u 8 i = nI (d (17 + i)) ∧ u 9 i = nI (d (27 + i))) ∧ (∀ i, i < d 5 → u 10 i = nI (d (37 + i)) ∧ u 11 i = nI (d (47 + i)))
/-- a plan but for its law -/
def mk_CQ (u : Nat → Nat → Int32) (d : Nat → Nat) : Prop := True ∧ u 1 0 = nI (d 1) ∧ u 2 0 = nI (d 2) ∧ u 3 0 = nI (d 3) ∧ u 4 0 = nI (d 6) ∧ u 5 0 = nI (d 4) ∧ u 6 0 = nI (d 5) ∧ (∀ i, i < d 4 → u 7 i = nI (d (7 + i)) ∧ u 8 i = nI (d (17 + i)) ∧ u 9 i = nI (d (27 + i))) ∧ (∀ i, i < d 5 → u 10 i = nI (d (37 + i)) ∧ u 11 i = nI (d (47 + i)))
theorem mk_CP.Q {u : Nat → Nat → Int32} {d : Nat → Nat} (h : mk_CP u d) : mk_CQ u d := ⟨trivial, h.2⟩
def mk_MP (g : Nat → Int32) (d : Nat → Nat) : Prop := ∀ j, g j = nI (d j)
theorem q_p7 (i : Nat) : (7 : Int32) + nI i = nI (7 + i) := nI_add 7 i
theorem q_p17 (i : Nat) : (17 : Int32) + nI i = nI (17 + i) := nI_add 17 i
theorem q_p27 (i : Nat) : (27 : Int32) + nI i = nI (27 + i) := nI_add 27 i
theorem q_p37 (i : Nat) : (37 : Int32) + nI i = nI (37 + i) := nI_add 37 i
theorem q_p47 (i : Nat) : (47 : Int32) + nI i = nI (47 + i) := nI_add 47 i
theorem q_16 (i : Nat) : (16 : Int32) * nI i = nI (16 * i) := pk_mul 16 i
theorem q_le10 {i : Nat} (h : i < 2 ^ 31) : ((10 : Int32) ≤ nI i) = (10 ≤ i) := pu_le (a := 10) (by omega) h
theorem q_m1lt {x b : Nat} (hx : x < 2 ^ 30) (hb : b < 2 ^ 30) : (nI b - 1 < nI x) = (b ≤ x) := by
  apply propext
  rw [Int32.lt_iff_toInt_lt, show (nI b - 1 : Int32) = nI b - nI 1 from rfl, pk_sub_toInt hb (by omega), nI_toInt (by omega)]
  omega
def mo (d : Nat → Nat) (i : Nat) : Nat := 16 * d (7 + i) + i
def win (d : Nat → Nat) (P : Nat → Bool) (a b : Nat) : Nat → Bool := fun i => P i && (decide (a ≤ mo d i) && decide (mo d i < b))
theorem mo_lt {d : Nat → Nat} (hB : mk_BD d) {i : Nat} (h : i < d 4) : mo d i < 3210 := by
  obtain ⟨_, _, _, _, h4, _, _, _, hs, _⟩ := hB
  have := (hs i h).1
  unfold mo
  omega
theorem q_momentP {d : Nat → Nat} {u : Nat → Nat → Int32} (hB : mk_BD d) (hC : mk_CQ u d) {i : Nat} (h : i < d 4) : f_P_moment u (nI i) = some (nI (mo d i)) := by
  obtain ⟨_, _, _, _, h4, _, _, _, hs, _⟩ := hB
  unfold f_P_moment mo
  rw [mkAt_ok (by omega) (by omega), (hC.2.2.2.2.2.2.2.1 i h).1, q_16, pu_add]
theorem q_within_6 {d : Nat → Nat} {u : Nat → Nat → Int32} (hB : mk_BD d) (hC : mk_CQ u d) {P : Nat → Bool} {a b : Nat} (hP : ∀ i, i < 10 → P i = true → i < d 4) (ha : a < 2 ^ 30) (hb : b < 2 ^ 30) : ∀ k n i, i + k = 10 → k < n → f_Y_within_6 u (mz P) (nI a) (nI b) n (mz (pf (win d P a b) i)) (nI i) = some (mz (win d P a b))
  | k, n, i, hk, hn => by
    have h4 : d 4 ≤ 10 := hB.2.2.2.2.1
    have h5 : u 5 0 = nI (d 4) := hC.2.2.2.2.2.1
    obtain ⟨n, rfl, hn'⟩ := q_fu hn
    rw [f_Y_within_6, h5]
    by_cases h1 : d 4 ≤ i
    · rw [if_pos (by rw [pu_le (by omega) (by omega)]; exact h1), pf_end]
      intro j hj hj'
      have := hP j hj'
      unfold win
      cases hPj : P j
      · rfl
      · have := this hPj; omega
    rw [if_neg (by rw [pu_le (by omega) (by omega)]; exact h1)]
    by_cases h2 : mz P >>> (nI i &&& 31) = 0
    · rw [if_pos h2, pf_end]
      intro j hj hj'
      unfold win
      rw [mz_stop (by omega) h2 j hj hj']; rfl
    obtain ⟨k, rfl⟩ : ∃ k', k = k' + 1 := ⟨k - 1, by omega⟩
    have hm := mo_lt hB (show i < d 4 by omega)
    have hi : i < 10 := by omega
    have go := q_within_6 hB hC hP ha hb k n (i + 1) (by omega) (by omega)
    rw [if_neg h2, q_momentP hB hC (by omega), b1_k, pu_one]
    cases hp : P i
    · rw [if_neg (mz_b1F hi hp), pf_no (by unfold win; simp [hp])]
      exact go
    · rw [if_pos (mz_b1T hi hp)]
      by_cases ha' : mo d i < a
      · rw [if_pos (lt_t ha' (by omega)), pf_no (by unfold win; simp [show ¬ a ≤ mo d i by omega])]; exact go
      rw [if_neg (lt_f (Nat.le_of_not_lt ha') (by omega))]
      by_cases hb' : b ≤ mo d i
      · rw [if_pos (le_t hb' (by omega)), pf_no (by unfold win; simp [show ¬ mo d i < b by omega])]; exact go
      rw [if_neg (le_f (Nat.lt_of_not_le hb') (by omega)), pf_yes hi (by unfold win; simp [hp, show a ≤ mo d i by omega, show mo d i < b by omega])]
      exact go
theorem q_within {d : Nat → Nat} {u : Nat → Nat → Int32} (hB : mk_BD d) (hC : mk_CQ u d) {P : Nat → Bool} {a b : Nat} (hP : ∀ i, i < 10 → P i = true → i < d 4) (ha : a < 2 ^ 30) (hb : b < 2 ^ 30) : f_Y_within u (mz P) (nI a) (nI b) = some (mz (win d P a b)) := by
  have := q_within_6 hB hC hP ha hb 10 600 0 (by omega) (by omega)
  rw [pf_0] at this
  exact this
theorem q_between_6 {d : Nat → Nat} {x : Nat → Nat → Int32} (hB : mk_BD d) (hM : mk_MP (x 0) d) {P : Nat → Bool} {a b : Nat} (hP : ∀ i, i < 10 → P i = true → i < d 4) (ha : a < 2 ^ 30) (hb : b < 2 ^ 30) : ∀ k n i, i + k = 10 → k < n → f_X_between_6 x (mz P) (nI a) (nI b) n (mz (pf (win d P a b) i)) (nI i) = some (mz (win d P a b))
  | 0, n, i, hk, hn => by
    obtain ⟨n, rfl, hn'⟩ := q_fu hn
    rw [f_X_between_6, if_pos (by rw [q_le10 (by omega)]; omega), pf_end]
    intro j hj hj'
    omega
  | k + 1, n, i, hk, hn => by
    obtain ⟨n, rfl, hn'⟩ := q_fu hn
    have hi : i < 10 := by omega
    have go := q_between_6 hB hM hP ha hb k n (i + 1) (by omega) (by omega)
    rw [f_X_between_6, if_neg (by rw [q_le10 (by omega)]; omega), pu_one]
    cases hp : P i
    · rw [mz_hasF hi hp, b1_k, if_pos rfl, mz_or0, pf_no (by unfold win; simp [hp])]
      exact go
    · have hm := mo_lt hB (hP i hi hp)
      have e : f_X_momentOf (nI (d (7 + i))) (nI i) = some (nI (mo d i)) := by
        unfold f_X_momentOf mo
        rw [q_16, pu_add]
      rw [mz_hasT hi hp, b1_k, if_neg (by decide), q_p7, gI_ok (by omega) (by omega), pu_cl (by omega), hM, e, b1_k]
      by_cases ha' : mo d i < a
      · rw [q_inL rfl rfl (lt_t ha' (by omega)), b1_k, if_pos rfl, mz_or0, pf_no (by unfold win; simp [show ¬ a ≤ mo d i by omega])]; exact go
      by_cases hb' : b ≤ mo d i
      · rw [q_inR rfl rfl (by rw [q_m1lt (by omega) (by omega)]; exact hb'), b1_k, if_pos rfl, mz_or0, pf_no (by unfold win; simp [show ¬ mo d i < b by omega])]; exact go
      rw [q_inY rfl rfl (le_t (by omega) (by omega)) (Int32.not_lt.mp (by rw [q_m1lt (by omega) (by omega)]; exact hb')), b1_k, if_neg (by decide), pf_yes hi (by unfold win; simp [hp, show a ≤ mo d i by omega, show mo d i < b by omega])]
      exact go
theorem q_between {d : Nat → Nat} {x : Nat → Nat → Int32} (hB : mk_BD d) (hM : mk_MP (x 0) d) {P : Nat → Bool} {a b : Nat} (hP : ∀ i, i < 10 → P i = true → i < d 4) (ha : a < 2 ^ 30) (hb : b < 2 ^ 30) : f_X_between x (mz P) (nI a) (nI b) = some (mz (win d P a b)) := by
  have := q_between_6 hB hM hP ha hb 10 600 0 (by omega) (by omega)
  rw [pf_0] at this
  exact this
