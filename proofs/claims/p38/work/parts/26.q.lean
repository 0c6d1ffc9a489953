/-! pure: who waits -/
def prs (d : Nat → Nat) (f : Nat → Int32) (ns : Int32) (t : Nat) : Nat → Bool := fun i => decide (i < d 4) && (!decide (nI i = ns) && (decide (d (7 + i) < t) && decide (f i = -1)))
theorem prs_iff {d : Nat → Nat} {f : Nat → Int32} {ns : Int32} {t i : Nat} : prs d f ns t i = true ↔ i < d 4 ∧ ¬ nI i = ns ∧ d (7 + i) < t ∧ f i = -1 := by
  unfold prs; simp
theorem q_waiting_4 {d : Nat → Nat} {x : Nat → Nat → Int32} {ns : Int32} (hB : mk_BD d) (hM : mk_MP (x 0) d) (hx : x 17 0 = ns) (t : Nat) (ht : t < 200) : ∀ k n i, i + k = d 4 → k < n → f_X_waiting_4 x (nI t) n (mz (pf (prs d (x 29) ns (t + 1)) i)) (nI i) = some (mz (prs d (x 29) ns (t + 1)))
  | 0, n, i, hk, hn => by
    have h4 : d 4 ≤ 10 := hB.2.2.2.2.1
    obtain ⟨n, rfl, hn'⟩ := q_fu hn
    rw [f_X_waiting_4, hM 4, if_pos (le_t (by omega) (by omega)), pf_end]
    intro j hj _
    unfold prs
    simp [show ¬ j < d 4 by omega]
  | k + 1, n, i, hk, hn => by
    have h4 : d 4 ≤ 10 := hB.2.2.2.2.1
    obtain ⟨n, rfl, hn'⟩ := q_fu hn
    obtain ⟨b1, b2⟩ := hB.2.2.2.2.2.2.2.2.1 i (by omega)
    have go := q_waiting_4 hB hM hx t ht k n (i + 1) (by omega) (by omega)
    rw [f_X_waiting_4, hM 4, if_neg (le_f (by omega) (by omega)), pu_one, mz_or0, hx]
    by_cases q1 : nI i = ns
    · rw [if_pos q1, pf_no (by unfold prs; simp [q1])]; exact go
    rw [if_neg q1, q_p7, gI_ok (by omega) (by omega), pu_cl (by omega), hM]
    by_cases q2 : t < d (7 + i)
    · rw [if_pos (lt_t q2 (by omega)), pf_no (by unfold prs; simp [show ¬ d (7 + i) < t + 1 by omega])]; exact go
    rw [if_neg (lt_f (by omega) (by omega)), gI_ok (by omega) (by omega), pu_cl (by omega)]
    by_cases q3 : x 29 i = -1
    · rw [if_pos q3, pf_yes (by omega) (by rw [prs_iff]; exact ⟨by omega, q1, by omega, q3⟩)]; exact go
    · rw [if_neg q3, pf_no (by unfold prs; simp [q3])]; exact go
theorem q_waiting {d : Nat → Nat} {x : Nat → Nat → Int32} {ns : Int32} (hB : mk_BD d) (hM : mk_MP (x 0) d) (hx : x 17 0 = ns) {t : Nat} (ht : t < 200) : f_X_waiting x (nI t) = some (mz (prs d (x 29) ns (t + 1))) := by
  have h4 : d 4 ≤ 10 := hB.2.2.2.2.1
  have := q_waiting_4 hB hM hx t ht (d 4) 600 0 (by omega) (by omega)
  rw [pf_0] at this
  exact this
def arr (d : Nat → Nat) (ns : Int32) (t : Nat) (P : Nat → Bool) (j : Nat) : Nat → Bool := fun i => P i || (decide (i < j) && (decide (d (7 + i) = t) && !decide (nI i = ns)))
theorem arr_no {d : Nat → Nat} {ns : Int32} {t j : Nat} {P : Nat → Bool} (h : ¬ (d (7 + j) = t ∧ ¬ nI j = ns)) : mz (arr d ns t P j) = mz (arr d ns t P (j + 1)) := by
  apply mz_congr
  intro i _
  unfold arr
  rcases Nat.lt_trichotomy i j with q | q | q
  · simp [q, Nat.lt_succ_of_lt q]
  · subst q
    by_cases q1 : d (7 + i) = t
    · have : nI i = ns := Classical.not_not.mp (fun z => h ⟨q1, z⟩)
      simp [this]
    · simp [q1]
  · simp [show ¬ i < j by omega, show ¬ i < j + 1 by omega]
theorem arr_yes {d : Nat → Nat} {ns : Int32} {t j : Nat} {P : Nat → Bool} (hj : j < 10) (h1 : d (7 + j) = t) (h2 : ¬ nI j = ns) : mz (arr d ns t P j) ||| (1 <<< (nI j &&& 31)) = mz (arr d ns t P (j + 1)) := by
  rw [mz_set hj]
  apply mz_congr
  intro i _
  unfold arr
  rcases Nat.lt_trichotomy i j with q | q | q
  · simp [q, Nat.lt_succ_of_lt q, show ¬ i = j by omega]
  · subst q
    simp [h1, h2]
  · simp [show ¬ i < j by omega, show ¬ i < j + 1 by omega, show ¬ i = j by omega]
theorem q_welcome_2 {d : Nat → Nat} {u : Nat → Nat → Int32} {ns : Int32} (hB : mk_BD d) (hC : mk_CQ u d) (t : Nat) (ht : t < 200) (P : Nat → Bool) : ∀ k n i (y : Nat → Nat → Int32), i + k = d 4 → k < n → y 6 0 = ns → y 7 0 = mz (arr d ns t P i) → ∃ wY, f_Y_welcome_2 u (nI t) n (nI i) y = some wY ∧ (∀ k, k ≠ 7 → wY k = y k) ∧ wY 7 0 = mz (arr d ns t P (d 4))
  | 0, n, i, y, hk, hn, h6, h7 => by
    have h4 : d 4 ≤ 10 := hB.2.2.2.2.1
    have h5 : u 5 0 = nI (d 4) := hC.2.2.2.2.2.1
    obtain ⟨n, rfl, hn'⟩ := q_fu hn
    obtain rfl : i = d 4 := by omega
    exact ⟨y, by rw [f_Y_welcome_2, h5, if_pos (le_t (by omega) (by omega))], fun _ _ => rfl, h7⟩
  | k + 1, n, i, y, hk, hn, h6, h7 => by
    have h4 : d 4 ≤ 10 := hB.2.2.2.2.1
    have h5 : u 5 0 = nI (d 4) := hC.2.2.2.2.2.1
    obtain ⟨n, rfl, hn'⟩ := q_fu hn
    obtain ⟨b1, b2⟩ := hB.2.2.2.2.2.2.2.2.1 i (by omega)
    rw [f_Y_welcome_2, h5, if_neg (le_f (by omega) (by omega)), mkAt_ok (by omega) (by omega), (hC.2.2.2.2.2.2.2.1 i (by omega)).1, pu_one, h6]
    by_cases q1 : d (7 + i) = t
    · rw [if_pos (by rw [q1])]
      by_cases q2 : nI i = ns
      · rw [if_pos q2]
        exact q_welcome_2 hB hC t ht P k n (i + 1) y (by omega) (by omega) h6 (by rw [h7]; exact arr_no (fun z => z.2 q2))
      · rw [if_neg q2]
        obtain ⟨wY, e1, e2, e3⟩ := q_welcome_2 hB hC t ht P k n (i + 1) (upF 7 ((y 7 0) ||| (1 <<< (nI i &&& 31))) y) (by omega) (by omega) h6 (by
          show (y 7 0) ||| (1 <<< (nI i &&& 31)) = _
          rw [h7]; exact arr_yes (by omega) q1 q2)
        exact ⟨wY, e1, fun k hk => by rw [e2 k hk, upF_n hk], e3⟩
    · rw [if_neg (eq_f q1 (by omega) (by omega))]
      exact q_welcome_2 hB hC t ht P k n (i + 1) y (by omega) (by omega) h6 (by rw [h7]; exact arr_no (fun z => q1 z.1))
theorem q_welcome {d : Nat → Nat} {u y : Nat → Nat → Int32} {f : Nat → Int32} {ns : Int32} (hB : mk_BD d) (hC : mk_CQ u d) {t : Nat} (ht : t < 200) (hy6 : y 6 0 = ns) (hy7 : y 7 0 = mz (prs d f ns t)) (hf : ∀ i, i < d 4 → t ≤ d (7 + i) → f i = -1) : ∃ wY, f_Y_welcome y u (nI t) = some wY ∧ (∀ k, k ≠ 7 → wY k = y k) ∧ wY 7 0 = mz (prs d f ns (t + 1)) := by
  have h4 : d 4 ≤ 10 := hB.2.2.2.2.1
  obtain ⟨wY, e1, e2, e3⟩ := q_welcome_2 hB hC t ht (prs d f ns t) (d 4) 600 0 y (by omega) (by omega) hy6 (by rw [hy7]; exact mz_congr (fun i _ => by unfold arr; simp))
  refine ⟨wY, e1, e2, ?_⟩
  rw [e3]
  apply mz_congr
  intro i _
  have : (arr d ns t (prs d f ns t) (d 4) i = true) ↔ (prs d f ns (t + 1) i = true) := by
    rw [prs_iff]
    unfold arr
    rw [Bool.or_eq_true, prs_iff]
    constructor
    · rintro (⟨a, b, c, e⟩ | h)
      · exact ⟨a, b, by omega, e⟩
      · simp at h
        exact ⟨h.1, h.2.2, by omega, hf i h.1 (by omega)⟩
    · rintro ⟨a, b, c, e⟩
      rcases Nat.lt_or_ge (d (7 + i)) t with q | q
      · left; exact ⟨a, b, q, e⟩
      · right; simp; exact ⟨a, by omega, b⟩
  cases h1 : arr d ns t (prs d f ns t) (d 4) i <;> cases h2 : prs d f ns (t + 1) i <;> simp_all
