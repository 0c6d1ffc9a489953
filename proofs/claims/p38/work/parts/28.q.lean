/-! pure: by counters, the reference -/
theorem q_cntX {d : Nat → Nat} {M P Q : Nat → Bool} {r t B : Nat} {k tk : Nat → Nat} (hB : mk_BD d) (ht : t < 200) (hr : r ≤ 2) (hQ : ∀ i, i < 10 → Q i = true → i < d 4) (hQP : ∀ i, i < 10 → Q i = true → P i = true) (hk : ∀ i, i < 10 → Q i = true → (M i = true → k i = 0) ∧ (M i = false → 1 ≤ k i)) (hkB : ∀ i, i < 10 → Q i = true → ncc d M r k tk i ≤ B) (hBB : B < 2 ^ 20) (htk : ∀ i, tk i < 2 ^ 30) : ∀ kf n i (x : Nat → Nat → Int32), i + kf = 10 → kf < n → mk_MP (x 0) d → x 26 0 = mz P → (∀ j, j < 10 → P j = true → (x 29 j = -1 ↔ Q j = true)) → (∀ j, j < 10 → Q j = true → x 28 j = nI (if j < i then ncc d M r k tk j else k j)) → (∀ j, j < d 4 → x 27 j = nI (kk (tkm M Q r) tk i j)) → ∃ wX, f_X_goesByCounters_59 (nI t) n (mz M) (nI r) (nI (mxc Q (ncc d M r k tk) i)) (nI i) x = some wX ∧ (∀ j, j < 10 → Q j = true → wX 28 j = nI (ncc d M r k tk j)) ∧ (∀ j, j < d 4 → wX 27 j = nI (kk (tkm M Q r) tk 10 j)) ∧ wX 33 = upd (x 33) t (nI (mxc Q (ncc d M r k tk) 10)) ∧ (∀ k, k ≠ 27 → k ≠ 28 → k ≠ 33 → wX k = x k) ∧ (∀ j, Q j = false → wX 28 j = x 28 j)
  | 0, n, i, x, hi, hn, hM, hx26, hx29, hx28, hx27 => by
    obtain ⟨n, rfl, hn'⟩ := q_fu hn
    obtain rfl : i = 10 := by omega
    refine ⟨upR 33 (upd (x 33) t (nI (mxc Q (ncc d M r k tk) 10))) x, ?_, ?_, ?_, upR_s, fun k _ _ h => upR_n h, fun _ _ => rfl⟩
    · rw [f_X_goesByCounters_59, if_pos (by decide), gI_ok ht (by omega), pu_cl (by omega)]
    · intro j hj hq
      show x 28 j = _
      rw [hx28 j hj hq, if_pos hj]
    · exact hx27
  | kf + 1, n, i, x, hi, hn, hM, hx26, hx29, hx28, hx27 => by
    have h4 : d 4 ≤ 10 := hB.2.2.2.2.1
    obtain ⟨n, rfl, hn'⟩ := q_fu hn
    have hi' : i < 10 := by omega
    have skip : Q i = false → ∃ wX, f_X_goesByCounters_59 (nI t) n (mz M) (nI r) (nI (mxc Q (ncc d M r k tk) i)) (nI (i + 1)) x = some wX ∧ (∀ j, j < 10 → Q j = true → wX 28 j = nI (ncc d M r k tk j)) ∧ (∀ j, j < d 4 → wX 27 j = nI (kk (tkm M Q r) tk 10 j)) ∧ wX 33 = upd (x 33) t (nI (mxc Q (ncc d M r k tk) 10)) ∧ (∀ k, k ≠ 27 → k ≠ 28 → k ≠ 33 → wX k = x k) ∧ (∀ j, Q j = false → wX 28 j = x 28 j) := by
      intro hp
      have e : mxc Q (ncc d M r k tk) (i + 1) = mxc Q (ncc d M r k tk) i := by rw [mxc, hp]; rfl
      rw [← e]
      refine q_cntX hB ht hr hQ hQP hk hkB hBB htk kf n (i + 1) x (by omega) (by omega) hM hx26 hx29 (fun j hj hq => ?_) (fun j hj => ?_)
      · rw [hx28 j hj hq]
        have : j ≠ i := fun z => by subst z; rw [hp] at hq; cases hq
        by_cases q : j < i
        · rw [if_pos q, if_pos (by omega)]
        · rw [if_neg q, if_neg (by omega)]
      · rw [hx27 j hj, kk_no (by unfold tkm; rw [hp]; rfl)]
    rw [f_X_goesByCounters_59, if_neg (by rw [q_le10 (by omega)]; omega), hx26, pu_one]
    cases hPi : P i
    · rw [mz_hasF hi' hPi, b1_k, if_pos rfl]
      refine skip ?_
      cases hq : Q i
      · rfl
      · rw [hQP i hi' hq] at hPi; cases hPi
    rw [mz_hasT hi' hPi, b1_k, if_neg (by decide), gI_ok hi' (by omega), pu_cl (by omega)]
    have h29 := hx29 i hi' hPi
    cases hp : Q i
    · rw [if_neg (fun z => by have := h29.mp z; rw [hp] at this; cases this)]
      exact skip hp
    rw [if_pos (h29.mpr hp)]
    obtain ⟨k1, k2⟩ := hk i hi' hp
    have hnB := hkB i hi' hp
    have hmB := mxc_le hkB i (by omega)
    have hi4 := hQ i hi' hp
    have x28i : x 28 i = nI (k i) := by rw [hx28 i hi' hp, if_neg (by omega)]
    have x27i : x 27 i = nI (tk i) := by rw [hx27 i hi4, kk_at]
    have emx : mxc Q (ncc d M r k tk) (i + 1) = if mxc Q (ncc d M r k tk) i ≤ ncc d M r k tk i then ncc d M r k tk i + 1 else mxc Q (ncc d M r k tk) i := by rw [mxc, hp]; rfl
    have key : ∀ (x' : Nat → Nat → Int32), x' 28 = upd (x 28) i (nI (ncc d M r k tk i)) → (∀ j, j < d 4 → x' 27 j = nI (kk (tkm M Q r) tk (i + 1) j)) → (∀ k, k ≠ 27 → k ≠ 28 → x' k = x k) → ∃ wX, f_X_goesByCounters_146 (nI t) (f_X_goesByCounters_59 (nI t) n) (mz M) (nI r) (nI (mxc Q (ncc d M r k tk) i)) (nI i) x' = some wX ∧ (∀ j, j < 10 → Q j = true → wX 28 j = nI (ncc d M r k tk j)) ∧ (∀ j, j < d 4 → wX 27 j = nI (kk (tkm M Q r) tk 10 j)) ∧ wX 33 = upd (x 33) t (nI (mxc Q (ncc d M r k tk) 10)) ∧ (∀ k, k ≠ 27 → k ≠ 28 → k ≠ 33 → wX k = x k) ∧ (∀ j, Q j = false → wX 28 j = x 28 j) := by
      intro x' e28 e27 ek
      unfold f_X_goesByCounters_146
      rw [gI_ok hi' (by omega), pu_cl (by omega), e28, upd_s, q_maxX _ _ (by omega) (by omega), pu_one, ← emx]
      obtain ⟨wX, g1, g2, g3, g4, g5, g6⟩ := q_cntX hB ht hr hQ hQP hk hkB hBB htk kf n (i + 1) x' (by omega) (by omega) (by rw [ek 0 (by decide) (by decide)]; exact hM) (by rw [ek 26 (by decide) (by decide)]; exact hx26) (by rw [ek 29 (by decide) (by decide)]; exact hx29) (fun j hj hq => by
        rw [e28]
        by_cases q : j = i
        · subst q; rw [upd_s, if_pos (by omega)]
        · rw [upd_n q, hx28 j hj hq]
          by_cases q : j < i
          · rw [if_pos q, if_pos (by omega)]
          · rw [if_neg q, if_neg (by omega)]) e27
      refine ⟨wX, g1, g2, g3, ?_, ?_, ?_⟩
      · rw [g4, ek 33 (by decide) (by decide)]
      · intro k h1 h2 h3; rw [g5 k h1 h2 h3, ek k h1 h2]
      · intro j hj; rw [g6 j hj, e28, upd_n (fun z => by subst z; rw [hp] at hj; cases hj)]
    have hsame : tkm M Q r i = false → ∀ j, j < d 4 → x 27 j = nI (kk (tkm M Q r) tk (i + 1) j) := fun z j hj => by rw [hx27 j hj, kk_no z]
    cases hm : M i
    · rw [mz_hasF hi' hm, b1_k, if_pos rfl]
      have hh := hsame (by unfold tkm; rw [hm]; simp)
      by_cases q : r = 2
      · rw [if_pos (show nI r = 2 by rw [q]; rfl)]
        unfold f_X_goesByCounters_144
        rw [gI_ok hi' (by omega), pu_cl (by omega), x28i]
        refine key _ ?_ hh (fun k _ h => upR_n h)
        rw [upR_s, pu_one]
        unfold ncc
        rw [hm, if_neg (by decide), if_pos q]
      · rw [if_neg (show ¬ nI r = 2 from eq_f (b := 2) q (by omega) (by omega))]
        unfold f_X_goesByCounters_144
        rw [gI_ok hi' (by omega), pu_cl (by omega), x28i]
        refine key _ ?_ hh (fun k _ h => upR_n h)
        have := k2 hm
        rw [upR_s, show nI (k i) + (-1) = nI (k i - 1) by
          obtain ⟨m, e⟩ : ∃ m, k i = m + 1 := ⟨k i - 1, by omega⟩
          rw [e, pk_m1]; rfl]
        unfold ncc
        rw [hm, if_neg (by decide), if_neg q]
    · rw [mz_hasT hi' hm, b1_k, if_neg (by decide)]
      by_cases q : r = 2
      · have hT : tkm M Q r i = true := by unfold tkm; simp [hp, hm, q]
        rw [if_pos (show nI r = 2 by rw [q]; rfl), q_takesBit hB hM hi4 (htk i) x27i, b2_k]
        unfold f_X_goesByCounters_122
        rw [gI_ok hi' (by omega), pu_cl (by omega)]
        refine key _ ?_ ?_ (fun k h1 h2 => by rw [upR_n h2, upR_n h1])
        · rw [upR_s, bi_n]
          unfold ncc
          rw [hm, if_pos rfl, if_pos q]
          rfl
        · rw [upR_n (by decide), upR_s]; exact kk_yes hT _ hx27
      · rw [if_neg (show ¬ nI r = 2 from eq_f (b := 2) q (by omega) (by omega))]
        unfold f_X_goesByCounters_122
        rw [gI_ok hi' (by omega), pu_cl (by omega)]
        refine key _ ?_ (hsame (by unfold tkm; simp [q])) (fun k _ h => upR_n h)
        rw [upR_s]
        unfold ncc
        rw [hm, if_pos rfl, if_neg q]
        rfl
