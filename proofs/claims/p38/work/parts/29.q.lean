/-! pure: a slot by counters -/
theorem q_c4Y {d : Nat → Nat} {u y c : Nat → Nat → Int32} {P : Nat → Bool} {k : Nat → Nat} (p1 : Int32) (hB : mk_BD d) (hC : mk_CQ u d) (hy7 : y 7 0 = mz P) (hP : ∀ i, i < 10 → P i = true → i < d 4 ∧ k i < 2 ^ 30 ∧ y 2 i = nI (k i)) : ∀ kf n i, i + kf = 10 → kf < n → f_Y_playByCounters_4 u p1 n (mz (pf (fun i => P i && decide (k i = 0)) i)) (nI i) y c = f_Y_playByCounters_59 u p1 (mz (fun i => P i && decide (k i = 0))) y c
  | kf, n, i, hi, hn => by
    have h4 : d 4 ≤ 10 := hB.2.2.2.2.1
    have h5 : u 5 0 = nI (d 4) := hC.2.2.2.2.2.1
    obtain ⟨n, rfl, hn'⟩ := q_fu hn
    rw [f_Y_playByCounters_4, h5, hy7]
    by_cases h1 : d 4 ≤ i
    · rw [if_pos (le_t h1 (by omega)), pf_end]
      intro j hj hj'
      cases hPj : P j
      · rfl
      · have := (hP j hj' hPj).1; omega
    rw [if_neg (le_f (Nat.lt_of_not_le h1) (by omega))]
    by_cases h2 : mz P >>> (nI i &&& 31) = 0
    · rw [if_pos h2, pf_end]
      intro j hj hj'
      rw [mz_stop (by omega) h2 j hj hj']; rfl
    obtain ⟨kf, rfl⟩ : ∃ k', kf = k' + 1 := ⟨kf - 1, by omega⟩
    have hi' : i < 10 := by omega
    have go := q_c4Y (c := c) p1 hB hC hy7 hP kf n (i + 1) (by omega) (by omega)
    rw [if_neg h2, pu_one]
    cases hp : P i
    · rw [if_neg (mz_b1F hi' hp), pf_no (by simp [hp])]; exact go
    · obtain ⟨_, hk, e⟩ := hP i hi' hp
      rw [if_pos (mz_b1T hi' hp), mkAt_ok hi' (by omega), e]
      by_cases q : k i = 0
      · rw [if_pos (by rw [q]; rfl), pf_yes hi' (by simp [hp, q])]; exact go
      · rw [if_neg (eq_f0 q (by omega)), pf_no (by simp [q])]; exact go
theorem q_c4X {x : Nat → Nat → Int32} {P : Nat → Bool} {k : Nat → Nat} (p1 : Int32) (hx26 : x 26 0 = mz P) (hP : ∀ i, i < 10 → P i = true → k i < 2 ^ 30 ∧ x 28 i = nI (k i)) : ∀ kf n i, i + kf = 10 → kf < n → f_X_goesByCounters_4 p1 n (mz (pf (fun i => P i && decide (k i = 0)) i)) (nI i) x = b2 (f_X_sent x p1 (mz (fun i => P i && decide (k i = 0)))) (fun r20 uX_21 => (f_X_goesByCounters_59 p1 600 (mz (fun i => P i && decide (k i = 0))) r20 0 0 uX_21))
  | 0, n, i, hi, hn => by
    obtain ⟨n, rfl, hn'⟩ := q_fu hn
    obtain rfl : i = 10 := by omega
    rw [f_X_goesByCounters_4, if_pos (by decide), pf_end (fun j h1 h2 => by omega)]
  | kf + 1, n, i, hi, hn => by
    obtain ⟨n, rfl, hn'⟩ := q_fu hn
    have hi' : i < 10 := by omega
    have go := q_c4X p1 hx26 hP kf n (i + 1) (by omega) (by omega)
    rw [f_X_goesByCounters_4, if_neg (by rw [q_le10 (by omega)]; omega), hx26, pu_one, mz_or0]
    cases hp : P i
    · rw [mz_hasF hi' hp, b1_k, if_pos rfl, pf_no (by simp [hp])]; exact go
    · obtain ⟨hk, e⟩ := hP i hi' hp
      rw [mz_hasT hi' hp, b1_k, if_neg (by decide), gI_ok hi' (by omega), pu_cl (by omega), e]
      by_cases q : k i = 0
      · rw [if_pos (by rw [q]; rfl), pf_yes hi' (by simp [hp, q])]; exact go
      · rw [if_neg (eq_f0 q (by omega)), pf_no (by simp [q])]; exact go
theorem q_counters {d : Nat → Nat} {u y c x : Nat → Nat → Int32} {ns : Int32} {t : Nat} {k tk : Nat → Nat} (hB : mk_BD d) (hC : mk_CQ u d) (hM : mk_MP (x 0) d) (hy5 : y 5 0 = (-1)) (hx16 : x 16 0 = (-1)) (ht : t < 200) (hy7 : y 7 0 = mz (prs d (x 29) ns (t + 1))) (hx26 : x 26 0 = mz (prs d (x 29) ns (t + 1))) (h : hA d t c x) (hk : ∀ i, i < d 4 → x 29 i = -1 → k i ≤ t ∧ y 2 i = nI (k i) ∧ x 28 i = nI (k i)) (htk : ∀ i, tk i ≤ t) (ht7 : ∀ i, i < d 4 → c 7 i = nI (tk i) ∧ x 27 i = nI (tk i)) (hun : ∀ i, i < d 4 → t ≤ d (7 + i) → x 29 i = -1) : ∃ (wY wC wX : Nat → Nat → Int32) (k' tk' : Nat → Nat), f_Y_playByCounters y u c (nI t) = some (wY, wC) ∧ f_X_goesByCounters x (nI t) = some wX ∧ hA d (t + 1) wC wX ∧ (∀ i, i < d 4 → wX 29 i = -1 → k' i ≤ t + 1 ∧ wY 2 i = nI (k' i) ∧ wX 28 i = nI (k' i)) ∧ (∀ i, tk' i ≤ t + 1) ∧ (∀ i, i < d 4 → wC 7 i = nI (tk' i) ∧ wX 27 i = nI (tk' i)) ∧ (∀ i, i < d 4 → t + 1 ≤ d (7 + i) → wX 29 i = -1) ∧ wY 7 0 = mz (prs d (wX 29) ns (t + 1)) ∧ (∃ v, wC 3 = upd (c 3) t v ∧ wX 33 = upd (x 33) t v) ∧ (∀ k, k ≠ 2 → k ≠ 7 → wY k = y k) ∧ (∀ k, k ≠ 0 → k ≠ 1 → k ≠ 2 → k ≠ 3 → k ≠ 5 → k ≠ 6 → k ≠ 7 → k ≠ 8 → k ≠ 9 → wC k = c k) ∧ (∀ k, k ≠ 27 → k ≠ 28 → k ≠ 29 → k ≠ 30 → k ≠ 31 → k ≠ 32 → k ≠ 33 → k ≠ 40 → wX k = x k) ∧ (ns = -1 → hK2 d t y c (x 29) (x 30) → hK2 d (t + 1) wY wC (wX 29) (wX 30)) := by
  have h4 : d 4 ≤ 10 := hB.2.2.2.2.1
  have hPd : ∀ i, i < 10 → prs d (x 29) ns (t + 1) i = true → i < d 4 ∧ x 29 i = -1 := fun i _ z => ⟨(prs_iff.mp z).1, (prs_iff.mp z).2.2.2⟩
  have hPt : ∀ i, prs d (x 29) ns (t + 1) i = true → d (7 + i) ≤ t := fun i z => by have := (prs_iff.mp z).2.2.1; omega
  generalize hPP : prs d (x 29) ns (t + 1) = P at hy7 hx26 hPd hPt
  have hPk : ∀ i, i < 10 → P i = true → k i ≤ t ∧ y 2 i = nI (k i) ∧ x 28 i = nI (k i) := fun i hi z => hk i (hPd i hi z).1 (hPd i hi z).2
  generalize hMM : (fun i => P i && decide (k i = 0)) = M
  have e1 : f_Y_playByCounters y u c (nI t) = f_Y_playByCounters_59 u (nI t) (mz M) y c := by
    have := q_c4Y (c := c) (k := k) (nI t) hB hC hy7 (fun i hi z => ⟨(hPd i hi z).1, by have := (hPk i hi z).1; omega, (hPk i hi z).2.1⟩) 10 600 0 (by omega) (by omega)
    rw [pf_0, hMM] at this
    exact this
  have e2 : f_X_goesByCounters x (nI t) = b2 (f_X_sent x (nI t) (mz M)) (fun r20 uX_21 => (f_X_goesByCounters_59 (nI t) 600 (mz M) r20 0 0 uX_21)) := by
    have := q_c4X (k := k) (nI t) hx26 (fun i hi z => ⟨by have := (hPk i hi z).1; omega, (hPk i hi z).2.2⟩) 10 600 0 (by omega) (by omega)
    rw [pf_0, hMM] at this
    exact this
  have hMP : ∀ i, M i = true → P i = true ∧ k i = 0 := fun i z => by rw [← hMM] at z; simpa using z
  obtain ⟨r, D, wY, wC, wX, hr, f1, f2, f3, f4, f5, f6, f7, f8, f9, f10, fr, fD, f30⟩ := q_sent (y := y) (u := u) hB hC hM hy5 hx16 ht (fun i hi z => ⟨(hPd i hi (hMP i z).1).1, hPt i (hMP i z).1, (hPd i hi (hMP i z).1).2⟩) h hy7
  have hQP : ∀ i, i < 10 → (P i && !D i) = true → P i = true := fun i _ z => by simp at z; exact z.1
  have hkQ : ∀ i, i < 10 → (P i && !D i) = true → (M i = true → k i = 0) ∧ (M i = false → 1 ≤ k i) := by
    intro i hi z
    refine ⟨fun q => (hMP i q).2, fun q => ?_⟩
    have hp := hQP i hi z
    rcases Nat.eq_zero_or_pos (k i) with q2 | q2
    · exfalso
      have : M i = true := by rw [← hMM]; simp [hp, q2]
      rw [this] at q; cases q
    · exact q2
  have hnB : ∀ i, i < 10 → (P i && !D i) = true → ncc d M r k tk i ≤ t + 1 := by
    intro i hi z
    have := (hPk i hi (hQP i hi z)).1
    unfold ncc
    split
    · split
      · split <;> omega
      · omega
    · split <;> omega
  have hy29 : ∀ j, j < 10 → P j = true → (wX 29 j = -1 ↔ (P j && !D j) = true) := by
    intro j hj hp
    rw [f6 j (hPd j hj hp).1, hp]
    cases hD : D j
    · simp [(hPd j hj hp).2]
    · simp
      exact pu_nm1 (by omega)
  obtain ⟨vY, vC, g1, g2, g3, g4, g5, g6, g7⟩ := q_cntY (M := M) (Q := fun i => P i && !D i) (k := k) (tk := tk) (r := r) (B := t + 1) hB hC ht hr (fun i hi z => (hPd i hi (hQP i hi z)).1) hkQ hnB (by omega) (fun i => by have := htk i; omega) 10 600 0 wY wC (by omega) (by omega) f5 (fun j hj hq => by rw [f4 2 (by decide), if_neg (by omega)]; exact (hPk j hj (hQP j hj hq)).2.1) (fun j hj => by rw [f9 7 (by decide) (by decide) (by decide) (by decide) (by decide) (by decide) (by decide), (ht7 j hj).1]; unfold kk pf; simp)
  obtain ⟨vX, i1, i2, i3, i4, i5, i6⟩ := q_cntX (M := M) (P := P) (Q := fun i => P i && !D i) (k := k) (tk := tk) (r := r) (B := t + 1) hB ht hr (fun i hi z => (hPd i hi (hQP i hi z)).1) hQP hkQ hnB (by omega) (fun i => by have := htk i; omega) 10 600 0 wX (by omega) (by omega) (by rw [f10 0 (by decide) (by decide) (by decide) (by decide) (by decide)]; exact hM) (by rw [f10 26 (by decide) (by decide) (by decide) (by decide) (by decide)]; exact hx26) hy29 (fun j hj hq => by rw [f10 28 (by decide) (by decide) (by decide) (by decide) (by decide), if_neg (by omega)]; exact (hPk j hj (hQP j hj hq)).2.2) (fun j hj => by rw [f10 27 (by decide) (by decide) (by decide) (by decide) (by decide), (ht7 j hj).2]; unfold kk pf; simp)
  have v29 : vX 29 = wX 29 := i5 29 (by decide) (by decide) (by decide)
  refine ⟨vY, vC, vX, fun i => if (P i && !D i) then ncc d M r k tk i else k i, kk (tkm M (fun i => P i && !D i) r) tk 10, ?_, ?_, ?_, ?_, ?_, ?_, ?_, ?_, ?_, ?_, ?_, ?_, ?_⟩
  · rw [e1]; unfold f_Y_playByCounters_59; rw [f1, b3_k]; exact g1
  · rw [e2, f2, b2_k]; exact i1
  · obtain ⟨a1, a2, a3, a4, a5, a6, a7, a8, a9⟩ := f3
    have vx : ∀ k, k ≠ 27 → k ≠ 28 → k ≠ 33 → vX k = wX k := i5
    unfold hA
    rw [g6 0 (by decide) (by decide), g6 1 (by decide) (by decide), g6 2 (by decide) (by decide), g6 5 (by decide) (by decide), g6 6 (by decide) (by decide), g6 8 (by decide) (by decide), g6 9 (by decide) (by decide), v29, vx 30 (by decide) (by decide) (by decide), vx 31 (by decide) (by decide) (by decide), vx 32 (by decide) (by decide) (by decide), vx 40 (by decide) (by decide) (by decide)]
    exact ⟨a1, a2, a3, a4, a5, a6, a7, a8, a9⟩
  · intro i hi hu
    rw [v29] at hu
    show (if (P i && !D i) = true then ncc d M r k tk i else k i) ≤ t + 1 ∧ vY 2 i = nI (if (P i && !D i) = true then ncc d M r k tk i else k i) ∧ vX 28 i = nI (if (P i && !D i) = true then ncc d M r k tk i else k i)
    cases hq : (P i && !D i)
    · rw [if_neg (by decide), g7 i hq, i6 i hq, f4 2 (by decide), f10 28 (by decide) (by decide) (by decide) (by decide) (by decide)]
      have hx : x 29 i = -1 := by
        rw [f6 i hi] at hu
        split at hu
        · exact absurd hu (pu_nm1 (by omega))
        · exact hu
      obtain ⟨z1, z2, z3⟩ := hk i hi hx
      exact ⟨by omega, z2, z3⟩
    · rw [if_pos rfl]
      exact ⟨hnB i (by omega) hq, g2 i (by omega) hq, i2 i (by omega) hq⟩
  · intro i
    have := htk i
    unfold kk
    split <;> omega
  · intro i hi
    exact ⟨g3 i hi, i3 i hi⟩
  · intro i hi hd
    rw [v29, f6 i hi]
    cases hD : D i
    · rw [if_neg (by decide)]; exact hun i hi (by omega)
    · have := (hMP i (f7 i (by omega) hD)).1
      rw [← hPP] at this
      have := (prs_iff.mp this).2.2.1
      omega
  · rw [g5 7 (by decide), f5, v29]
    apply mz_congr
    intro i hi
    show (P i && !D i) = _
    by_cases hi4 : i < d 4
    · rw [← hPP]
      unfold prs
      rw [f6 i hi4]
      cases hD : D i
      · simp
      · simp
        intro _ _ _
        exact pu_nm1 (by omega)
    · have : P i = false := by rw [← hPP]; unfold prs; simp [hi4]
      rw [this]; unfold prs; simp [hi4]
  · exact ⟨_, by rw [g4, f9 3 (by decide) (by decide) (by decide) (by decide) (by decide) (by decide) (by decide)], by rw [i4, f10 33 (by decide) (by decide) (by decide) (by decide) (by decide)]⟩
  · intro k k2 k7; rw [g5 k k2, f4 k k7]
  · intro k k0 k1 k2 k3 k5 k6 k7 k8 k9; rw [g6 k k3 k7, f9 k k0 k1 k2 k5 k6 k8 k9]
  · intro k k0 k1 k2 k3 k5 k6 k7 k8; rw [i5 k k0 k1 k7, f10 k k2 k3 k5 k6 k8]
  · intro hns h2
    have v30 : vX 30 = upd (x 30) t (mz M) := by rw [i5 30 (by decide) (by decide) (by decide), f30]
    rw [v29, v30]
    exact K2_step (P := P) (M := M) (D := D) (k := k) (tk := tk) (r := r) h4 ht h2 (fun i => by rw [← hPP, hns]) (fun i => by rw [← hMM]) (fun i hi z => ⟨(hk i hi z).1, (hk i hi z).2.1⟩) (fun i hi => ⟨htk i, (ht7 i hi).1⟩) fr fD f6 g2 (fun i z => by rw [g7 i z, f4 2 (by decide)]) g3 (by rw [g4, f9 3 (by decide) (by decide) (by decide) (by decide) (by decide) (by decide) (by decide)]) (by rw [g6 4 (by decide) (by decide), f9 4 (by decide) (by decide) (by decide) (by decide) (by decide) (by decide) (by decide)]) (by rw [g6 13 (by decide) (by decide), f9 13 (by decide) (by decide) (by decide) (by decide) (by decide) (by decide) (by decide)])
