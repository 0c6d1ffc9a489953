/-! pure: sums over the slots -/
theorem q_a0 (x : Int32) : x + 0 = x := by simp
theorem q_tries_19 {d : Nat → Nat} {x : Nat → Nat → Int32} {j : Nat} (h1 : d 1 ≤ 200) (hM : mk_MP (x 0) d) (hj : j < 10) (h30 : ∀ v, v < d 1 → ∃ P, x 30 v = mz P) : ∀ k n t, t + k = d 1 → k < n → f_X_tries_19 (nI j) n (nI (cb (x 30) j t)) (nI t) x = some (nI (cb (x 30) j (d 1)), x)
  | 0, n, t, hk, hn => by
    obtain ⟨n, rfl, hn'⟩ := q_fu hn
    obtain rfl : t = d 1 := by omega
    rw [f_X_tries_19, hM 1, if_pos (le_t (Nat.le_refl _) (by omega))]
  | k + 1, n, t, hk, hn => by
    obtain ⟨n, rfl, hn'⟩ := q_fu hn
    obtain ⟨P, hP⟩ := h30 t (by omega)
    have go := q_tries_19 h1 hM hj h30 k n (t + 1) (by omega) (by omega)
    rw [f_X_tries_19, hM 1, if_neg (le_f (by omega) (by omega)), gI_ok (by omega) (by omega), pu_cl (by omega), hP, pu_one, pu_one, q_a0]
    rw [cb, hP] at go
    cases hp : P j
    · rw [if_neg (mz_b1F hj hp)] at go
      rw [mz_hasF hj hp, b1_k, if_pos rfl]; exact go
    · rw [if_pos (mz_b1T hj hp)] at go
      rw [mz_hasT hj hp, b1_k, if_neg one0]; exact go
theorem q_heard_30 {d : Nat → Nat} {c x : Nat → Nat → Int32} (p1 : Int32) (h1 : d 1 ≤ 200) (hM : mk_MP (x 0) d) (h30 : ∀ v, v < d 1 → c 1 v = x 31 v) : ∀ k n t v, t + k = d 1 → k < n → ∃ r, f_C_slotsHeard_5 c p1 (nI (d 1)) n v (nI t) = some r ∧ f_X_heard_30 p1 n v (nI t) x = some (r, x)
  | 0, n, t, v, hk, hn => by
    obtain ⟨n, rfl, hn'⟩ := q_fu hn
    obtain rfl : t = d 1 := by omega
    rw [f_X_heard_30, f_C_slotsHeard_5, hM 1, if_pos (le_t (Nat.le_refl _) (by omega)), if_pos (le_t (Nat.le_refl _) (by omega))]
    exact ⟨_, rfl, rfl⟩
  | k + 1, n, t, v, hk, hn => by
    obtain ⟨n, rfl, hn'⟩ := q_fu hn
    rw [f_X_heard_30, f_C_slotsHeard_5, hM 1, if_neg (le_f (by omega) (by omega)), if_neg (le_f (by omega) (by omega)), gI_ok (by omega) (by omega), pu_cl (by omega), mkAt_ok (by omega) (by omega), h30 t (by omega), pu_one, q_a0]
    by_cases q : x 31 t = p1
    · rw [if_pos q, if_pos q]; exact q_heard_30 p1 h1 hM h30 k n (t + 1) _ (by omega) (by omega)
    · rw [if_neg q, if_neg q]; exact q_heard_30 p1 h1 hM h30 k n (t + 1) _ (by omega) (by omega)
theorem q_coll_4 {d : Nat → Nat} {c x : Nat → Nat → Int32} (h1 : d 1 ≤ 200) (hM : mk_MP (x 0) d) (h30 : ∀ v, v < d 1 → c 0 v = x 30 v ∧ ∃ P, x 30 v = mz P) : ∀ k n t v, t + k = d 1 → k < n → ∃ r, f_C_collisions_4 c (nI (d 1)) n v (nI t) = some r ∧ f_X_collisions_4 x n v (nI t) = some r
  | 0, n, t, v, hk, hn => by
    obtain ⟨n, rfl, hn'⟩ := q_fu hn
    obtain rfl : t = d 1 := by omega
    rw [f_X_collisions_4, f_C_collisions_4, hM 1, if_pos (le_t (Nat.le_refl _) (by omega)), if_pos (le_t (Nat.le_refl _) (by omega))]
    exact ⟨_, rfl, rfl⟩
  | k + 1, n, t, v, hk, hn => by
    obtain ⟨n, rfl, hn'⟩ := q_fu hn
    obtain ⟨e, P, hP⟩ := h30 t (by omega)
    rw [f_X_collisions_4, f_C_collisions_4, hM 1, if_neg (le_f (by omega) (by omega)), if_neg (le_f (by omega) (by omega)), gI_ok (by omega) (by omega), pu_cl (by omega), mkAt_ok (by omega) (by omega), e, hP, mz_bits, mz_bitsX, b1_k, pu_one, q_a0]
    by_cases q : nI (pc (ms P 10) 10) ≤ 1
    · rw [if_pos q, if_pos q]; exact q_coll_4 h1 hM h30 k n (t + 1) _ (by omega) (by omega)
    · rw [if_neg q, if_neg q]; exact q_coll_4 h1 hM h30 k n (t + 1) _ (by omega) (by omega)
theorem q_skips_4 {d : Nat → Nat} {c x : Nat → Nat → Int32} (h1 : d 1 ≤ 200) (hM : mk_MP (x 0) d) (h30 : ∀ v, v < d 1 → c 4 v = x 34 v) : ∀ k n t v, t + k = d 1 → k < n → ∃ r, f_C_skipsMade_4 c (nI (d 1)) n v (nI t) = some r ∧ f_X_skipsAll_4 x n v (nI t) = some r
  | 0, n, t, v, hk, hn => by
    obtain ⟨n, rfl, hn'⟩ := q_fu hn
    obtain rfl : t = d 1 := by omega
    rw [f_X_skipsAll_4, f_C_skipsMade_4, hM 1, if_pos (le_t (Nat.le_refl _) (by omega)), if_pos (le_t (Nat.le_refl _) (by omega))]
    exact ⟨_, rfl, rfl⟩
  | k + 1, n, t, v, hk, hn => by
    obtain ⟨n, rfl, hn'⟩ := q_fu hn
    rw [f_X_skipsAll_4, f_C_skipsMade_4, hM 1, if_neg (le_f (by omega) (by omega)), if_neg (le_f (by omega) (by omega)), gI_ok (by omega) (by omega), pu_cl (by omega), mkAt_ok (by omega) (by omega), h30 t (by omega), pu_one]
    exact q_skips_4 h1 hM h30 k n (t + 1) _ (by omega) (by omega)
theorem q_deep_4 {d : Nat → Nat} {c x : Nat → Nat → Int32} (h1 : d 1 ≤ 200) (hM : mk_MP (x 0) d) (h30 : ∀ v, v < d 1 → c 3 v = x 33 v) : ∀ k n t v, t + k = d 1 → k < n → ∃ r, f_C_greatestDepth_4 c (nI (d 1)) n v (nI t) = some r ∧ f_X_deepest_18 n v (nI t) x = some (r, x)
  | 0, n, t, v, hk, hn => by
    obtain ⟨n, rfl, hn'⟩ := q_fu hn
    obtain rfl : t = d 1 := by omega
    rw [f_X_deepest_18, f_C_greatestDepth_4, hM 1, if_pos (le_t (Nat.le_refl _) (by omega)), if_pos (le_t (Nat.le_refl _) (by omega))]
    exact ⟨_, rfl, rfl⟩
  | k + 1, n, t, v, hk, hn => by
    obtain ⟨n, rfl, hn'⟩ := q_fu hn
    rw [f_X_deepest_18, f_C_greatestDepth_4, hM 1, if_neg (le_f (by omega) (by omega)), if_neg (le_f (by omega) (by omega)), gI_ok (by omega) (by omega), pu_cl (by omega), mkAt_ok (by omega) (by omega), h30 t (by omega), pu_one]
    exact q_deep_4 h1 hM h30 k n (t + 1) _ (by omega) (by omega)
theorem s_tries {uR uT uD uY uP uS uC uO uA uX : Nat → Nat → Int32}  (h : mk_Inv uR uT uD uY uP uS uC uO uA uX) (p1 : Int32) : ∃ (r : Int32) (wX : Nat → Nat → Int32), f_Z_tries uP uC p1 = some r ∧ f_X_tries uX p1 = some (r, wX) ∧ mk_Inv uR uT uD uY uP uS uC uO uA wX := by
  unfold f_Z_tries f_X_tries
  rcases q_sndr h p1 with ⟨d, j, wX, h1, h2, h3, z0, hj, rfl, e1, e2, r1, ⟨⟨f1, _, f3, _⟩, _⟩, r3, hw⟩ | ⟨e1, e2⟩
  · have h4 : d 4 ≤ 10 := h1.2.2.2.2.1
    have hM : mk_MP (wX 0) d := by rw [r3 0 (by omega)]; exact h3
    have := q_tries_19 (j := j) h1.2.1 hM (by omega) (fun v hv => (f1 v hv).2.2.2) (d 1) 600 0 (by omega) (by have := h1.2.1; omega)
    rw [e1, e2, b1_k, b1_k, if_neg one0, if_neg one0, r1, b1_k, mkAt_ok (by omega) (by omega), (f3 j hj).2]
    exact ⟨_, wX, rfl, this, hw⟩
  · rw [e1, e2, b1_k, b1_k, if_pos rfl, if_pos rfl]
    exact ⟨_, uX, rfl, rfl, h⟩
theorem s_collided {uR uT uD uY uP uS uC uO uA uX : Nat → Nat → Int32}  (h : mk_Inv uR uT uD uY uP uS uC uO uA uX) : ∃ (r : Int32) (wX : Nat → Nat → Int32), f_Z_collided uP uC = some r ∧ f_X_collided uX = some (r, wX) ∧ mk_Inv uR uT uD uY uP uS uC uO uA wX := by
  unfold f_Z_collided f_X_collided
  rcases q_std h with ⟨d, wX, h1, h2, h3, z0, e1, e2, r1, ⟨⟨f1, _⟩, _⟩, r3, hw⟩ | ⟨e1, e2⟩
  · have hM : mk_MP (wX 0) d := by rw [r3 0 (by omega)]; exact h3
    obtain ⟨r, g1, g2⟩ := q_coll_4 (c := uC) h1.2.1 hM (fun v hv => ⟨(f1 v hv).1, (f1 v hv).2.2.2⟩) (d 1) 600 0 0 (by omega) (by have := h1.2.1; omega)
    rw [e1, e2, b1_k, b1_k, if_neg one0, if_neg one0, r1, b1_k, h2.2.1]
    unfold f_C_collisions f_X_collisions
    rw [show (0 : Int32) = nI 0 from rfl] at g1 g2 ⊢
    rw [g1, g2]
    exact ⟨r, wX, rfl, rfl, hw⟩
  · rw [e1, e2, b1_k, b1_k, if_pos rfl, if_pos rfl]
    exact ⟨_, uX, rfl, rfl, h⟩
theorem s_skips {uR uT uD uY uP uS uC uO uA uX : Nat → Nat → Int32}  (h : mk_Inv uR uT uD uY uP uS uC uO uA uX) : ∃ (r : Int32) (wX : Nat → Nat → Int32), f_Z_skips uP uC = some r ∧ f_X_skips uX = some (r, wX) ∧ mk_Inv uR uT uD uY uP uS uC uO uA wX := by
  unfold f_Z_skips f_X_skips
  rcases q_std h with ⟨d, wX, h1, h2, h3, z0, e1, e2, r1, ⟨_, _, f3, _⟩, r3, hw⟩ | ⟨e1, e2⟩
  · have hM : mk_MP (wX 0) d := by rw [r3 0 (by omega)]; exact h3
    obtain ⟨r, g1, g2⟩ := q_skips_4 (c := uC) h1.2.1 hM (fun v hv => (f3 v hv).2) (d 1) 600 0 0 (by omega) (by have := h1.2.1; omega)
    rw [e1, e2, b1_k, b1_k, if_neg one0, if_neg one0, r1, b1_k, h2.2.1]
    unfold f_C_skipsMade f_X_skipsAll
    rw [show (0 : Int32) = nI 0 from rfl] at g1 g2 ⊢
    rw [g1, g2]
    exact ⟨r, wX, rfl, rfl, hw⟩
  · rw [e1, e2, b1_k, b1_k, if_pos rfl, if_pos rfl]
    exact ⟨_, uX, rfl, rfl, h⟩
theorem s_deepest {uR uT uD uY uP uS uC uO uA uX : Nat → Nat → Int32}  (h : mk_Inv uR uT uD uY uP uS uC uO uA uX) : ∃ (r : Int32) (wX : Nat → Nat → Int32), f_Z_deepest uP uC = some r ∧ f_X_deepest uX = some (r, wX) ∧ mk_Inv uR uT uD uY uP uS uC uO uA wX := by
  unfold f_Z_deepest f_X_deepest
  rcases q_std h with ⟨d, wX, h1, h2, h3, z0, e1, e2, r1, ⟨_, _, f3, _⟩, r3, hw⟩ | ⟨e1, e2⟩
  · have hM : mk_MP (wX 0) d := by rw [r3 0 (by omega)]; exact h3
    obtain ⟨r, g1, g2⟩ := q_deep_4 (c := uC) h1.2.1 hM (fun v hv => (f3 v hv).1) (d 1) 600 0 0 (by omega) (by have := h1.2.1; omega)
    rw [e1, e2, b1_k, b1_k, if_neg one0, if_neg one0, r1, b1_k, h2.2.1]
    unfold f_C_greatestDepth
    rw [show (0 : Int32) = nI 0 from rfl] at g1 g2 ⊢
    rw [g1, g2]
    exact ⟨r, wX, rfl, rfl, hw⟩
  · rw [e1, e2, b1_k, b1_k, if_pos rfl, if_pos rfl]
    exact ⟨_, uX, rfl, rfl, h⟩
