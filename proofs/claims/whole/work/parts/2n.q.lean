/-! pure: epoch, sender, noise -/
theorem s_epoch {uR uT uD uY uP uS uC uO uA uX : Nat → Nat → Int32}  (h : mk_Inv uR uT uD uY uP uS uC uO uA uX) (p1 p2 : Int32) : ∃ (r : Int32) (wX : Nat → Nat → Int32), f_Z_epoch uP uC p1 p2 = some r ∧ f_X_epoch uX p1 p2 = some (r, wX) ∧ mk_Inv uR uT uD uY uP uS uC uO uA wX := by
  unfold f_Z_epoch f_X_epoch
  obtain ⟨i0, i1⟩ := q_in3 (p := p2) (n := 2) (b := 2) (by omega) rfl
  rcases q_std h with ⟨d, wX, h1, h2, h3, z0, e1, e2, r1, ⟨_, _, _, e, f1, f2, f3, f4⟩, r3, hw⟩ | ⟨e1, e2⟩
  · have hd1 : d 1 ≤ 200 := h1.2.1
    rw [e1, e2, b1_k, b1_k, if_neg one0, if_neg one0]
    by_cases q1 : p1 < 0
    · rw [if_pos q1, if_pos q1]; exact ⟨_, uX, rfl, rfl, h⟩
    rw [if_neg q1, if_neg q1]
    rcases q_rng2 p2 (n := 2) (by omega) with q | q | ⟨j, q, rfl⟩
    · rw [if_pos q, i0 (Or.inl q), b1_k, if_pos rfl]
      exact ⟨_, uX, rfl, rfl, h⟩
    · have q' : (2 : Int32) < p2 := q
      rw [if_pos q', i0 (Or.inr q), b1_k, if_pos rfl]
      refine ⟨-2, uX, ?_, rfl, h⟩
      split <;> rfl
    · rw [if_neg (lt_f0 (by omega)), if_neg (show ¬ (2 : Int32) < nI j from lt_f (a := 2) q (by omega)), i1 j q rfl, b1_k, if_neg one0, r1, b1_k, f1, f2]
      by_cases q2 : p1 < nI e
      · obtain ⟨m, hm, rfl⟩ := nI_of q1
        have hme : m < e := (nI_ltI hm (by omega)).mp q2
        obtain ⟨g1, g2, g3⟩ := f4 m hme
        rw [if_pos q2, if_pos q2, gI_ok (by omega) (by omega), gI_ok (by omega) (by omega), gI_ok (by omega) (by omega), pu_cl hm, mkAt_ok (by omega) (by omega), mkAt_ok (by omega) (by omega), mkAt_ok (by omega) (by omega), g1, g2, g3]
        refine ⟨if nI j = 0 then wX 35 m else if nI j = 1 then wX 36 m else wX 37 m, wX, ?_, ?_, hw⟩
        · split
          · rfl
          · split <;> rfl
        · split
          · rfl
          · split <;> rfl
      · rw [if_neg q2, if_neg q2]; exact ⟨_, wX, rfl, rfl, hw⟩
  · rw [e1, e2, b1_k, b1_k, if_pos rfl, if_pos rfl]
    refine ⟨-2, uX, ?_, rfl, h⟩
    split
    · rfl
    · split
      · rfl
      · split <;> rfl
theorem s_sender {uR uT uD uY uP uS uC uO uA uX : Nat → Nat → Int32}  (h : mk_Inv uR uT uD uY uP uS uC uO uA uX) (p1 p2 : Int32) : ∃ (r : Int32) , f_Z_sender uP p1 p2 = some r ∧ f_X_sender uX p1 p2 = some r ∧ mk_Inv uR uT uD uY uP uS uC uO uA uX := by
  unfold f_Z_sender f_X_sender
  obtain ⟨i0, i1⟩ := q_in3 (p := p2) (n := 13) (b := 13) (by omega) rfl
  rcases q_sndr h p1 with ⟨d, j, wX, h1, h2, h3, z0, hj, rfl, e1, e2, _⟩ | ⟨e1, e2⟩
  · have h4 : d 4 ≤ 10 := h1.2.2.2.2.1
    obtain ⟨w1, w2, w3⟩ := q_bw h1 hj
    obtain ⟨c7, c8, c9⟩ := h2.2.2.2.2.2.2.2.1 j hj
    rw [e1, e2, b1_k, b1_k, if_neg one0, if_neg one0]
    rcases q_rng2 p2 (n := 13) (by omega) with q | q | ⟨k, q, rfl⟩
    · rw [if_pos q, i0 (Or.inl q), b1_k, if_pos rfl]
      exact ⟨_, rfl, rfl, h⟩
    · have q' : ¬ p2 ≤ 13 := Int32.not_le.mpr q
      rw [if_neg q', i0 (Or.inr q), b1_k, if_pos rfl]
      refine ⟨-2, ?_, rfl, h⟩
      split <;> rfl
    · rw [if_neg (lt_f0 (by omega)), if_pos (show nI k ≤ 13 from le_t (b := 13) q (by omega)), i1 k q rfl, b1_k, if_neg one0, mkAt_ok (by omega) (by omega), mkAt_ok (by omega) (by omega), c7, c8, q_p7, q_p17, gI_ok (by omega) (by omega), gI_ok (by omega) (by omega), gI_ok (by omega) (by omega), pu_cl (by omega), pu_cl (by omega), h3, h3]
      by_cases k0 : k = 0
      · subst k0
        rw [if_pos (show nI 0 = 0 from rfl), if_neg (show ¬ (2 : Int32) ≤ nI 0 by decide), if_pos (show nI 0 = 0 from rfl)]
        exact ⟨_, rfl, rfl, h⟩
      by_cases k1 : k = 1
      · subst k1
        rw [if_neg (show ¬ nI 1 = 0 by decide), if_pos (show nI 1 = 1 from rfl), if_neg (show ¬ (2 : Int32) ≤ nI 1 by decide), if_neg (show ¬ nI 1 = 0 by decide)]
        exact ⟨_, rfl, rfl, h⟩
      rw [if_neg (eq_f0 k0 (by omega)), if_neg (show ¬ nI k = 1 from eq_f (b := 1) k1 (by omega) (by omega)), if_pos (show (2 : Int32) ≤ nI k from le_t (a := 2) (by omega) (by omega)), show nI k - 2 = nI (k - 2) from pk_sub (b := 2) (by omega)]
      by_cases hle : d (17 + j) ≤ k - 2
      · rw [if_pos (le_t hle (by omega)), if_pos (le_t hle (by omega))]
        exact ⟨_, rfl, rfl, h⟩
      · rw [if_neg (le_f (by omega) (by omega)), if_neg (le_f (by omega) (by omega))]
        have hb := q_bitv h1 (k := k - 2) hj (by omega)
        have hm : (k - 2) % d (17 + j) = k - 2 := Nat.mod_eq_of_lt (by omega)
        have hrem := pk_rem (a := k - 2) (d := d (17 + j)) (by omega) (by omega) (by omega)
        rw [hm] at hrem
        unfold f_P_bit f_X_bitOf
        rw [mkAt_ok (by omega) (by omega), mkAt_ok (by omega) (by omega), c8, c9, q_p27, q_p17, gI_ok (by omega) (by omega), gI_ok (by omega) (by omega), pu_cl (by omega), pu_cl (by omega), h3, h3, gN, if_neg (eq_f0 (by omega) (by omega)), hb]
        rw [hrem] at hb
        rw [hb, b1_k]
        exact ⟨_, rfl, rfl, h⟩
  · rw [e1, e2, b1_k, b1_k, if_pos rfl, if_pos rfl]
    exact ⟨_, rfl, rfl, h⟩
theorem s_noise {uR uT uD uY uP uS uC uO uA uX : Nat → Nat → Int32}  (h : mk_Inv uR uT uD uY uP uS uC uO uA uX) (p1 p2 : Int32) : ∃ (r : Int32) , f_Z_noise uP p1 p2 = some r ∧ f_X_noise uX p1 p2 = some r ∧ mk_Inv uR uT uD uY uP uS uC uO uA uX := by
  have h' := h
  obtain ⟨d, tl, a, D, h1, h2, h3, _⟩ := h
  have h5 : d 5 ≤ 10 := h1.2.2.2.2.2.1
  obtain ⟨j0, j1⟩ := q_in3 (p := p2) (n := 1) (b := 1) (by omega) rfl
  obtain ⟨i0, i1⟩ := q_inM (p := p1) (y := 0) (n := d 5) (a := 0) (b := (nI (d 5) - 1).toInt64) (by omega) rfl rfl
  unfold f_Z_noise f_X_noise f_P_hasNoise
  rw [h2.2.2.2.2.2.2.1, h3]
  rcases q_rng p1 (n := d 5) (by omega) with q | q | ⟨j, q, rfl⟩
  · rw [if_pos q, i0 (Or.inl q), b1_k, b1_k, if_pos rfl, if_pos rfl]
    exact ⟨_, rfl, rfl, h'⟩
  · rw [i0 (Or.inr q), b1_k, if_pos rfl]
    refine ⟨-2, ?_, rfl, h'⟩
    by_cases q0 : p1 < 0
    · rw [if_pos q0, b1_k, if_pos rfl]
    · rw [if_neg q0, if_pos q, b1_k, if_pos rfl]
  · obtain ⟨c1, c2⟩ := h2.2.2.2.2.2.2.2.2 j q
    rw [if_neg (lt_f0 (by omega)), if_neg (le_f q (by omega)), b1_k, if_neg one0, i1 j q rfl, b1_k, if_neg one0, mkAt_ok (by omega) (by omega), mkAt_ok (by omega) (by omega), c1, c2, q_p37, q_p47, gI_ok (by omega) (by omega), gI_ok (by omega) (by omega), pu_cl (by omega), pu_cl (by omega), h3, h3]
    by_cases z0 : p2 = 0
    · rw [j1 0 (by omega) z0, b1_k, if_neg one0, if_pos z0, if_pos z0]
      exact ⟨_, rfl, rfl, h'⟩
    by_cases z1 : p2 = 1
    · rw [j1 1 (by omega) z1, b1_k, if_neg one0, if_neg z0, if_neg z0, if_pos z1]
      exact ⟨_, rfl, rfl, h'⟩
    · have e : f_X_in p2.toInt64 0 1 = some 0 := by
        rcases q_rng2 p2 (n := 1) (by omega) with y | y | ⟨m, y, rfl⟩
        · exact j0 (Or.inl y)
        · exact j0 (Or.inr y)
        · exfalso
          have : m = 0 ∨ m = 1 := by omega
          rcases this with rfl | rfl
          · exact z0 rfl
          · exact z1 rfl
      rw [e, b1_k, if_pos rfl, if_neg z0, if_neg z1]
      exact ⟨_, rfl, rfl, h'⟩
