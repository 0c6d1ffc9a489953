/-! pure: questions -/
theorem s_fault {uR uT uD uY uP uS uC uO uA uX : Nat → Nat → Int32}  (h : mk_Inv uR uT uD uY uP uS uC uO uA uX) (p1 : Int32) : ∃ (r : Int32) , f_Z_fault uR p1 = some r ∧ f_X_fault uX p1 = some r ∧ mk_Inv uR uT uD uY uP uS uC uO uA uX := by
  have h' := h
  obtain ⟨d, tl, a, D, h1, h2, h3, h4, ⟨h5, h6⟩, h7, h8, h9⟩ := h
  unfold f_Z_fault f_X_fault
  rw [h5, h6]
  refine ⟨if p1 = 0 then uX 6 0 else if p1 = 1 then uX 7 0 else -1, ?_, ?_, h'⟩
  · split
    · rfl
    · split <;> rfl
  · split
    · rfl
    · split <;> rfl
theorem s_count {uR uT uD uY uP uS uC uO uA uX : Nat → Nat → Int32}  (h : mk_Inv uR uT uD uY uP uS uC uO uA uX) (p1 : Int32) : ∃ (r : Int32) , f_Z_count uT uP uA p1 = some r ∧ f_X_count uX p1 = some r ∧ mk_Inv uR uT uD uY uP uS uC uO uA uX := by
  have h' := h
  obtain ⟨d, tl, a, D, h1, ⟨c0, c1, c2, c3, c4, c5, c6, _⟩, h3, ⟨_, t1, t2, _⟩, _, _, ⟨_, a1, a2, _⟩, _⟩ := h
  unfold f_Z_count f_X_count
  rw [c0, c1, c2, c3, c4, c5, c6, t1, a1, t2, a2]
  by_cases q0 : p1 = 0
  · subst q0; exact ⟨_, rfl, congrArg some (h3 0), h'⟩
  by_cases q1 : p1 = 1
  · subst q1; exact ⟨_, rfl, congrArg some (h3 1), h'⟩
  by_cases q2 : p1 = 2
  · subst q2; exact ⟨_, rfl, congrArg some (h3 2), h'⟩
  by_cases q3 : p1 = 3
  · subst q3; exact ⟨_, rfl, congrArg some (h3 3), h'⟩
  by_cases q4 : p1 = 4
  · subst q4; exact ⟨_, rfl, congrArg some (h3 4), h'⟩
  by_cases q5 : p1 = 5
  · subst q5; exact ⟨_, rfl, congrArg some (h3 5), h'⟩
  by_cases q6 : p1 = 6
  · subst q6; exact ⟨_, rfl, rfl, h'⟩
  by_cases q7 : p1 = 7
  · subst q7; exact ⟨_, rfl, congrArg some (h3 6), h'⟩
  by_cases q8 : p1 = 8
  · subst q8; exact ⟨_, rfl, rfl, h'⟩
  refine ⟨-1, ?_, ?_, h'⟩
  · rw [if_neg q0, if_neg q1, if_neg q2, if_neg q3, if_neg q4, if_neg q5, if_neg q6, if_neg q7, if_neg q8]
  · rw [if_neg q0, if_neg q1, if_neg q2, if_neg q3, if_neg q4, if_neg q5, if_neg q6, if_neg q7, if_neg q8]
theorem q_hasSlot {d : Nat → Nat} {u x : Nat → Nat → Int32} (hB : mk_BD d) (hC : mk_CP u d) (hM : mk_MP (x 0) d) (p : Int32) : (f_P_hasSlot u p = some 1 ∧ f_X_isSlot x p = some 1 ∧ ∃ j, j < d 1 ∧ p = nI j) ∨ (f_P_hasSlot u p = some 0 ∧ f_X_isSlot x p = some 0) := by
  have h1 : d 1 ≤ 200 := hB.2.1
  obtain ⟨a, b⟩ := q_inM (p := p) (y := 0) (n := d 1) (a := 0) (b := (nI (d 1) - 1).toInt64) (by omega) rfl rfl
  unfold f_P_hasSlot f_X_isSlot
  rw [hC.2.1, q_is hB hM, b1_k, hM]
  have no : f_X_in p.toInt64 0 (nI (d 1) - 1).toInt64 = some 0 → (if (if 0 < d 1 then (1 : Int32) else 0) = 0 then some (0 : Int32) else b1 (f_X_in p.toInt64 0 (nI (d 1) - 1).toInt64) (fun r4 => if r4 = 0 then some 0 else some 1)) = some 0 := by
    intro e
    by_cases hd : 0 < d 1
    · rw [if_pos hd, if_neg (by decide), e, b1_k, if_pos rfl]
    · rw [if_neg hd, if_pos rfl]
  rcases q_rng p (n := d 1) (by omega) with q | q | ⟨j, q, rfl⟩
  · right
    rw [if_pos q]
    exact ⟨rfl, no (a (Or.inl q))⟩
  · right
    refine ⟨?_, no (a (Or.inr q))⟩
    by_cases q0 : p < 0
    · rw [if_pos q0]
    · rw [if_neg q0, if_pos q]
  · left
    rw [if_neg (lt_f0 (by omega)), if_neg (le_f q (by omega)), if_pos (show 0 < d 1 by omega), if_neg (by decide), b j q rfl, b1_k, if_neg (by decide)]
    exact ⟨rfl, rfl, j, q, rfl⟩
theorem one0 : ¬ (1 : Int32) = 0 := by decide
theorem s_slot {uR uT uD uY uP uS uC uO uA uX : Nat → Nat → Int32}  (h : mk_Inv uR uT uD uY uP uS uC uO uA uX) (p1 p2 : Int32) : ∃ (r : Int32) (wX : Nat → Nat → Int32), f_Z_slot uP uC p1 p2 = some r ∧ f_X_slot uX p1 p2 = some (r, wX) ∧ mk_Inv uR uT uD uY uP uS uC uO uA wX := by
  have h' := h
  obtain ⟨d, tl, a, D, h1, h2, h3, _, _, _, _, hnow⟩ := h
  have hd1 : d 1 ≤ 200 := h1.2.1
  unfold f_Z_slot f_X_slot
  rcases q_hasSlot h1 h2 h3 p1 with ⟨e1, e2, j, hj, rfl⟩ | ⟨e1, e2⟩
  · rw [e1, e2, b1_k, b1_k, if_neg one0, if_neg one0]
    have hn : mk_Now d uC := by
      rcases hnow with ⟨_, z⟩ | ⟨z, _⟩
      · exact z
      · omega
    obtain ⟨wX, r1, ⟨⟨f1, _⟩, _, f3, _⟩, r3⟩ := q_runs h3 hn
    have hw := mk_Inv_X h' r3
    obtain ⟨g0, g1, g2, P, gP⟩ := f1 j hj
    obtain ⟨g3, g4⟩ := f3 j hj
    rw [r1, mkAt_ok (by omega) (by omega), mkAt_ok (by omega) (by omega), mkAt_ok (by omega) (by omega), mkAt_ok (by omega) (by omega), mkAt_ok (by omega) (by omega), b1_k, pu_cl (by omega), g0, g1, g2, g3, g4]
    have e4 : ∀ m, m < 5 → p2 = nI m → f_X_in p2.toInt64 0 4 = some 1 := fun m hm e => by
      subst e; exact q_inY (y := 0) (z := 4) rfl rfl (le_t (a := 0) (by omega) (by omega)) (le_t (b := 4) (by omega) (by omega))
    by_cases z0 : p2 = 0
    · rw [e4 0 (by omega) z0, b1_k, if_neg one0, if_pos z0, if_pos z0, gI_ok (by omega) (by omega), gP, mz_bitsX, mz_bits, b1_k]
      exact ⟨_, wX, rfl, rfl, hw⟩
    rw [if_neg z0, if_neg z0]
    by_cases z1 : p2 = 1
    · rw [e4 1 (by omega) z1, b1_k, if_neg one0, if_pos z1, if_pos z1, gI_ok (by omega) (by omega)]
      exact ⟨_, wX, rfl, rfl, hw⟩
    rw [if_neg z1, if_neg z1]
    by_cases z2 : p2 = 2
    · rw [e4 2 (by omega) z2, b1_k, if_neg one0, if_pos z2, if_pos z2, gI_ok (by omega) (by omega)]
      exact ⟨_, wX, rfl, rfl, hw⟩
    rw [if_neg z2, if_neg z2]
    by_cases z3 : p2 = 3
    · rw [e4 3 (by omega) z3, b1_k, if_neg one0, if_pos z3, if_pos z3, gI_ok (by omega) (by omega)]
      exact ⟨_, wX, rfl, rfl, hw⟩
    rw [if_neg z3, if_neg z3]
    by_cases z4 : p2 = 4
    · rw [e4 4 (by omega) z4, b1_k, if_neg one0, if_pos z4, gI_ok (by omega) (by omega)]
      exact ⟨_, wX, rfl, rfl, hw⟩
    · have e : f_X_in p2.toInt64 0 4 = some 0 := by
        rcases q_rng p2 (n := 5) (by omega) with q | q | ⟨m, q, rfl⟩
        · exact q_inL (z := 4) rfl rfl q
        · exact q_inR (z := 4) (y := 0) rfl rfl (by rw [Int32.lt_iff_toInt_lt]; rw [Int32.le_iff_toInt_le] at q; have e5 : (nI 5).toInt = 5 := rfl; have e4 : (4 : Int32).toInt = 4 := rfl; omega)
        · exfalso
          have : m = 0 ∨ m = 1 ∨ m = 2 ∨ m = 3 ∨ m = 4 := by omega
          rcases this with rfl | rfl | rfl | rfl | rfl
          · exact z0 rfl
          · exact z1 rfl
          · exact z2 rfl
          · exact z3 rfl
          · exact z4 rfl
      rw [e, b1_k, if_pos rfl, if_neg z4]
      exact ⟨_, uX, rfl, rfl, h'⟩
  · rw [e1, e2, b1_k, b1_k, if_pos rfl, if_pos rfl]
    exact ⟨_, uX, rfl, rfl, h'⟩
