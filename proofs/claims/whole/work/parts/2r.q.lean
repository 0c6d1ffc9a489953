/-! pure: by -/
theorem q_isLaw (p : Int32) : (f_Z_isLaw p = some 1 ∧ ∃ l, l ≤ 3 ∧ p = nI l) ∨ (f_Z_isLaw p = some 0 ∧ (p < 0 ∨ nI 3 < p)) := by
  unfold f_Z_isLaw
  rcases q_rng2 p (n := 3) (by omega) with q | q | ⟨j, q, rfl⟩
  · right; rw [if_pos q]; exact ⟨rfl, Or.inl q⟩
  · right
    refine ⟨?_, Or.inr q⟩
    split
    · rfl
    · rw [if_pos (show (3 : Int32) < p from q)]
  · left; rw [if_neg (lt_f0 (by omega)), if_neg (show ¬ (3 : Int32) < nI j from lt_f (a := 3) q (by omega))]; exact ⟨rfl, j, q, rfl⟩
theorem s_by {uR uT uD uY uP uS uC uO uA uX : Nat → Nat → Int32} (uQ : Nat) (h : mk_Inv uR uT uD uY uP uS uC uO uA uX) (p1 p2 : Int32) : ∃ (r : Int32) (wQ : Nat) (wY : Nat → Nat → Int32) (wS : Nat → Nat → Int32) (wO : Nat → Nat → Int32) (wX : Nat → Nat → Int32), f_Z_by uQ uY uP uS uO p1 p2 = some (r, wQ, wY, wS, wO) ∧ f_X_by uX p1 p2 = some (r, wX) ∧ mk_Inv uR uT uD wY uP wS uC wO uA wX := by
  unfold f_Z_by f_X_by
  obtain ⟨i0, i1⟩ := q_in3 (p := p1) (n := 3) (b := 3) (by omega) rfl
  obtain ⟨k0, k1⟩ := q_in3 (p := p2) (n := 3) (b := 3) (by omega) rfl
  rcases q_isLaw p1 with ⟨a1, l, hl, rfl⟩ | ⟨a1, a2⟩
  · rw [a1, b1_k, if_neg one0, i1 l hl rfl]
    rcases q_std h with ⟨d, wX, h1, h2, h3, z0, e1, e2, _⟩ | ⟨e1, e2⟩
    · rw [e1, e2, b1_k, b1_k, if_neg one0, if_neg one0, b1_k, if_neg one0]
      rcases q_rng2 p2 (n := 3) (by omega) with q | q | ⟨j, q, rfl⟩
      · rw [if_pos q, k0 (Or.inl q), b1_k, if_pos rfl]
        exact ⟨_, _, _, _, _, uX, rfl, rfl, h⟩
      · rw [if_pos (show (3 : Int32) < p2 from q), k0 (Or.inr q), b1_k, if_pos rfl]
        refine ⟨-2, uQ, uY, uS, uO, uX, ?_, rfl, h⟩
        split <;> rfl
      · obtain ⟨wY, wS, wO, vX, r1, r2, ⟨hA', _, f3, _⟩, r4⟩ := q_run (y := uY) (s := uS) (c := uO) (-1) (-1) h1 h2 h3 hl
        have hM : mk_MP (vX 0) d := by rw [r4 0 (by omega)]; exact h3
        have hw := mk_Inv_X h r4
        obtain ⟨ra, ga1, ga2⟩ := q_last h1 hM hA'
        obtain ⟨rb, gb1, gb2⟩ := q_coll_4 (c := wO) h1.2.1 hM (fun v hv => ⟨(hA'.1 v hv).1, (hA'.1 v hv).2.2.2⟩) (d 1) 600 0 0 (by omega) (by have := h1.2.1; omega)
        obtain ⟨rc, gc1, gc2⟩ := q_skips_4 (c := wO) h1.2.1 hM (fun v hv => (f3 v hv).2) (d 1) 600 0 0 (by omega) (by have := h1.2.1; omega)
        have gb1' : f_C_collisions wO (nI (d 1)) = some rb := gb1
        have gb2' : f_X_collisions vX = some rb := gb2
        have gc1' : f_C_skipsMade wO (nI (d 1)) = some rc := gc1
        have gc2' : f_X_skipsAll vX = some rc := gc2
        rw [if_neg (lt_f0 (by omega)), if_neg (show ¬ (3 : Int32) < nI j from lt_f (a := 3) q (by omega)), k1 j q rfl, b1_k, if_neg one0, r1, r2, b4_k, b1_k, h2.2.2.2.2.2.1, h2.2.1, ga1, ga2, gb1', gb2', gc1', gc2', hA'.2.2.2.1, hA'.2.2.2.2.1, b1_k, b1_k, b1_k, b1_k, b1_k, b1_k]
        by_cases q0 : nI j = 0
        · rw [if_pos q0, if_pos q0]; exact ⟨_, _, wY, wS, wO, vX, rfl, rfl, hw⟩
        rw [if_neg q0, if_neg q0]
        by_cases q1 : nI j = 1
        · rw [if_pos q1, if_pos q1]; exact ⟨_, _, wY, wS, wO, vX, rfl, rfl, hw⟩
        rw [if_neg q1, if_neg q1]
        by_cases q2 : nI j = 2
        · rw [if_pos q2, if_pos q2]; exact ⟨_, _, wY, wS, wO, vX, rfl, rfl, hw⟩
        · rw [if_neg q2, if_neg q2]; exact ⟨_, _, wY, wS, wO, vX, rfl, rfl, hw⟩
    · rw [e1, e2, b1_k, b1_k, if_pos rfl, if_pos rfl]
      refine ⟨-2, uQ, uY, uS, uO, uX, ?_, rfl, h⟩
      split
      · rfl
      · split <;> rfl
  · rw [a1, b1_k, if_pos rfl, i0 a2]
    refine ⟨-2, uQ, uY, uS, uO, uX, rfl, ?_, h⟩
    rcases q_std h with ⟨d, wX, h1, h2, h3, z0, e1, e2, _⟩ | ⟨e1, e2⟩
    · rw [e2, b1_k, if_neg one0, b1_k, if_pos rfl]
    · rw [e2, b1_k, if_pos rfl]
