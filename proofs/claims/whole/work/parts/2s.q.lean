/-! pure: without -/
theorem q_more {d : Nat → Nat} {uP uC uX uY uS uO : Nat → Nat → Int32} (p : Int32) (hB : mk_BD d) (hC : mk_CP uP d) (hM : mk_MP (uX 0) d) (hn : mk_Now d uC) : ∃ (r : Int32) (wY wS wO wX : Nat → Nat → Int32), f_Y_run uY uP uS uO (nI (d 0)) p (-1) = some (r, wY, wS, wO) ∧ f_X_moreWithout uX p = some (r - uC 9 0, wX) ∧ (∀ k, k < 15 → wX k = uX k) := by
  obtain ⟨wX, r1, ⟨⟨_, _, _, f4, f5, _⟩, _⟩, r3⟩ := q_runs hM hn
  have hM' : mk_MP (wX 0) d := by rw [r3 0 (by omega)]; exact hM
  obtain ⟨wY, wS, wO, vX, g1, g2, ⟨⟨_, _, _, h4, h5, _⟩, _⟩, g4⟩ := q_run (y := uY) (s := uS) (c := uO) p (-1) hB hC hM' hB.1
  refine ⟨wO 9 0, wY, wS, wO, vX, g1, ?_, fun k hk => by rw [g4 k hk, r3 k hk]⟩
  unfold f_X_moreWithout
  rw [r1, b1_k, hM', g2, b1_k, h4, h5, f4, f5]
theorem s_without {uR uT uD uY uP uS uC uO uA uX : Nat → Nat → Int32} (uQ : Nat) (h : mk_Inv uR uT uD uY uP uS uC uO uA uX) (p1 : Int32) : ∃ (r : Int32) (wQ : Nat) (wY : Nat → Nat → Int32) (wS : Nat → Nat → Int32) (wO : Nat → Nat → Int32) (wX : Nat → Nat → Int32), f_Z_without uQ uY uP uS uC uO p1 = some (r, wQ, wY, wS, wO) ∧ f_X_without uX p1 = some (r, wX) ∧ mk_Inv uR uT uD wY uP wS uC wO uA wX := by
  have h' := h
  obtain ⟨d, tl, a, D, h1, h2, h3, _, _, _, _, hnow⟩ := h
  have h5 : d 5 ≤ 10 := h1.2.2.2.2.2.1
  obtain ⟨i0, i1⟩ := q_inM (p := p1) (y := 0) (n := d 5) (a := 0) (b := (nI (d 5) - 1).toInt64) (by omega) rfl rfl
  unfold f_Z_without f_X_without f_P_hasNoise
  rw [h2.2.2.2.2.2.2.1, h3 5]
  rcases q_rng p1 (n := d 5) (by omega) with q | q | ⟨j, q, rfl⟩
  · rw [if_pos q, i0 (Or.inl q), b1_k, b1_k, if_pos rfl, if_pos rfl]
    exact ⟨_, _, _, _, _, uX, rfl, rfl, h'⟩
  · rw [i0 (Or.inr q), b1_k, if_pos rfl]
    refine ⟨-99, uQ, uY, uS, uO, uX, ?_, rfl, h'⟩
    by_cases q0 : p1 < 0
    · rw [if_pos q0, b1_k, if_pos rfl]
    · rw [if_neg q0, if_pos q, b1_k, if_pos rfl]
  · have hn : mk_Now d uC := by
      rcases hnow with ⟨_, z⟩ | ⟨_, _, z⟩
      · exact z
      · omega
    obtain ⟨r, wY, wS, wO, wX, g1, g2, g3⟩ := q_more (uY := uY) (uS := uS) (uO := uO) (nI j) h1 h2 h3 hn
    rw [if_neg (lt_f0 (by omega)), if_neg (le_f q (by omega)), b1_k, if_neg one0, i1 j q rfl, b1_k, if_neg one0, h2.1, g1, b4_k, g2, b2_k]
    exact ⟨_, _, wY, wS, wO, wX, rfl, rfl, mk_Inv_O (mk_Inv_X h' g3)⟩
