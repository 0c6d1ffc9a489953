/-! pure: worst; end -/
theorem s_end {uR uT uD uY uP uS uC uO uA uX : Nat → Nat → Int32}  (h : mk_Inv uR uT uD uY uP uS uC uO uA uX) (p1 : Int32) : ∃ (r : Int32) (wT : Nat → Nat → Int32) (wX : Nat → Nat → Int32), f_Z_end uT p1 = some (r, wT) ∧ f_X_end uX p1 = some (r, wX) ∧ mk_Inv uR wT uD uY uP uS uC uO uA wX := by
  have h' := h
  obtain ⟨d, tl, a, D, h1, h2, h3, ⟨t0, t1, t2, t3⟩, h5, h6, h7, h8⟩ := h
  obtain ⟨i0, i1⟩ := q_in3 (p := p1) (n := tl) (b := (nI tl).toInt64) (by omega) rfl
  unfold f_Z_end f_X_end
  rw [t1, t2]
  rcases q_rng2 p1 (n := tl) (by omega) with q | q | ⟨j, q, rfl⟩
  · rw [if_pos q, i0 (Or.inl q), b1_k, if_pos rfl]
    exact ⟨_, uT, uX, rfl, rfl, h'⟩
  · rw [i0 (Or.inr q), b1_k, if_pos rfl]
    refine ⟨-1, uT, uX, ?_, rfl, h'⟩
    split
    · rfl
    · rw [if_neg (Int32.not_le.mpr q)]
  · rw [if_neg (lt_f0 (by omega)), if_pos (le_t q (by omega)), i1 j q rfl, b1_k, if_neg one0]
    refine ⟨_, _, _, rfl, rfl, d, j, a, D, h1, h2, h3, ⟨by omega, rfl, rfl, fun i hi => t3 i (by omega)⟩, h5, h6, h7, h8⟩
