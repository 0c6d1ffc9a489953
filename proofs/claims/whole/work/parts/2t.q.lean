/-! pure: worst; end -/
theorem s_end {uR uT uD uY uP uS uC uO uA uX : Nat → Nat → Int32}  (h : mk_Inv uR uT uD uY uP uS uC uO uA uX) (p1 : Int32) : ∃ (r : Int32) (wT : Nat → Nat → Int32) (wX : Nat → Nat → Int32), f_Z_end uT p1 = some (r, wT) ∧ f_X_end uX p1 = some (r, wX) ∧ mk_Inv uR wT uD uY uP uS uC uO uA wX := by
  have h' := h
  obtain ⟨d, tl, a, D, h1, h2, h3, ⟨t0, t1, t2, t3⟩, h5, h6, h7, h8⟩ := h
  obtain ⟨i0, i1⟩ := q_in3 (p := p1) (n := tl) (b := (nI tl).toInt64) (by omega) rfl
  unfold f_Z_end f_X_end
  rw [t1, t2]
  rcases q_rng2 p1 (n := tl) (by omega) with q | q | ⟨j, q, rfl⟩
  · rw [if_pos q, i0 (Or.inl q), b1_k, if_pos rfl]
    exact ⟨_, uT, uX, rfl, rfl, h'⟩
  · rw [i0 (Or.inr q), b1_k, if_pos rfl]
    refine ⟨-1, uT, uX, ?_, rfl, h'⟩
    split
    · rfl
    · rw [if_neg (Int32.not_le.mpr q)]
  · rw [if_neg (lt_f0 (by omega)), if_pos (le_t q (by omega)), i1 j q rfl, b1_k, if_neg one0]
    refine ⟨_, _, _, rfl, rfl, d, j, a, D, h1, h2, h3, ⟨by omega, rfl, rfl, fun i hi => t3 i (by omega)⟩, h5, h6, h7, h8⟩
theorem q_worst {d : Nat → Nat} {uP uC : Nat → Nat → Int32} (hB : mk_BD d) (hC : mk_CP uP d) (hn : mk_Now d uC) : ∀ k n i (v w : Int32) (uQ : Nat) (uY uS uO uX : Nat → Nat → Int32), i + k = d 5 → k < n → mk_MP (uX 0) d → ∃ (r : Int32) (wQ : Nat) (wY wS wO wX : Nat → Nat → Int32), f_Z_worst_19 uP uC n v w (nI i) uQ uY uS uO = some (r, wQ, wY, wS, wO) ∧ f_X_worst_16 n v w (nI i) uX = some (r, wX) ∧ (∀ k, k < 15 → wX k = uX k)
  | 0, n, i, v, w, uQ, uY, uS, uO, uX, hk, hn', hM => by
    have h5 : d 5 ≤ 10 := hB.2.2.2.2.2.1
    obtain ⟨n, rfl, hn''⟩ := q_fu hn'
    rw [f_Z_worst_19, f_X_worst_16, hC.2.2.2.2.2.2.1, hM 5, if_pos (le_t (by omega) (by omega)), if_pos (le_t (by omega) (by omega))]
    exact ⟨_, _, _, _, _, uX, rfl, rfl, fun _ _ => rfl⟩
  | k + 1, n, i, v, w, uQ, uY, uS, uO, uX, hk, hn', hM => by
    have h5 : d 5 ≤ 10 := hB.2.2.2.2.2.1
    obtain ⟨n, rfl, hn''⟩ := q_fu hn'
    obtain ⟨r, wY, wS, wO, wX, g1, g2, g3⟩ := q_more (uY := uY) (uS := uS) (uO := uO) (nI i) hB hC hM hn
    have hM' : mk_MP (wX 0) d := by rw [g3 0 (by omega)]; exact hM
    rw [f_Z_worst_19, f_X_worst_16, hC.2.2.2.2.2.2.1, hM 5, if_neg (le_f (by omega) (by omega)), if_neg (le_f (by omega) (by omega)), hC.1, g1, b4_k, g2, b2_k, pu_one]
    by_cases q : r - uC 9 0 ≤ w
    · rw [if_pos q, if_pos q]
      obtain ⟨r', wQ, vY, vS, vO, vX, f1, f2, f3⟩ := q_worst hB hC hn k n (i + 1) v w 1 wY wS wO wX (by omega) (by omega) hM'
      exact ⟨r', wQ, vY, vS, vO, vX, f1, f2, fun k hk => by rw [f3 k hk, g3 k hk]⟩
    · rw [if_neg q, if_neg q]
      obtain ⟨r', wQ, vY, vS, vO, vX, f1, f2, f3⟩ := q_worst hB hC hn k n (i + 1) (nI i) (r - uC 9 0) 1 wY wS wO wX (by omega) (by omega) hM'
      exact ⟨r', wQ, vY, vS, vO, vX, f1, f2, fun k hk => by rw [f3 k hk, g3 k hk]⟩
theorem s_worst {uR uT uD uY uP uS uC uO uA uX : Nat → Nat → Int32} (uQ : Nat) (h : mk_Inv uR uT uD uY uP uS uC uO uA uX) : ∃ (r : Int32) (wQ : Nat) (wY : Nat → Nat → Int32) (wS : Nat → Nat → Int32) (wO : Nat → Nat → Int32) (wX : Nat → Nat → Int32), f_Z_worst uQ uY uP uS uC uO = some (r, wQ, wY, wS, wO) ∧ f_X_worst uX = some (r, wX) ∧ mk_Inv uR uT uD wY uP wS uC wO uA wX := by
  have h' := h
  obtain ⟨d, tl, a, D, h1, h2, h3, _, _, _, _, hnow⟩ := h
  have h5 : d 5 ≤ 10 := h1.2.2.2.2.2.1
  unfold f_Z_worst f_X_worst
  rw [q_stands h1 h2, q_is h1 h3, b1_k, b1_k]
  rcases hnow with ⟨z0, hn⟩ | ⟨z0, _⟩
  · obtain ⟨r, wQ, wY, wS, wO, wX, f1, f2, f3⟩ := q_worst h1 h2 hn (d 5) 600 0 (-1) 0 uQ uY uS uO uX (by omega) (by omega) h3
    rw [if_pos z0, if_neg one0, if_neg one0]
    exact ⟨r, wQ, wY, wS, wO, wX, f1, f2, mk_Inv_O (mk_Inv_X h' f3)⟩
  · rw [if_neg (show ¬ 0 < d 1 by omega), if_pos rfl, if_pos rfl]
    exact ⟨_, _, _, _, _, uX, rfl, rfl, h'⟩
