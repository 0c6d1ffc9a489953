/-! pure: alone, without -/
theorem s_alone {uR uT uD uY uP uS uC uO uA uX : Nat → Nat → Int32} (uQ : Nat) (h : mk_Inv uR uT uD uY uP uS uC uO uA uX) (p1 : Int32) : ∃ (r : Int32) (wQ : Nat) (wY : Nat → Nat → Int32) (wS : Nat → Nat → Int32) (wO : Nat → Nat → Int32) (wX : Nat → Nat → Int32), f_Z_alone uQ uY uP uS uO p1 = some (r, wQ, wY, wS, wO) ∧ f_X_alone uX p1 = some (r, wX) ∧ mk_Inv uR uT uD wY uP wS uC wO uA wX := by
  unfold f_Z_alone f_X_alone
  rcases q_sndr h p1 with ⟨d, j, wX, h1, h2, h3, z0, hj, rfl, e1, e2, _⟩ | ⟨e1, e2⟩
  · obtain ⟨wY, wS, wO, vX, r1, r2, ⟨⟨_, _, _, f4, f5, _⟩, _⟩, r4⟩ := q_run (y := uY) (s := uS) (c := uO) (-1) (nI j) h1 h2 h3 h1.1
    rw [e1, e2, b1_k, b1_k, if_neg one0, if_neg one0, h2.1, h3 0, r1, r2, b4_k, b1_k, f4, f5]
    exact ⟨_, _, wY, wS, wO, vX, rfl, rfl, mk_Inv_O (mk_Inv_X h r4)⟩
  · rw [e1, e2, b1_k, b1_k, if_pos rfl, if_pos rfl]
    exact ⟨_, _, uY, uS, uO, uX, rfl, rfl, h⟩
