/-! pure: questions about senders and the whole run -/
theorem q_sndr {uR uT uD uY uP uS uC uO uA uX : Nat → Nat → Int32}  (h : mk_Inv uR uT uD uY uP uS uC uO uA uX) (p : Int32) : (∃ (d : Nat → Nat) (j : Nat) (wX : Nat → Nat → Int32), mk_BD d ∧ mk_CP uP d ∧ mk_MP (uX 0) d ∧ 0 < d 1 ∧ j < d 4 ∧ p = nI j ∧ f_P_hasSender uP p = some 1 ∧ f_X_isSender uX p = some 1 ∧ f_X_runs uX = some wX ∧ hFin d uC wX ∧ (∀ k, k < 15 → wX k = uX k) ∧ mk_Inv uR uT uD uY uP uS uC uO uA wX) ∨ (f_P_hasSender uP p = some 0 ∧ f_X_isSender uX p = some 0) := by
  have h' := h
  obtain ⟨d, tl, a, D, h1, h2, h3, _, _, _, _, hnow⟩ := h
  rcases q_hasSender h1 h2 p with ⟨e1, j, hj, e2⟩ | ⟨e1, e2⟩
  · left
    rcases hnow with ⟨z0, z⟩ | ⟨_, z, _⟩
    · obtain ⟨wX, r1, r2, r3⟩ := q_runs h3 z
      exact ⟨d, j, wX, h1, h2, h3, z0, hj, e2, e1, (q_isSender h1 h3 p).2 j hj e2, r1, r2, r3, mk_Inv_X h' r3⟩
    · omega
  · right
    exact ⟨e1, (q_isSender h1 h3 p).1 e2⟩
theorem q_std {uR uT uD uY uP uS uC uO uA uX : Nat → Nat → Int32}  (h : mk_Inv uR uT uD uY uP uS uC uO uA uX) : (∃ (d : Nat → Nat) (wX : Nat → Nat → Int32), mk_BD d ∧ mk_CP uP d ∧ mk_MP (uX 0) d ∧ 0 < d 1 ∧ f_P_stands uP = some 1 ∧ f_X_is uX = some 1 ∧ f_X_runs uX = some wX ∧ hFin d uC wX ∧ (∀ k, k < 15 → wX k = uX k) ∧ mk_Inv uR uT uD uY uP uS uC uO uA wX) ∨ (f_P_stands uP = some 0 ∧ f_X_is uX = some 0) := by
  have h' := h
  obtain ⟨d, tl, a, D, h1, h2, h3, _, _, _, _, hnow⟩ := h
  rcases hnow with ⟨z0, z⟩ | ⟨z0, _⟩
  · left
    obtain ⟨wX, r1, r2, r3⟩ := q_runs h3 z
    refine ⟨d, wX, h1, h2, h3, z0, ?_, ?_, r1, r2, r3, mk_Inv_X h' r3⟩
    · rw [q_stands h1 h2, if_pos z0]
    · rw [q_is h1 h3, if_pos z0]
  · right
    rw [q_stands h1 h2, q_is h1 h3, if_neg (by omega)]
    exact ⟨rfl, rfl⟩
theorem s_delivered {uR uT uD uY uP uS uC uO uA uX : Nat → Nat → Int32}  (h : mk_Inv uR uT uD uY uP uS uC uO uA uX) (p1 : Int32) : ∃ (r : Int32) (wX : Nat → Nat → Int32), f_Z_delivered uP uC p1 = some r ∧ f_X_delivered uX p1 = some (r, wX) ∧ mk_Inv uR uT uD uY uP uS uC uO uA wX := by
  unfold f_Z_delivered f_X_delivered
  rcases q_sndr h p1 with ⟨d, j, wX, h1, h2, h3, z0, hj, rfl, e1, e2, r1, ⟨⟨_, _, f3, _⟩, _⟩, r3, hw⟩ | ⟨e1, e2⟩
  · have h4 : d 4 ≤ 10 := h1.2.2.2.2.1
    rw [e1, e2, b1_k, b1_k, if_neg one0, if_neg one0, r1, b1_k, gI_ok (by omega) (by omega), pu_cl (by omega), mkAt_ok (by omega) (by omega), (f3 j hj).1]
    exact ⟨_, wX, rfl, rfl, hw⟩
  · rw [e1, e2, b1_k, b1_k, if_pos rfl, if_pos rfl]
    exact ⟨_, uX, rfl, rfl, h⟩
theorem s_taken {uR uT uD uY uP uS uC uO uA uX : Nat → Nat → Int32}  (h : mk_Inv uR uT uD uY uP uS uC uO uA uX) (p1 : Int32) : ∃ (r : Int32) (wX : Nat → Nat → Int32), f_Z_taken uP uC p1 = some r ∧ f_X_taken uX p1 = some (r, wX) ∧ mk_Inv uR uT uD uY uP uS uC uO uA wX := by
  unfold f_Z_taken f_X_taken
  rcases q_sndr h p1 with ⟨d, j, wX, h1, h2, h3, z0, hj, rfl, e1, e2, r1, ⟨_, ⟨tk, _, f3⟩, _⟩, r3, hw⟩ | ⟨e1, e2⟩
  · have h4 : d 4 ≤ 10 := h1.2.2.2.2.1
    rw [e1, e2, b1_k, b1_k, if_neg one0, if_neg one0, r1, b1_k, gI_ok (by omega) (by omega), pu_cl (by omega), mkAt_ok (by omega) (by omega), (f3 j hj).1, (f3 j hj).2]
    exact ⟨_, wX, rfl, rfl, hw⟩
  · rw [e1, e2, b1_k, b1_k, if_pos rfl, if_pos rfl]
    exact ⟨_, uX, rfl, rfl, h⟩
theorem s_sends {uR uT uD uY uP uS uC uO uA uX : Nat → Nat → Int32}  (h : mk_Inv uR uT uD uY uP uS uC uO uA uX) (p1 p2 : Int32) : ∃ (r : Int32) (wX : Nat → Nat → Int32), f_Z_sends uP uC p1 p2 = some r ∧ f_X_sends uX p1 p2 = some (r, wX) ∧ mk_Inv uR uT uD uY uP uS uC uO uA wX := by
  have h' := h
  obtain ⟨d', tl, a, D, h1', h2', h3', _, _, _, _, _⟩ := h'
  unfold f_Z_sends f_X_sends
  rcases q_hasSlot h1' h2' h3' p1 with ⟨a1, a2, i, hi, rfl⟩ | ⟨a1, a2⟩
  · rw [a1, a2, b1_k, b1_k, if_neg one0, if_neg one0]
    rcases q_sndr h p2 with ⟨d, j, wX, h1, h2, h3, z0, hj, rfl, e1, e2, r1, ⟨⟨f1, _⟩, _⟩, r3, hw⟩ | ⟨e1, e2⟩
    · have h4 : d 4 ≤ 10 := h1.2.2.2.2.1
      have hd1 : d 1 ≤ 200 := h1.2.1
      have hd1' : d' 1 ≤ 200 := h1'.2.1
      have hi' : i < d 1 := by
        have := h2'.2.1
        rw [h2.2.1] at this
        have := pu_inj (by omega) (by omega) this
        omega
      obtain ⟨g0, g1, g2, P, gP⟩ := f1 i hi'
      rw [e1, e2, b1_k, b1_k, if_neg one0, if_neg one0, r1, b1_k, gI_ok (by omega) (by omega), pu_cl (by omega), mkAt_ok (by omega) (by omega), g0, gP, mz_bv (by omega)]
      cases hp : P j
      · rw [mz_hasF (by omega) hp, b1_k, if_pos rfl]
        exact ⟨_, wX, rfl, rfl, hw⟩
      · rw [mz_hasT (by omega) hp, b1_k, if_neg one0]
        exact ⟨_, wX, rfl, rfl, hw⟩
    · rw [e1, e2, b1_k, b1_k, if_pos rfl, if_pos rfl]
      exact ⟨_, uX, rfl, rfl, h⟩
  · rw [a1, a2, b1_k, b1_k, if_pos rfl, if_pos rfl]
    exact ⟨_, uX, rfl, rfl, h⟩
theorem s_all {uR uT uD uY uP uS uC uO uA uX : Nat → Nat → Int32}  (h : mk_Inv uR uT uD uY uP uS uC uO uA uX) : ∃ (r : Int32) (wX : Nat → Nat → Int32), f_Z_all uP uC = some r ∧ f_X_all uX = some (r, wX) ∧ mk_Inv uR uT uD uY uP uS uC uO uA wX := by
  unfold f_Z_all f_X_all
  rcases q_std h with ⟨d, wX, h1, h2, h3, z0, e1, e2, r1, ⟨⟨_, _, _, f4, f5, _⟩, _⟩, r3, hw⟩ | ⟨e1, e2⟩
  · rw [e1, e2, b1_k, b1_k, if_neg one0, if_neg one0, r1, b1_k, f4, f5]
    exact ⟨_, wX, rfl, rfl, hw⟩
  · rw [e1, e2, b1_k, b1_k, if_pos rfl, if_pos rfl]
    exact ⟨_, uX, rfl, rfl, h⟩
theorem s_epochs {uR uT uD uY uP uS uC uO uA uX : Nat → Nat → Int32}  (h : mk_Inv uR uT uD uY uP uS uC uO uA uX) : ∃ (r : Int32) (wX : Nat → Nat → Int32), f_Z_epochs uP uC = some r ∧ f_X_epochs uX = some (r, wX) ∧ mk_Inv uR uT uD uY uP uS uC uO uA wX := by
  unfold f_Z_epochs f_X_epochs
  rcases q_std h with ⟨d, wX, h1, h2, h3, z0, e1, e2, r1, ⟨_, _, _, e, f4, f5, _⟩, r3, hw⟩ | ⟨e1, e2⟩
  · rw [e1, e2, b1_k, b1_k, if_neg one0, if_neg one0, r1, b1_k, f4, f5]
    exact ⟨_, wX, rfl, rfl, hw⟩
  · rw [e1, e2, b1_k, b1_k, if_pos rfl, if_pos rfl]
    exact ⟨_, uX, rfl, rfl, h⟩
