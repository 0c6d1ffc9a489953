def mk_Inv (uR uT uD uY uP uS uC uO uA uX : Nat → Nat → Int32) : Prop := uX = uX
theorem mk_Inv_0 : mk_Inv (upF 7 (-1) mk_z) mk_z mk_z mk_z mk_z mk_z mk_z mk_z mk_z (upF 7 (-1) mk_z) := by sorry
theorem s_feed {uR uT uD uY uP uS uC uO uA uX : Nat → Nat → Int32}  (h : mk_Inv uR uT uD uY uP uS uC uO uA uX) (p1 p2 p3 p4 p5 : Int32) : ∃ (r : Int32) (wT : Nat → Nat → Int32) (wX : Nat → Nat → Int32), f_Z_feed uT p1 p2 p3 p4 p5 = some (r, wT) ∧ f_X_feed uX p1 p2 p3 p4 p5 = some (r, wX) ∧ mk_Inv uR wT uD uY uP uS uC uO uA wX := by
  sorry
theorem s_end {uR uT uD uY uP uS uC uO uA uX : Nat → Nat → Int32}  (h : mk_Inv uR uT uD uY uP uS uC uO uA uX) (p1 : Int32) : ∃ (r : Int32) (wT : Nat → Nat → Int32) (wX : Nat → Nat → Int32), f_Z_end uT p1 = some (r, wT) ∧ f_X_end uX p1 = some (r, wX) ∧ mk_Inv uR wT uD uY uP uS uC uO uA wX := by
  sorry
theorem s_channel {uR uT uD uY uP uS uC uO uA uX : Nat → Nat → Int32} (uQ : Nat) (h : mk_Inv uR uT uD uY uP uS uC uO uA uX) : ∃ (r : Int32) (wQ : Nat) (wR : Nat → Nat → Int32) (wT : Nat → Nat → Int32) (wD : Nat → Nat → Int32) (wY : Nat → Nat → Int32) (wP : Nat → Nat → Int32) (wS : Nat → Nat → Int32) (wC : Nat → Nat → Int32) (wA : Nat → Nat → Int32) (wX : Nat → Nat → Int32), f_Z_channel uQ uR uT uD uY uP uS uC uA = some (r, wQ, wR, wT, wD, wY, wP, wS, wC, wA) ∧ f_X_channel uX = some (r, wX) ∧ mk_Inv wR wT wD wY wP wS wC uO wA wX := by
  sorry
theorem s_fault {uR uT uD uY uP uS uC uO uA uX : Nat → Nat → Int32}  (h : mk_Inv uR uT uD uY uP uS uC uO uA uX) (p1 : Int32) : ∃ (r : Int32) , f_Z_fault uR p1 = some r ∧ f_X_fault uX p1 = some r ∧ mk_Inv uR uT uD uY uP uS uC uO uA uX := by
  sorry
theorem s_count {uR uT uD uY uP uS uC uO uA uX : Nat → Nat → Int32}  (h : mk_Inv uR uT uD uY uP uS uC uO uA uX) (p1 : Int32) : ∃ (r : Int32) , f_Z_count uT uP uA p1 = some r ∧ f_X_count uX p1 = some r ∧ mk_Inv uR uT uD uY uP uS uC uO uA uX := by
  sorry
theorem s_sender {uR uT uD uY uP uS uC uO uA uX : Nat → Nat → Int32}  (h : mk_Inv uR uT uD uY uP uS uC uO uA uX) (p1 p2 : Int32) : ∃ (r : Int32) , f_Z_sender uP p1 p2 = some r ∧ f_X_sender uX p1 p2 = some r ∧ mk_Inv uR uT uD uY uP uS uC uO uA uX := by
  sorry
theorem s_slot {uR uT uD uY uP uS uC uO uA uX : Nat → Nat → Int32}  (h : mk_Inv uR uT uD uY uP uS uC uO uA uX) (p1 p2 : Int32) : ∃ (r : Int32) (wX : Nat → Nat → Int32), f_Z_slot uP uC p1 p2 = some r ∧ f_X_slot uX p1 p2 = some (r, wX) ∧ mk_Inv uR uT uD uY uP uS uC uO uA wX := by
  sorry
theorem s_sends {uR uT uD uY uP uS uC uO uA uX : Nat → Nat → Int32}  (h : mk_Inv uR uT uD uY uP uS uC uO uA uX) (p1 p2 : Int32) : ∃ (r : Int32) (wX : Nat → Nat → Int32), f_Z_sends uP uC p1 p2 = some r ∧ f_X_sends uX p1 p2 = some (r, wX) ∧ mk_Inv uR uT uD uY uP uS uC uO uA wX := by
  sorry
theorem s_delivered {uR uT uD uY uP uS uC uO uA uX : Nat → Nat → Int32}  (h : mk_Inv uR uT uD uY uP uS uC uO uA uX) (p1 : Int32) : ∃ (r : Int32) (wX : Nat → Nat → Int32), f_Z_delivered uP uC p1 = some r ∧ f_X_delivered uX p1 = some (r, wX) ∧ mk_Inv uR uT uD uY uP uS uC uO uA wX := by
  sorry
theorem s_tries {uR uT uD uY uP uS uC uO uA uX : Nat → Nat → Int32}  (h : mk_Inv uR uT uD uY uP uS uC uO uA uX) (p1 : Int32) : ∃ (r : Int32) (wX : Nat → Nat → Int32), f_Z_tries uP uC p1 = some r ∧ f_X_tries uX p1 = some (r, wX) ∧ mk_Inv uR uT uD uY uP uS uC uO uA wX := by
  sorry
theorem s_taken {uR uT uD uY uP uS uC uO uA uX : Nat → Nat → Int32}  (h : mk_Inv uR uT uD uY uP uS uC uO uA uX) (p1 : Int32) : ∃ (r : Int32) (wX : Nat → Nat → Int32), f_Z_taken uP uC p1 = some r ∧ f_X_taken uX p1 = some (r, wX) ∧ mk_Inv uR uT uD uY uP uS uC uO uA wX := by
  sorry
theorem s_order {uR uT uD uY uP uS uC uO uA uX : Nat → Nat → Int32}  (h : mk_Inv uR uT uD uY uP uS uC uO uA uX) (p1 : Int32) : ∃ (r : Int32) (wX : Nat → Nat → Int32), f_Z_order uP uC p1 = some r ∧ f_X_order uX p1 = some (r, wX) ∧ mk_Inv uR uT uD uY uP uS uC uO uA wX := by
  sorry
theorem s_all {uR uT uD uY uP uS uC uO uA uX : Nat → Nat → Int32}  (h : mk_Inv uR uT uD uY uP uS uC uO uA uX) : ∃ (r : Int32) (wX : Nat → Nat → Int32), f_Z_all uP uC = some r ∧ f_X_all uX = some (r, wX) ∧ mk_Inv uR uT uD uY uP uS uC uO uA wX := by
  sorry
theorem s_done {uR uT uD uY uP uS uC uO uA uX : Nat → Nat → Int32}  (h : mk_Inv uR uT uD uY uP uS uC uO uA uX) : ∃ (r : Int32) (wX : Nat → Nat → Int32), f_Z_done uP uC = some r ∧ f_X_done uX = some (r, wX) ∧ mk_Inv uR uT uD uY uP uS uC uO uA wX := by
  sorry
theorem s_heard {uR uT uD uY uP uS uC uO uA uX : Nat → Nat → Int32}  (h : mk_Inv uR uT uD uY uP uS uC uO uA uX) (p1 : Int32) : ∃ (r : Int32) (wX : Nat → Nat → Int32), f_Z_heard uP uC p1 = some r ∧ f_X_heard uX p1 = some (r, wX) ∧ mk_Inv uR uT uD uY uP uS uC uO uA wX := by
  sorry
theorem s_collided {uR uT uD uY uP uS uC uO uA uX : Nat → Nat → Int32}  (h : mk_Inv uR uT uD uY uP uS uC uO uA uX) : ∃ (r : Int32) (wX : Nat → Nat → Int32), f_Z_collided uP uC = some r ∧ f_X_collided uX = some (r, wX) ∧ mk_Inv uR uT uD uY uP uS uC uO uA wX := by
  sorry
theorem s_skips {uR uT uD uY uP uS uC uO uA uX : Nat → Nat → Int32}  (h : mk_Inv uR uT uD uY uP uS uC uO uA uX) : ∃ (r : Int32) (wX : Nat → Nat → Int32), f_Z_skips uP uC = some r ∧ f_X_skips uX = some (r, wX) ∧ mk_Inv uR uT uD uY uP uS uC uO uA wX := by
  sorry
theorem s_deepest {uR uT uD uY uP uS uC uO uA uX : Nat → Nat → Int32}  (h : mk_Inv uR uT uD uY uP uS uC uO uA uX) : ∃ (r : Int32) (wX : Nat → Nat → Int32), f_Z_deepest uP uC = some r ∧ f_X_deepest uX = some (r, wX) ∧ mk_Inv uR uT uD uY uP uS uC uO uA wX := by
  sorry
theorem s_epochs {uR uT uD uY uP uS uC uO uA uX : Nat → Nat → Int32}  (h : mk_Inv uR uT uD uY uP uS uC uO uA uX) : ∃ (r : Int32) (wX : Nat → Nat → Int32), f_Z_epochs uP uC = some r ∧ f_X_epochs uX = some (r, wX) ∧ mk_Inv uR uT uD uY uP uS uC uO uA wX := by
  sorry
theorem s_epoch {uR uT uD uY uP uS uC uO uA uX : Nat → Nat → Int32}  (h : mk_Inv uR uT uD uY uP uS uC uO uA uX) (p1 p2 : Int32) : ∃ (r : Int32) (wX : Nat → Nat → Int32), f_Z_epoch uP uC p1 p2 = some r ∧ f_X_epoch uX p1 p2 = some (r, wX) ∧ mk_Inv uR uT uD uY uP uS uC uO uA wX := by
  sorry
theorem s_behind {uR uT uD uY uP uS uC uO uA uX : Nat → Nat → Int32}  (h : mk_Inv uR uT uD uY uP uS uC uO uA uX) (p1 : Int32) : ∃ (r : Int32) (wX : Nat → Nat → Int32), f_Z_behind uP uC p1 = some r ∧ f_X_behind uX p1 = some (r, wX) ∧ mk_Inv uR uT uD uY uP uS uC uO uA wX := by
  sorry
theorem s_by {uR uT uD uY uP uS uC uO uA uX : Nat → Nat → Int32} (uQ : Nat) (h : mk_Inv uR uT uD uY uP uS uC uO uA uX) (p1 p2 : Int32) : ∃ (r : Int32) (wQ : Nat) (wY : Nat → Nat → Int32) (wS : Nat → Nat → Int32) (wO : Nat → Nat → Int32) (wX : Nat → Nat → Int32), f_Z_by uQ uY uP uS uO p1 p2 = some (r, wQ, wY, wS, wO) ∧ f_X_by uX p1 p2 = some (r, wX) ∧ mk_Inv uR uT uD wY uP wS uC wO uA wX := by
  sorry
theorem s_without {uR uT uD uY uP uS uC uO uA uX : Nat → Nat → Int32} (uQ : Nat) (h : mk_Inv uR uT uD uY uP uS uC uO uA uX) (p1 : Int32) : ∃ (r : Int32) (wQ : Nat) (wY : Nat → Nat → Int32) (wS : Nat → Nat → Int32) (wO : Nat → Nat → Int32) (wX : Nat → Nat → Int32), f_Z_without uQ uY uP uS uC uO p1 = some (r, wQ, wY, wS, wO) ∧ f_X_without uX p1 = some (r, wX) ∧ mk_Inv uR uT uD wY uP wS uC wO uA wX := by
  sorry
theorem s_noise {uR uT uD uY uP uS uC uO uA uX : Nat → Nat → Int32}  (h : mk_Inv uR uT uD uY uP uS uC uO uA uX) (p1 p2 : Int32) : ∃ (r : Int32) , f_Z_noise uP p1 p2 = some r ∧ f_X_noise uX p1 p2 = some r ∧ mk_Inv uR uT uD uY uP uS uC uO uA uX := by
  sorry
theorem s_alone {uR uT uD uY uP uS uC uO uA uX : Nat → Nat → Int32} (uQ : Nat) (h : mk_Inv uR uT uD uY uP uS uC uO uA uX) (p1 : Int32) : ∃ (r : Int32) (wQ : Nat) (wY : Nat → Nat → Int32) (wS : Nat → Nat → Int32) (wO : Nat → Nat → Int32) (wX : Nat → Nat → Int32), f_Z_alone uQ uY uP uS uO p1 = some (r, wQ, wY, wS, wO) ∧ f_X_alone uX p1 = some (r, wX) ∧ mk_Inv uR uT uD wY uP wS uC wO uA wX := by
  sorry
theorem s_worst {uR uT uD uY uP uS uC uO uA uX : Nat → Nat → Int32} (uQ : Nat) (h : mk_Inv uR uT uD uY uP uS uC uO uA uX) : ∃ (r : Int32) (wQ : Nat) (wY : Nat → Nat → Int32) (wS : Nat → Nat → Int32) (wO : Nat → Nat → Int32) (wX : Nat → Nat → Int32), f_Z_worst uQ uY uP uS uC uO = some (r, wQ, wY, wS, wO) ∧ f_X_worst uX = some (r, wX) ∧ mk_Inv uR uT uD wY uP wS uC wO uA wX := by
  sorry
theorem s_mean {uR uT uD uY uP uS uC uO uA uX : Nat → Nat → Int32} (uM : Nat → Nat → Int64) (uL : Nat → Nat → Int64) (h : mk_Inv uR uT uD uY uP uS uC uO uA uX) (p1 p2 p3 : Int32) : ∃ (r : Int64) (wM : Nat → Nat → Int64) (wL : Nat → Nat → Int64), f_Z_mean uM p1 p2 p3 = some (r, wM) ∧ f_X_mean uL p1 p2 p3 = some (r, wL) ∧ mk_Inv uR uT uD uY uP uS uC uO uA uX := by
  sorry
theorem s_leaning {uR uT uD uY uP uS uC uO uA uX : Nat → Nat → Int32} (uM : Nat → Nat → Int64) (uL : Nat → Nat → Int64) (h : mk_Inv uR uT uD uY uP uS uC uO uA uX) (p1 p2 p3 p4 p5 : Int32) : ∃ (r : Int64) (wM : Nat → Nat → Int64) (wL : Nat → Nat → Int64), f_Z_leaning uM p1 p2 p3 p4 p5 = some (r, wM) ∧ f_X_leaning uL p1 p2 p3 p4 p5 = some (r, wL) ∧ mk_Inv uR uT uD uY uP uS uC uO uA uX := by
  sorry
theorem s_chance {uR uT uD uY uP uS uC uO uA uX : Nat → Nat → Int32} (uM : Nat → Nat → Int64) (uL : Nat → Nat → Int64) (h : mk_Inv uR uT uD uY uP uS uC uO uA uX) (p1 p2 p3 p4 : Int32) : ∃ (r : Int64) (wM : Nat → Nat → Int64) (wL : Nat → Nat → Int64), f_Z_chance uM p1 p2 p3 p4 = some (r, wM) ∧ f_X_chance uL p1 p2 p3 p4 = some (r, wL) ∧ mk_Inv uR uT uD uY uP uS uC uO uA uX := by
  sorry
theorem s_best {uR uT uD uY uP uS uC uO uA uX : Nat → Nat → Int32} (uM : Nat → Nat → Int64) (uL : Nat → Nat → Int64) (h : mk_Inv uR uT uD uY uP uS uC uO uA uX) (p1 : Int32) : ∃ (r : Int32) (wM : Nat → Nat → Int64) (wL : Nat → Nat → Int64), f_Z_best uM p1 = some (r, wM) ∧ f_X_best uL p1 = some (r, wL) ∧ mk_Inv uR uT uD uY uP uS uC uO uA uX := by
  sorry
theorem s_add {uR uT uD uY uP uS uC uO uA uX : Nat → Nat → Int32} (uQ : Nat) (h : mk_Inv uR uT uD uY uP uS uC uO uA uX) (p1 p2 p3 : Int32) : ∃ (r : Int32) (wQ : Nat) (wY : Nat → Nat → Int32) (wP : Nat → Nat → Int32) (wS : Nat → Nat → Int32) (wC : Nat → Nat → Int32) (wA : Nat → Nat → Int32) (wX : Nat → Nat → Int32), f_Z_add uQ uY uP uS uC uA p1 p2 p3 = some (r, wQ, wY, wP, wS, wC, wA) ∧ f_X_add uX p1 p2 p3 = some (r, wX) ∧ mk_Inv uR uT uD wY wP wS wC uO wA wX := by
  sorry
theorem s_disturb {uR uT uD uY uP uS uC uO uA uX : Nat → Nat → Int32} (uQ : Nat) (h : mk_Inv uR uT uD uY uP uS uC uO uA uX) (p1 p2 : Int32) : ∃ (r : Int32) (wQ : Nat) (wY : Nat → Nat → Int32) (wP : Nat → Nat → Int32) (wS : Nat → Nat → Int32) (wC : Nat → Nat → Int32) (wA : Nat → Nat → Int32) (wX : Nat → Nat → Int32), f_Z_disturb uQ uY uP uS uC uA p1 p2 = some (r, wQ, wY, wP, wS, wC, wA) ∧ f_X_disturb uX p1 p2 = some (r, wX) ∧ mk_Inv uR uT uD wY wP wS wC uO wA wX := by
  sorry
theorem s_rule {uR uT uD uY uP uS uC uO uA uX : Nat → Nat → Int32} (uQ : Nat) (h : mk_Inv uR uT uD uY uP uS uC uO uA uX) (p1 : Int32) : ∃ (r : Int32) (wQ : Nat) (wY : Nat → Nat → Int32) (wP : Nat → Nat → Int32) (wS : Nat → Nat → Int32) (wC : Nat → Nat → Int32) (wA : Nat → Nat → Int32) (wX : Nat → Nat → Int32), f_Z_rule uQ uY uP uS uC uA p1 = some (r, wQ, wY, wP, wS, wC, wA) ∧ f_X_rule uX p1 = some (r, wX) ∧ mk_Inv uR uT uD wY wP wS wC uO wA wX := by
  sorry
theorem s_undo {uR uT uD uY uP uS uC uO uA uX : Nat → Nat → Int32} (uQ : Nat) (h : mk_Inv uR uT uD uY uP uS uC uO uA uX) : ∃ (r : Int32) (wQ : Nat) (wY : Nat → Nat → Int32) (wP : Nat → Nat → Int32) (wS : Nat → Nat → Int32) (wC : Nat → Nat → Int32) (wA : Nat → Nat → Int32) (wX : Nat → Nat → Int32), f_Z_undo uQ uY uP uS uC uA = some (r, wQ, wY, wP, wS, wC, wA) ∧ f_X_undo uX = some (r, wX) ∧ mk_Inv uR uT uD wY wP wS wC uO wA wX := by
  sorry
theorem s_anew {uR uT uD uY uP uS uC uO uA uX : Nat → Nat → Int32} (uQ : Nat) (h : mk_Inv uR uT uD uY uP uS uC uO uA uX) : ∃ (r : Int32) (wQ : Nat) (wY : Nat → Nat → Int32) (wP : Nat → Nat → Int32) (wS : Nat → Nat → Int32) (wC : Nat → Nat → Int32) (wA : Nat → Nat → Int32) (wX : Nat → Nat → Int32), f_Z_anew uQ uY uP uS uC uA = some (r, wQ, wY, wP, wS, wC, wA) ∧ f_X_anew uX = some (r, wX) ∧ mk_Inv uR uT uD wY wP wS wC uO wA wX := by
  sorry
