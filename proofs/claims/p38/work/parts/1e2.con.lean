set_option maxHeartbeats 40000000 in
set_option maxRecDepth 100000 in
theorem c_Z_undo (l : Launch) (D : va_G) (cI cJ cB cZ cS : ClassId) (X : Nat → Nat) (Y : mk_Y) (aZ aR aT aD aY aP aS aC aO aA aM : Nat → Nat) (uQ : Nat) (uR : Nat → Nat → Int32) (uT : Nat → Nat → Int32) (uD : Nat → Nat → Int32) (uY : Nat → Nat → Int32) (uP : Nat → Nat → Int32) (uS : Nat → Nat → Int32) (uC : Nat → Nat → Int32) (uO : Nat → Nat → Int32) (uA : Nat → Nat → Int32) (uM : Nat → Nat → Int64) (r : Int32) (wQ : Nat) (wY : Nat → Nat → Int32) (wP : Nat → Nat → Int32) (wS : Nat → Nat → Int32) (wC : Nat → Nat → Int32) (wA : Nat → Nat → Int32) (hf : f_Z_undo uQ uY uP uS uC uA = some (r, wQ, wY, wP, wS, wC, wA)) : mk_Met l yX8_undo cX8_undo 1 (some .int) ({ frames := 6, cells := 0, slots := 0, locals := 142 }) D (mk_TY cI cJ cB cZ cS) X Y [.ref (aZ 0)] (wChan aZ aR aT aD aY aP aC aO aA aM ++ (wReader aR aT aD uR ++ (wTape aT cI uT ++ (wPlan aD cI uD ++ (wPlay aY aP aS (mk_crs aC aO uQ) cI uY ++ (wPlan aP cI uP ++ (wStack aS cI uS ++ (wCourse aC cI uC ++ (wCourse aO cI uO ++ (wActs aA cI uA ++ (wMeans aM cJ uM))))))))))) (wChan aZ aR aT aD aY aP aC aO aA aM ++ (wReader aR aT aD uR ++ (wTape aT cI uT ++ (wPlan aD cI uD ++ (wPlay aY aP aS (mk_crs aC aO wQ) cI wY ++ (wPlan aP cI wP ++ (wStack aS cI wS ++ (wCourse aC cI wC ++ (wCourse aO cI uO ++ (wActs aA cI wA ++ (wMeans aM cJ uM))))))))))) (some (.int r)) 0 0 := by
  refine mk_start (own := RX8) (by decide) rfl (Nat.le_of_ble_eq_true rfl) ?_
  intro sz p e s m args below meth c A C hr hlk hnm
  replace C : mk_Cx p s m args c cX8_undo 1 RX8 D (mk_TY cI cJ cB cZ cS) X Y A := C
  show mk_Go p l e (headSpec (mk_ws yX8_undo cX8_undo 1 (some .int)) ({ frames := 6, cells := 0, slots := 0, locals := 142 })).room s m args below meth c D A 1 0 0 (MQ below (mk_Q (some (.int r)) D (wChan aZ aR aT aD aY aP aC aO aA aM ++ (wReader aR aT aD uR ++ (wTape aT cI uT ++ (wPlan aD cI uD ++ (wPlay aY aP aS (mk_crs aC aO wQ) cI wY ++ (wPlan aP cI wP ++ (wStack aS cI wS ++ (wCourse aC cI wC ++ (wCourse aO cI uO ++ (wActs aA cI wA ++ (wMeans aM cJ uM))))))))))) A) args s 0 0 A) 0 (wChan aZ aR aT aD aY aP aC aO aA aM ++ (wReader aR aT aD uR ++ (wTape aT cI uT ++ (wPlan aD cI uD ++ (wPlay aY aP aS (mk_crs aC aO uQ) cI uY ++ (wPlan aP cI uP ++ (wStack aS cI uS ++ (wCourse aC cI uC ++ (wCourse aO cI uO ++ (wActs aA cI uA ++ (wMeans aM cJ uM))))))))))) [(0, .ref (aZ 0))] []
  unfold f_Z_undo at hf
  refine mk_aload_n C 0 dX8_undo_0 rfl ?_
  refine mk_get C mk_inX8 0 rfl rfl 4 (by decide) mw_336 (v := .ref (aP 0)) rfl dX8_undo_1 ?_
  obtain ⟨r1, h2, hf⟩ := b1_some hf
  refine mk_callVi C (c_P_stands l D cI cJ cB cZ cS X Y aP uP r1 h2) mw_628 mw_629 mw_630 mw_4 mw_631 mkn_X3_stands rfl ⟨Nat.le_of_ble_eq_true rfl, Nat.le_of_ble_eq_true rfl⟩ 12 rfl rfl rfl (fr_Z_P cI cJ aZ aR aT aD aY aP aS aC aO aA aM uQ uR uT uD uY uP uS uC uO uA uM uP) (Nat.le_of_ble_eq_true rfl) dX8_undo_4 rfl ?_
  refine mk_if_ne C 13 dX8_undo_7 (by decide) (fun c3 => ?_) (fun c3 => ?_)
  · replace hf := (if_neg c3).symm.trans hf
    refine mk_aload_n C 0 dX8_undo_13 rfl ?_
    refine mk_get C mk_inX8 0 rfl rfl 7 (by decide) mw_339 (v := .ref (aA 0)) rfl dX8_undo_14 ?_
    refine mk_get C mk_inX0 48 rfl rfl 2 (by decide) mw_303 (v := .int (uA 2 0)) rfl dX8_undo_17 ?_
    refine mk_if_ne C 26 dX8_undo_20 (by decide) (fun c4 => ?_) (fun c4 => ?_)
    · replace hf := (if_neg c4).symm.trans hf
      refine mk_aload_n C 0 dX8_undo_26 rfl ?_
      refine mk_get C mk_inX8 0 rfl rfl 7 (by decide) mw_339 (v := .ref (aA 0)) rfl dX8_undo_27 ?_
      refine mk_aload_n C 0 dX8_undo_30 rfl ?_
      refine mk_get C mk_inX8 0 rfl rfl 4 (by decide) mw_336 (v := .ref (aP 0)) rfl dX8_undo_31 ?_
      obtain ⟨uA_5, uP_6, h7, hf⟩ := b2_some hf
      refine mk_callVv C (c_A_takeBack l D cI cJ cB cZ cS X Y aA aP uA uP uA_5 uP_6 h7) mw_678 mw_679 mw_680 mw_8 mw_681 mkn_X0_takeBack rfl ⟨Nat.le_of_ble_eq_true rfl, Nat.le_of_ble_eq_true rfl⟩ 48 rfl rfl rfl (fr_Z_AP cI cJ aZ aR aT aD aY aP aS aC aO aA aM uQ uR uT uD uY uP uS uC uO uA uM uA_5 uP_6) (Nat.le_of_ble_eq_true rfl) dX8_undo_34 rfl ?_
      refine mk_aload_n C 0 dX8_undo_37 rfl ?_
      refine mk_get C mk_inX8 0 rfl rfl 3 (by decide) mw_335 (v := .ref (aY 0)) rfl dX8_undo_38 ?_
      refine mk_aload_n C 0 dX8_undo_41 rfl ?_
      refine mk_get C mk_inX8 0 rfl rfl 5 (by decide) mw_337 (v := .ref (aC 0)) rfl dX8_undo_42 ?_
      refine mk_aload_n C 0 dX8_undo_45 rfl ?_
      refine mk_get C mk_inX8 0 rfl rfl 4 (by decide) mw_336 (v := .ref (aP 0)) rfl dX8_undo_46 ?_
      refine mk_get C mk_inX3 12 rfl rfl 0 (by decide) mw_63 (v := .int (uP_6 0 0)) rfl dX8_undo_49 ?_
      refine mk_iconst C (v := (-1)) dX8_undo_52 (by decide) ?_
      refine mk_iconst C (v := (-1)) dX8_undo_53 (by decide) ?_
      obtain ⟨r8, uY_9, uS_10, uC_11, h12, hf⟩ := b4_some hf
      refine mk_callVi C (c_Y_run l D cI cJ cB cZ cS X Y aY aP aS aC (mk_crs aC aO uQ) uY uP_6 uS uC (uP_6 0 0) (-1) (-1) r8 uY_9 uS_10 uC_11 h12) mw_514 mw_515 mw_516 mw_5 mw_517 mkn_X4_run rfl ⟨Nat.le_of_ble_eq_true rfl, Nat.le_of_ble_eq_true rfl⟩ 10 rfl rfl rfl (fr_Z_YPSC_run cI cJ aZ aR aT aD aY aP aS aC aO aA aM uQ uR uT uD uY uP_6 uS uC uO uA_5 uM uY_9 uP_6 uS_10 uC_11) (Nat.le_of_ble_eq_true rfl) dX8_undo_54 rfl ?_
      refine mk_pop C dX8_undo_57 rfl ?_
      refine mk_aload_n C 0 dX8_undo_58 rfl ?_
      refine mk_get C mk_inX8 0 rfl rfl 7 (by decide) mw_339 (v := .ref (aA 0)) rfl dX8_undo_59 ?_
      refine mk_get C mk_inX0 48 rfl rfl 2 (by decide) mw_303 (v := .int (uA_5 2 0)) rfl dX8_undo_62 ?_
      have e := Option.some.inj hf
      simp only [Prod.mk.injEq] at e
      obtain ⟨e0, e1, e2, e3, e4, e5, e6⟩ := e
      exact mk_iret C hr hlk e0 (by rw [← e1, ← e2, ← e3, ← e4, ← e5, ← e6]) dX8_undo_65
    · replace hf := (if_pos c4).symm.trans hf
      refine mk_bipush C (v := (-5)) dX8_undo_23 (by decide) ?_
      have e := Option.some.inj hf
      simp only [Prod.mk.injEq] at e
      obtain ⟨e0, e1, e2, e3, e4, e5, e6⟩ := e
      exact mk_iret C hr hlk e0 (by rw [← e1, ← e2, ← e3, ← e4, ← e5, ← e6]) dX8_undo_25
  · replace hf := (if_pos c3).symm.trans hf
    refine mk_bipush C (v := (-2)) dX8_undo_10 (by decide) ?_
    have e := Option.some.inj hf
    simp only [Prod.mk.injEq] at e
    obtain ⟨e0, e1, e2, e3, e4, e5, e6⟩ := e
    exact mk_iret C hr hlk e0 (by rw [← e1, ← e2, ← e3, ← e4, ← e5, ← e6]) dX8_undo_12
