set_option maxHeartbeats 40000000 in
set_option maxRecDepth 100000 in
theorem c_Z_rule (l : Launch) (D : va_G) (cI cJ : ClassId) (X Y : Nat → Nat) (aZ aR aT aD aY aP aS aC aO aA aM : Nat → Nat) (uQ : Nat) (uR : Nat → Nat → Int32) (uT : Nat → Nat → Int32) (uD : Nat → Nat → Int32) (uY : Nat → Nat → Int32) (uP : Nat → Nat → Int32) (uS : Nat → Nat → Int32) (uC : Nat → Nat → Int32) (uO : Nat → Nat → Int32) (uA : Nat → Nat → Int32) (uM : Nat → Nat → Int64) (p1 : Int32) (r : Int32) (wQ : Nat) (wY : Nat → Nat → Int32) (wP : Nat → Nat → Int32) (wS : Nat → Nat → Int32) (wC : Nat → Nat → Int32) (wA : Nat → Nat → Int32) (hf : f_Z_rule uQ uY uP uS uC uA p1 = some (r, wQ, wY, wP, wS, wC, wA)) : mk_Met l yX8_rule cX8_rule 2 (some .int) ({ frames := 6, cells := 0, slots := 0, locals := 142 }) D [(cI, .int), (cJ, .long)] X Y [.ref (aZ 0), .int p1] (wChan aZ aR aT aD aY aP aC aO aA aM ++ (wReader aR aT aD uR ++ (wTape aT cI uT ++ (wPlan aD cI uD ++ (wPlay aY aP aS (mk_crs aC aO uQ) cI uY ++ (wPlan aP cI uP ++ (wStack aS cI uS ++ (wCourse aC cI uC ++ (wCourse aO cI uO ++ (wActs aA cI uA ++ (wMeans aM cJ uM))))))))))) (wChan aZ aR aT aD aY aP aC aO aA aM ++ (wReader aR aT aD uR ++ (wTape aT cI uT ++ (wPlan aD cI uD ++ (wPlay aY aP aS (mk_crs aC aO wQ) cI wY ++ (wPlan aP cI wP ++ (wStack aS cI wS ++ (wCourse aC cI wC ++ (wCourse aO cI uO ++ (wActs aA cI wA ++ (wMeans aM cJ uM))))))))))) (some (.int r)) 0 0 := by
  refine mk_start (own := RX8) (by decide) rfl (Nat.le_of_ble_eq_true rfl) ?_
  intro sz p e s m args below meth c A C hr hlk hnm
  replace C : mk_Cx p s m args c cX8_rule 2 RX8 D [(cI, .int), (cJ, .long)] X Y A := C
  show mk_Go p l e (headSpec (mk_ws yX8_rule cX8_rule 2 (some .int)) ({ frames := 6, cells := 0, slots := 0, locals := 142 })).room s m args below meth c D A 2 0 0 (MQ below (mk_Q (some (.int r)) D (wChan aZ aR aT aD aY aP aC aO aA aM ++ (wReader aR aT aD uR ++ (wTape aT cI uT ++ (wPlan aD cI uD ++ (wPlay aY aP aS (mk_crs aC aO wQ) cI wY ++ (wPlan aP cI wP ++ (wStack aS cI wS ++ (wCourse aC cI wC ++ (wCourse aO cI uO ++ (wActs aA cI wA ++ (wMeans aM cJ uM))))))))))) A) args s 0 0 A) 0 (wChan aZ aR aT aD aY aP aC aO aA aM ++ (wReader aR aT aD uR ++ (wTape aT cI uT ++ (wPlan aD cI uD ++ (wPlay aY aP aS (mk_crs aC aO uQ) cI uY ++ (wPlan aP cI uP ++ (wStack aS cI uS ++ (wCourse aC cI uC ++ (wCourse aO cI uO ++ (wActs aA cI uA ++ (wMeans aM cJ uM))))))))))) [(0, .ref (aZ 0)), (1, .int p1)] []
  unfold f_Z_rule at hf
  refine mk_aload_n C 0 dX8_rule_0 rfl ?_
  refine mk_get C mk_inX8 0 rfl rfl 4 (by decide) mw_346 (v := .ref (aP 0)) rfl dX8_rule_1 ?_
  obtain ⟨r1, h2, hf⟩ := b1_some hf
  refine mk_callVi C (c_P_stands l D cI cJ X Y aP uP r1 h2) mw_693 mw_694 mw_695 mw_4 mw_696 mkn_X3_stands rfl ⟨Nat.le_of_ble_eq_true rfl, Nat.le_of_ble_eq_true rfl⟩ 12 rfl rfl rfl (fr_Z_P cI cJ aZ aR aT aD aY aP aS aC aO aA aM uQ uR uT uD uY uP uS uC uO uA uM uP) (Nat.le_of_ble_eq_true rfl) dX8_rule_4 rfl ?_
  refine mk_if_eq C 17 dX8_rule_7 (by decide) (fun c3 => ?_) (fun c3 => ?_)
  · replace hf := (if_pos c3).symm.trans hf
    refine mk_bipush C (v := (-2)) dX8_rule_17 (by decide) ?_
    have e := Option.some.inj hf
    simp only [Prod.mk.injEq] at e
    obtain ⟨e0, e1, e2, e3, e4, e5, e6⟩ := e
    exact mk_iret C hr hlk e0 (by rw [← e1, ← e2, ← e3, ← e4, ← e5, ← e6]) dX8_rule_19
  · replace hf := (if_neg c3).symm.trans hf
    refine mk_iload_n C 1 dX8_rule_10 rfl ?_
    obtain ⟨r4, h5, hf⟩ := b1_some hf
    refine mk_callSi C (c_Z_isLaw l D cI cJ X Y p1 r4 h5) mw_760 mw_761 mw_1 mw_762 mkn_X8_isLaw rfl ⟨Nat.le_of_ble_eq_true rfl, Nat.le_of_ble_eq_true rfl⟩ (mk_Fr.nil _) (Nat.le_of_ble_eq_true rfl) dX8_rule_11 rfl ?_
    refine mk_if_ne C 20 dX8_rule_14 (by decide) (fun c6 => ?_) (fun c6 => ?_)
    · replace hf := (if_neg c6).symm.trans hf
      refine mk_aload_n C 0 dX8_rule_20 rfl ?_
      refine mk_get C mk_inX8 0 rfl rfl 4 (by decide) mw_346 (v := .ref (aP 0)) rfl dX8_rule_21 ?_
      refine mk_get C mk_inX3 12 rfl rfl 0 (by decide) mw_58 (v := .int (uP 0 0)) rfl dX8_rule_24 ?_
      refine mk_iload_n C 1 dX8_rule_27 rfl ?_
      refine mk_icmp_eq C 43 dX8_rule_28 (by decide) (fun c7 => ?_) (fun c7 => ?_)
      · replace hf := (if_pos c7).symm.trans hf
        refine mk_bipush C (v := (-5)) dX8_rule_43 (by decide) ?_
        have e := Option.some.inj hf
        simp only [Prod.mk.injEq] at e
        obtain ⟨e0, e1, e2, e3, e4, e5, e6⟩ := e
        exact mk_iret C hr hlk e0 (by rw [← e1, ← e2, ← e3, ← e4, ← e5, ← e6]) dX8_rule_45
      · replace hf := (if_neg c7).symm.trans hf
        refine mk_aload_n C 0 dX8_rule_31 rfl ?_
        refine mk_get C mk_inX8 0 rfl rfl 7 (by decide) mw_349 (v := .ref (aA 0)) rfl dX8_rule_32 ?_
        refine mk_get C mk_inX0 48 rfl rfl 2 (by decide) mw_307 (v := .int (uA 2 0)) rfl dX8_rule_35 ?_
        refine mk_bipush C (v := 20) dX8_rule_38 (by decide) ?_
        refine mk_icmp_lt C 46 dX8_rule_40 (by decide) (fun c8 => ?_) (fun c8 => ?_)
        · replace hf := (if_pos c8).symm.trans hf
          refine mk_aload_n C 0 dX8_rule_46 rfl ?_
          refine mk_get C mk_inX8 0 rfl rfl 7 (by decide) mw_349 (v := .ref (aA 0)) rfl dX8_rule_47 ?_
          refine mk_iconst C (v := 2) dX8_rule_50 (by decide) ?_
          refine mk_aload_n C 0 dX8_rule_51 rfl ?_
          refine mk_get C mk_inX8 0 rfl rfl 4 (by decide) mw_346 (v := .ref (aP 0)) rfl dX8_rule_52 ?_
          refine mk_get C mk_inX3 12 rfl rfl 0 (by decide) mw_58 (v := .int (uP 0 0)) rfl dX8_rule_55 ?_
          obtain ⟨uA_9, h10, hf⟩ := b1_some hf
          refine mk_callVv C (c_A_note l D cI cJ X Y aA uA 2 (uP 0 0) uA_9 h10) mw_868 mw_869 mw_870 mw_8 mw_871 mkn_X0_note rfl ⟨Nat.le_of_ble_eq_true rfl, Nat.le_of_ble_eq_true rfl⟩ 48 rfl rfl rfl (fr_Z_A cI cJ aZ aR aT aD aY aP aS aC aO aA aM uQ uR uT uD uY uP uS uC uO uA uM uA_9) (Nat.le_of_ble_eq_true rfl) dX8_rule_58 rfl ?_
          refine mk_aload_n C 0 dX8_rule_61 rfl ?_
          refine mk_get C mk_inX8 0 rfl rfl 4 (by decide) mw_346 (v := .ref (aP 0)) rfl dX8_rule_62 ?_
          refine mk_iload_n C 1 dX8_rule_65 rfl ?_
          refine mk_put C mk_inX3 tyX3 tyX3_ok nmX3 12 rfl rfl 0 (by decide) mw_58 rfl rfl rfl (Nat.le_of_ble_eq_true rfl) (ws' := (wChan aZ aR aT aD aY aP aC aO aA aM ++ (wReader aR aT aD uR ++ (wTape aT cI uT ++ (wPlan aD cI uD ++ (wPlay aY aP aS (mk_crs aC aO uQ) cI uY ++ (wPlan aP cI (upF 0 p1 uP) ++ (wStack aS cI uS ++ (wCourse aC cI uC ++ (wCourse aO cI uO ++ (wActs aA cI uA_9 ++ (wMeans aM cJ uM)))))))))))) (st_ZRTDYPSCOAM_P_0 cI cJ aZ aR aT aD aY aP aS aC aO aA aM uQ uR uT uD uY uP uS uC uO uA_9 uM p1) dX8_rule_66 ?_
          refine mk_aload_n C 0 dX8_rule_69 rfl ?_
          refine mk_get C mk_inX8 0 rfl rfl 3 (by decide) mw_345 (v := .ref (aY 0)) rfl dX8_rule_70 ?_
          refine mk_aload_n C 0 dX8_rule_73 rfl ?_
          refine mk_get C mk_inX8 0 rfl rfl 5 (by decide) mw_347 (v := .ref (aC 0)) rfl dX8_rule_74 ?_
          refine mk_aload_n C 0 dX8_rule_77 rfl ?_
          refine mk_get C mk_inX8 0 rfl rfl 4 (by decide) mw_346 (v := .ref (aP 0)) rfl dX8_rule_78 ?_
          refine mk_get C mk_inX3 12 rfl rfl 0 (by decide) mw_58 (v := .int p1) rfl dX8_rule_81 ?_
          refine mk_iconst C (v := (-1)) dX8_rule_84 (by decide) ?_
          refine mk_iconst C (v := (-1)) dX8_rule_85 (by decide) ?_
          obtain ⟨r11, uY_12, uS_13, uC_14, h15, hf⟩ := b4_some hf
          refine mk_callVi C (c_Y_run l D cI cJ X Y aY aP aS aC (mk_crs aC aO uQ) uY (upF 0 p1 uP) uS uC p1 (-1) (-1) r11 uY_12 uS_13 uC_14 h15) mw_537 mw_538 mw_539 mw_5 mw_540 mkn_X4_run rfl ⟨Nat.le_of_ble_eq_true rfl, Nat.le_of_ble_eq_true rfl⟩ 10 rfl rfl rfl (fr_Z_YPSC_run cI cJ aZ aR aT aD aY aP aS aC aO aA aM uQ uR uT uD uY (upF 0 p1 uP) uS uC uO uA_9 uM uY_12 (upF 0 p1 uP) uS_13 uC_14) (Nat.le_of_ble_eq_true rfl) dX8_rule_86 rfl ?_
          have e := Option.some.inj hf
          simp only [Prod.mk.injEq] at e
          obtain ⟨e0, e1, e2, e3, e4, e5, e6⟩ := e
          exact mk_iret C hr hlk e0 (by rw [← e1, ← e2, ← e3, ← e4, ← e5, ← e6]) dX8_rule_89
        · replace hf := (if_neg c8).symm.trans hf
          refine mk_bipush C (v := (-5)) dX8_rule_43 (by decide) ?_
          have e := Option.some.inj hf
          simp only [Prod.mk.injEq] at e
          obtain ⟨e0, e1, e2, e3, e4, e5, e6⟩ := e
          exact mk_iret C hr hlk e0 (by rw [← e1, ← e2, ← e3, ← e4, ← e5, ← e6]) dX8_rule_45
    · replace hf := (if_pos c6).symm.trans hf
      refine mk_bipush C (v := (-2)) dX8_rule_17 (by decide) ?_
      have e := Option.some.inj hf
      simp only [Prod.mk.injEq] at e
      obtain ⟨e0, e1, e2, e3, e4, e5, e6⟩ := e
      exact mk_iret C hr hlk e0 (by rw [← e1, ← e2, ← e3, ← e4, ← e5, ← e6]) dX8_rule_19
set_option maxHeartbeats 40000000 in
set_option maxRecDepth 100000 in
theorem c_Z_undo (l : Launch) (D : va_G) (cI cJ : ClassId) (X Y : Nat → Nat) (aZ aR aT aD aY aP aS aC aO aA aM : Nat → Nat) (uQ : Nat) (uR : Nat → Nat → Int32) (uT : Nat → Nat → Int32) (uD : Nat → Nat → Int32) (uY : Nat → Nat → Int32) (uP : Nat → Nat → Int32) (uS : Nat → Nat → Int32) (uC : Nat → Nat → Int32) (uO : Nat → Nat → Int32) (uA : Nat → Nat → Int32) (uM : Nat → Nat → Int64) (r : Int32) (wQ : Nat) (wY : Nat → Nat → Int32) (wP : Nat → Nat → Int32) (wS : Nat → Nat → Int32) (wC : Nat → Nat → Int32) (wA : Nat → Nat → Int32) (hf : f_Z_undo uQ uY uP uS uC uA = some (r, wQ, wY, wP, wS, wC, wA)) : mk_Met l yX8_undo cX8_undo 1 (some .int) ({ frames := 6, cells := 0, slots := 0, locals := 142 }) D [(cI, .int), (cJ, .long)] X Y [.ref (aZ 0)] (wChan aZ aR aT aD aY aP aC aO aA aM ++ (wReader aR aT aD uR ++ (wTape aT cI uT ++ (wPlan aD cI uD ++ (wPlay aY aP aS (mk_crs aC aO uQ) cI uY ++ (wPlan aP cI uP ++ (wStack aS cI uS ++ (wCourse aC cI uC ++ (wCourse aO cI uO ++ (wActs aA cI uA ++ (wMeans aM cJ uM))))))))))) (wChan aZ aR aT aD aY aP aC aO aA aM ++ (wReader aR aT aD uR ++ (wTape aT cI uT ++ (wPlan aD cI uD ++ (wPlay aY aP aS (mk_crs aC aO wQ) cI wY ++ (wPlan aP cI wP ++ (wStack aS cI wS ++ (wCourse aC cI wC ++ (wCourse aO cI uO ++ (wActs aA cI wA ++ (wMeans aM cJ uM))))))))))) (some (.int r)) 0 0 := by
  refine mk_start (own := RX8) (by decide) rfl (Nat.le_of_ble_eq_true rfl) ?_
  intro sz p e s m args below meth c A C hr hlk hnm
  replace C : mk_Cx p s m args c cX8_undo 1 RX8 D [(cI, .int), (cJ, .long)] X Y A := C
  show mk_Go p l e (headSpec (mk_ws yX8_undo cX8_undo 1 (some .int)) ({ frames := 6, cells := 0, slots := 0, locals := 142 })).room s m args below meth c D A 1 0 0 (MQ below (mk_Q (some (.int r)) D (wChan aZ aR aT aD aY aP aC aO aA aM ++ (wReader aR aT aD uR ++ (wTape aT cI uT ++ (wPlan aD cI uD ++ (wPlay aY aP aS (mk_crs aC aO wQ) cI wY ++ (wPlan aP cI wP ++ (wStack aS cI wS ++ (wCourse aC cI wC ++ (wCourse aO cI uO ++ (wActs aA cI wA ++ (wMeans aM cJ uM))))))))))) A) args s 0 0 A) 0 (wChan aZ aR aT aD aY aP aC aO aA aM ++ (wReader aR aT aD uR ++ (wTape aT cI uT ++ (wPlan aD cI uD ++ (wPlay aY aP aS (mk_crs aC aO uQ) cI uY ++ (wPlan aP cI uP ++ (wStack aS cI uS ++ (wCourse aC cI uC ++ (wCourse aO cI uO ++ (wActs aA cI uA ++ (wMeans aM cJ uM))))))))))) [(0, .ref (aZ 0))] []
  unfold f_Z_undo at hf
  refine mk_aload_n C 0 dX8_undo_0 rfl ?_
  refine mk_get C mk_inX8 0 rfl rfl 4 (by decide) mw_346 (v := .ref (aP 0)) rfl dX8_undo_1 ?_
  obtain ⟨r1, h2, hf⟩ := b1_some hf
  refine mk_callVi C (c_P_stands l D cI cJ X Y aP uP r1 h2) mw_693 mw_694 mw_695 mw_4 mw_696 mkn_X3_stands rfl ⟨Nat.le_of_ble_eq_true rfl, Nat.le_of_ble_eq_true rfl⟩ 12 rfl rfl rfl (fr_Z_P cI cJ aZ aR aT aD aY aP aS aC aO aA aM uQ uR uT uD uY uP uS uC uO uA uM uP) (Nat.le_of_ble_eq_true rfl) dX8_undo_4 rfl ?_
  refine mk_if_ne C 13 dX8_undo_7 (by decide) (fun c3 => ?_) (fun c3 => ?_)
  · replace hf := (if_neg c3).symm.trans hf
    refine mk_aload_n C 0 dX8_undo_13 rfl ?_
    refine mk_get C mk_inX8 0 rfl rfl 7 (by decide) mw_349 (v := .ref (aA 0)) rfl dX8_undo_14 ?_
    refine mk_get C mk_inX0 48 rfl rfl 2 (by decide) mw_307 (v := .int (uA 2 0)) rfl dX8_undo_17 ?_
    refine mk_if_ne C 26 dX8_undo_20 (by decide) (fun c4 => ?_) (fun c4 => ?_)
    · replace hf := (if_neg c4).symm.trans hf
      refine mk_aload_n C 0 dX8_undo_26 rfl ?_
      refine mk_get C mk_inX8 0 rfl rfl 7 (by decide) mw_349 (v := .ref (aA 0)) rfl dX8_undo_27 ?_
      refine mk_aload_n C 0 dX8_undo_30 rfl ?_
      refine mk_get C mk_inX8 0 rfl rfl 4 (by decide) mw_346 (v := .ref (aP 0)) rfl dX8_undo_31 ?_
      obtain ⟨uA_5, uP_6, h7, hf⟩ := b2_some hf
      refine mk_callVv C (c_A_takeBack l D cI cJ X Y aA aP uA uP uA_5 uP_6 h7) mw_887 mw_888 mw_889 mw_8 mw_890 mkn_X0_takeBack rfl ⟨Nat.le_of_ble_eq_true rfl, Nat.le_of_ble_eq_true rfl⟩ 48 rfl rfl rfl (fr_Z_AP cI cJ aZ aR aT aD aY aP aS aC aO aA aM uQ uR uT uD uY uP uS uC uO uA uM uA_5 uP_6) (Nat.le_of_ble_eq_true rfl) dX8_undo_34 rfl ?_
      refine mk_aload_n C 0 dX8_undo_37 rfl ?_
      refine mk_get C mk_inX8 0 rfl rfl 3 (by decide) mw_345 (v := .ref (aY 0)) rfl dX8_undo_38 ?_
      refine mk_aload_n C 0 dX8_undo_41 rfl ?_
      refine mk_get C mk_inX8 0 rfl rfl 5 (by decide) mw_347 (v := .ref (aC 0)) rfl dX8_undo_42 ?_
      refine mk_aload_n C 0 dX8_undo_45 rfl ?_
      refine mk_get C mk_inX8 0 rfl rfl 4 (by decide) mw_346 (v := .ref (aP 0)) rfl dX8_undo_46 ?_
      refine mk_get C mk_inX3 12 rfl rfl 0 (by decide) mw_58 (v := .int (uP_6 0 0)) rfl dX8_undo_49 ?_
      refine mk_iconst C (v := (-1)) dX8_undo_52 (by decide) ?_
      refine mk_iconst C (v := (-1)) dX8_undo_53 (by decide) ?_
      obtain ⟨r8, uY_9, uS_10, uC_11, h12, hf⟩ := b4_some hf
      refine mk_callVi C (c_Y_run l D cI cJ X Y aY aP aS aC (mk_crs aC aO uQ) uY uP_6 uS uC (uP_6 0 0) (-1) (-1) r8 uY_9 uS_10 uC_11 h12) mw_537 mw_538 mw_539 mw_5 mw_540 mkn_X4_run rfl ⟨Nat.le_of_ble_eq_true rfl, Nat.le_of_ble_eq_true rfl⟩ 10 rfl rfl rfl (fr_Z_YPSC_run cI cJ aZ aR aT aD aY aP aS aC aO aA aM uQ uR uT uD uY uP_6 uS uC uO uA_5 uM uY_9 uP_6 uS_10 uC_11) (Nat.le_of_ble_eq_true rfl) dX8_undo_54 rfl ?_
      refine mk_pop C dX8_undo_57 rfl ?_
      refine mk_aload_n C 0 dX8_undo_58 rfl ?_
      refine mk_get C mk_inX8 0 rfl rfl 7 (by decide) mw_349 (v := .ref (aA 0)) rfl dX8_undo_59 ?_
      refine mk_get C mk_inX0 48 rfl rfl 2 (by decide) mw_307 (v := .int (uA_5 2 0)) rfl dX8_undo_62 ?_
      have e := Option.some.inj hf
      simp only [Prod.mk.injEq] at e
      obtain ⟨e0, e1, e2, e3, e4, e5, e6⟩ := e
      exact mk_iret C hr hlk e0 (by rw [← e1, ← e2, ← e3, ← e4, ← e5, ← e6]) dX8_undo_65
    · replace hf := (if_pos c4).symm.trans hf
      refine mk_bipush C (v := (-5)) dX8_undo_23 (by decide) ?_
      have e := Option.some.inj hf
      simp only [Prod.mk.injEq] at e
      obtain ⟨e0, e1, e2, e3, e4, e5, e6⟩ := e
      exact mk_iret C hr hlk e0 (by rw [← e1, ← e2, ← e3, ← e4, ← e5, ← e6]) dX8_undo_25
  · replace hf := (if_pos c3).symm.trans hf
    refine mk_bipush C (v := (-2)) dX8_undo_10 (by decide) ?_
    have e := Option.some.inj hf
    simp only [Prod.mk.injEq] at e
    obtain ⟨e0, e1, e2, e3, e4, e5, e6⟩ := e
    exact mk_iret C hr hlk e0 (by rw [← e1, ← e2, ← e3, ← e4, ← e5, ← e6]) dX8_undo_12
set_option maxHeartbeats 40000000 in
set_option maxRecDepth 100000 in
theorem c_Z_anew (l : Launch) (D : va_G) (cI cJ : ClassId) (X Y : Nat → Nat) (aZ aR aT aD aY aP aS aC aO aA aM : Nat → Nat) (uQ : Nat) (uR : Nat → Nat → Int32) (uT : Nat → Nat → Int32) (uD : Nat → Nat → Int32) (uY : Nat → Nat → Int32) (uP : Nat → Nat → Int32) (uS : Nat → Nat → Int32) (uC : Nat → Nat → Int32) (uO : Nat → Nat → Int32) (uA : Nat → Nat → Int32) (uM : Nat → Nat → Int64) (r : Int32) (wQ : Nat) (wY : Nat → Nat → Int32) (wP : Nat → Nat → Int32) (wS : Nat → Nat → Int32) (wC : Nat → Nat → Int32) (wA : Nat → Nat → Int32) (hf : f_Z_anew uQ uY uP uS uC uA = some (r, wQ, wY, wP, wS, wC, wA)) : mk_Met l yX8_anew cX8_anew 3 (some .int) ({ frames := 6, cells := 0, slots := 0, locals := 142 }) D [(cI, .int), (cJ, .long)] X Y [.ref (aZ 0)] (wChan aZ aR aT aD aY aP aC aO aA aM ++ (wReader aR aT aD uR ++ (wTape aT cI uT ++ (wPlan aD cI uD ++ (wPlay aY aP aS (mk_crs aC aO uQ) cI uY ++ (wPlan aP cI uP ++ (wStack aS cI uS ++ (wCourse aC cI uC ++ (wCourse aO cI uO ++ (wActs aA cI uA ++ (wMeans aM cJ uM))))))))))) (wChan aZ aR aT aD aY aP aC aO aA aM ++ (wReader aR aT aD uR ++ (wTape aT cI uT ++ (wPlan aD cI uD ++ (wPlay aY aP aS (mk_crs aC aO wQ) cI wY ++ (wPlan aP cI wP ++ (wStack aS cI wS ++ (wCourse aC cI wC ++ (wCourse aO cI uO ++ (wActs aA cI wA ++ (wMeans aM cJ uM))))))))))) (some (.int r)) 0 0 := by
  refine mk_start (own := RX8) (by decide) rfl (Nat.le_of_ble_eq_true rfl) ?_
  intro sz p e s m args below meth c A C hr hlk hnm
  replace C : mk_Cx p s m args c cX8_anew 3 RX8 D [(cI, .int), (cJ, .long)] X Y A := C
  have wL23 : ∀ (n : Nat) (v1 : Int32) (v2 : Int32) (uQ : Nat) (uY : Nat → Nat → Int32) (uP : Nat → Nat → Int32) (uS : Nat → Nat → Int32) (uC : Nat → Nat → Int32) (uA : Nat → Nat → Int32), f_Z_anew_23 n v1 v2 uQ uY uP uS uC uA = some (r, wQ, wY, wP, wS, wC, wA) → mk_Go p l e (headSpec (mk_ws yX8_anew cX8_anew 3 (some .int)) ({ frames := 6, cells := 0, slots := 0, locals := 142 })).room s m args below meth c D A 3 0 0 (MQ below (mk_Q (some (.int r)) D (wChan aZ aR aT aD aY aP aC aO aA aM ++ (wReader aR aT aD uR ++ (wTape aT cI uT ++ (wPlan aD cI uD ++ (wPlay aY aP aS (mk_crs aC aO wQ) cI wY ++ (wPlan aP cI wP ++ (wStack aS cI wS ++ (wCourse aC cI wC ++ (wCourse aO cI uO ++ (wActs aA cI wA ++ (wMeans aM cJ uM))))))))))) A) args s 0 0 A) 23 (wChan aZ aR aT aD aY aP aC aO aA aM ++ (wReader aR aT aD uR ++ (wTape aT cI uT ++ (wPlan aD cI uD ++ (wPlay aY aP aS (mk_crs aC aO uQ) cI uY ++ (wPlan aP cI uP ++ (wStack aS cI uS ++ (wCourse aC cI uC ++ (wCourse aO cI uO ++ (wActs aA cI uA ++ (wMeans aM cJ uM))))))))))) [(0, .ref (aZ 0)), (1, .int v1), (2, .int v2)] [] := by
    intro  n
    induction n with
    | zero => intro v1 v2 uQ uY uP uS uC uA hf; exact nomatch (show (none : Option (Int32 × Nat × (Nat → Nat → Int32) × (Nat → Nat → Int32) × (Nat → Nat → Int32) × (Nat → Nat → Int32) × (Nat → Nat → Int32))) = some _ from hf)
    | succ n ih =>
      intro v1 v2 uQ uY uP uS uC uA hf
      rw [f_Z_anew_23] at hf
      refine mk_iload_n C 2 dX8_anew_23 rfl ?_
      refine mk_iload_n C 1 dX8_anew_24 rfl ?_
      refine mk_icmp_ge C 45 dX8_anew_25 (by decide) (fun c1 => ?_) (fun c1 => ?_)
      · replace hf := (if_pos c1).symm.trans hf
        refine mk_aload_n C 0 dX8_anew_45 rfl ?_
        refine mk_get C mk_inX8 0 rfl rfl 3 (by decide) mw_345 (v := .ref (aY 0)) rfl dX8_anew_46 ?_
        refine mk_aload_n C 0 dX8_anew_49 rfl ?_
        refine mk_get C mk_inX8 0 rfl rfl 5 (by decide) mw_347 (v := .ref (aC 0)) rfl dX8_anew_50 ?_
        refine mk_aload_n C 0 dX8_anew_53 rfl ?_
        refine mk_get C mk_inX8 0 rfl rfl 4 (by decide) mw_346 (v := .ref (aP 0)) rfl dX8_anew_54 ?_
        refine mk_get C mk_inX3 12 rfl rfl 0 (by decide) mw_58 (v := .int (uP 0 0)) rfl dX8_anew_57 ?_
        refine mk_iconst C (v := (-1)) dX8_anew_60 (by decide) ?_
        refine mk_iconst C (v := (-1)) dX8_anew_61 (by decide) ?_
        obtain ⟨r2, uY_3, uS_4, uC_5, h6, hf⟩ := b4_some hf
        refine mk_callVi C (c_Y_run l D cI cJ X Y aY aP aS aC (mk_crs aC aO uQ) uY uP uS uC (uP 0 0) (-1) (-1) r2 uY_3 uS_4 uC_5 h6) mw_537 mw_538 mw_539 mw_5 mw_540 mkn_X4_run rfl ⟨Nat.le_of_ble_eq_true rfl, Nat.le_of_ble_eq_true rfl⟩ 10 rfl rfl rfl (fr_Z_YPSC_run cI cJ aZ aR aT aD aY aP aS aC aO aA aM uQ uR uT uD uY uP uS uC uO uA uM uY_3 uP uS_4 uC_5) (Nat.le_of_ble_eq_true rfl) dX8_anew_62 rfl ?_
        refine mk_pop C dX8_anew_65 rfl ?_
        refine mk_iload_n C 1 dX8_anew_66 rfl ?_
        have e := Option.some.inj hf
        simp only [Prod.mk.injEq] at e
        obtain ⟨e0, e1, e2, e3, e4, e5, e6⟩ := e
        exact mk_iret C hr hlk e0 (by rw [← e1, ← e2, ← e3, ← e4, ← e5, ← e6]) dX8_anew_67
      · replace hf := (if_neg c1).symm.trans hf
        refine mk_aload_n C 0 dX8_anew_28 rfl ?_
        refine mk_get C mk_inX8 0 rfl rfl 7 (by decide) mw_349 (v := .ref (aA 0)) rfl dX8_anew_29 ?_
        refine mk_aload_n C 0 dX8_anew_32 rfl ?_
        refine mk_get C mk_inX8 0 rfl rfl 4 (by decide) mw_346 (v := .ref (aP 0)) rfl dX8_anew_33 ?_
        obtain ⟨uA_7, uP_8, h9, hf⟩ := b2_some hf
        refine mk_callVv C (c_A_takeBack l D cI cJ X Y aA aP uA uP uA_7 uP_8 h9) mw_887 mw_888 mw_889 mw_8 mw_890 mkn_X0_takeBack rfl ⟨Nat.le_of_ble_eq_true rfl, Nat.le_of_ble_eq_true rfl⟩ 48 rfl rfl rfl (fr_Z_AP cI cJ aZ aR aT aD aY aP aS aC aO aA aM uQ uR uT uD uY uP uS uC uO uA uM uA_7 uP_8) (Nat.le_of_ble_eq_true rfl) dX8_anew_36 rfl ?_
        refine mk_iinc C (v := (v2 + 1)) (lv' := [(2, .int (v2 + 1)), (0, .ref (aZ 0)), (1, .int v1)]) 2 dX8_anew_39 rfl rfl (by decide) rfl ?_
        refine mk_goto C 23 dX8_anew_42 (by decide) ?_
        exact mk_lvsub [1, 2, 0] rfl (ih _ _ _ _ _ _ _ _ hf)
  show mk_Go p l e (headSpec (mk_ws yX8_anew cX8_anew 3 (some .int)) ({ frames := 6, cells := 0, slots := 0, locals := 142 })).room s m args below meth c D A 3 0 0 (MQ below (mk_Q (some (.int r)) D (wChan aZ aR aT aD aY aP aC aO aA aM ++ (wReader aR aT aD uR ++ (wTape aT cI uT ++ (wPlan aD cI uD ++ (wPlay aY aP aS (mk_crs aC aO wQ) cI wY ++ (wPlan aP cI wP ++ (wStack aS cI wS ++ (wCourse aC cI wC ++ (wCourse aO cI uO ++ (wActs aA cI wA ++ (wMeans aM cJ uM))))))))))) A) args s 0 0 A) 0 (wChan aZ aR aT aD aY aP aC aO aA aM ++ (wReader aR aT aD uR ++ (wTape aT cI uT ++ (wPlan aD cI uD ++ (wPlay aY aP aS (mk_crs aC aO uQ) cI uY ++ (wPlan aP cI uP ++ (wStack aS cI uS ++ (wCourse aC cI uC ++ (wCourse aO cI uO ++ (wActs aA cI uA ++ (wMeans aM cJ uM))))))))))) [(0, .ref (aZ 0))] []
  unfold f_Z_anew at hf
  refine mk_aload_n C 0 dX8_anew_0 rfl ?_
  refine mk_get C mk_inX8 0 rfl rfl 4 (by decide) mw_346 (v := .ref (aP 0)) rfl dX8_anew_1 ?_
  obtain ⟨r10, h11, hf⟩ := b1_some hf
  refine mk_callVi C (c_P_stands l D cI cJ X Y aP uP r10 h11) mw_693 mw_694 mw_695 mw_4 mw_696 mkn_X3_stands rfl ⟨Nat.le_of_ble_eq_true rfl, Nat.le_of_ble_eq_true rfl⟩ 12 rfl rfl rfl (fr_Z_P cI cJ aZ aR aT aD aY aP aS aC aO aA aM uQ uR uT uD uY uP uS uC uO uA uM uP) (Nat.le_of_ble_eq_true rfl) dX8_anew_4 rfl ?_
  refine mk_if_ne C 13 dX8_anew_7 (by decide) (fun c12 => ?_) (fun c12 => ?_)
  · replace hf := (if_neg c12).symm.trans hf
    refine mk_aload_n C 0 dX8_anew_13 rfl ?_
    refine mk_get C mk_inX8 0 rfl rfl 7 (by decide) mw_349 (v := .ref (aA 0)) rfl dX8_anew_14 ?_
    refine mk_get C mk_inX0 48 rfl rfl 2 (by decide) mw_307 (v := .int (uA 2 0)) rfl dX8_anew_17 ?_
    refine mk_istore_n C (lv' := [(1, .int (uA 2 0)), (0, .ref (aZ 0))]) dX8_anew_20 (by decide) rfl ?_
    refine mk_iconst C (v := 0) dX8_anew_21 (by decide) ?_
    refine mk_istore_n C (lv' := [(2, .int 0), (1, .int (uA 2 0)), (0, .ref (aZ 0))]) dX8_anew_22 (by decide) rfl ?_
    exact mk_lvsub [2, 1, 0] rfl (wL23 600 _ _ _ _ _ _ _ _ hf)
  · replace hf := (if_pos c12).symm.trans hf
    refine mk_bipush C (v := (-2)) dX8_anew_10 (by decide) ?_
    have e := Option.some.inj hf
    simp only [Prod.mk.injEq] at e
    obtain ⟨e0, e1, e2, e3, e4, e5, e6⟩ := e
    exact mk_iret C hr hlk e0 (by rw [← e1, ← e2, ← e3, ← e4, ← e5, ← e6]) dX8_anew_12
