set_option maxHeartbeats 40000000 in
set_option maxRecDepth 100000 in
theorem c_Z_isLaw (l : Launch) (D : va_G) (cI cJ : ClassId) (X Y : Nat → Nat) (p0 : Int32) (r : Int32) (hf : f_Z_isLaw p0 = some r) : mk_Met l yX8_isLaw cX8_isLaw 1 (some .boolean) ({ frames := 0, cells := 0, slots := 0, locals := 0 }) D [(cI, .int), (cJ, .long)] X Y [.int p0] ([] : va_W) ([] : va_W) (some (.int r)) 0 0 := by
  refine mk_start (own := RX8) (by decide) rfl (Nat.le_of_ble_eq_true rfl) ?_
  intro sz p e s m args below meth c A C hr hlk hnm
  replace C : mk_Cx p s m args c cX8_isLaw 1 RX8 D [(cI, .int), (cJ, .long)] X Y A := C
  show mk_Go p l e (headSpec (mk_ws yX8_isLaw cX8_isLaw 1 (some .boolean)) ({ frames := 0, cells := 0, slots := 0, locals := 0 })).room s m args below meth c D A 1 0 0 (MQ below (mk_Q (some (.int r)) D ([] : va_W) A) args s 0 0 A) 0 ([] : va_W) [(0, .int p0)] []
  unfold f_Z_isLaw at hf
  refine mk_iload_n C 0 dX8_isLaw_0 rfl ?_
  refine mk_if_lt C 13 dX8_isLaw_1 (by decide) (fun c1 => ?_) (fun c1 => ?_)
  · replace hf := (if_pos c1).symm.trans hf
    refine mk_iconst C (v := 0) dX8_isLaw_13 (by decide) ?_
    have e0 := Option.some.inj hf
    exact mk_zret C hr hlk rfl e0 rfl dX8_isLaw_14
  · replace hf := (if_neg c1).symm.trans hf
    refine mk_iload_n C 0 dX8_isLaw_4 rfl ?_
    refine mk_iconst C (v := 3) dX8_isLaw_5 (by decide) ?_
    refine mk_icmp_gt C 13 dX8_isLaw_6 (by decide) (fun c2 => ?_) (fun c2 => ?_)
    · replace hf := (if_pos c2).symm.trans hf
      refine mk_iconst C (v := 0) dX8_isLaw_13 (by decide) ?_
      have e0 := Option.some.inj hf
      exact mk_zret C hr hlk rfl e0 rfl dX8_isLaw_14
    · replace hf := (if_neg c2).symm.trans hf
      refine mk_iconst C (v := 1) dX8_isLaw_9 (by decide) ?_
      refine mk_goto C 14 dX8_isLaw_10 (by decide) ?_
      have e0 := Option.some.inj hf
      exact mk_zret C hr hlk rfl e0 rfl dX8_isLaw_14
set_option maxHeartbeats 40000000 in
set_option maxRecDepth 100000 in
theorem c_Z_by (l : Launch) (D : va_G) (cI cJ : ClassId) (X Y : Nat → Nat) (aZ aR aT aD aY aP aS aC aO aA aM : Nat → Nat) (uQ : Nat) (uR : Nat → Nat → Int32) (uT : Nat → Nat → Int32) (uD : Nat → Nat → Int32) (uY : Nat → Nat → Int32) (uP : Nat → Nat → Int32) (uS : Nat → Nat → Int32) (uC : Nat → Nat → Int32) (uO : Nat → Nat → Int32) (uA : Nat → Nat → Int32) (uM : Nat → Nat → Int64) (p1 : Int32) (p2 : Int32) (r : Int32) (wQ : Nat) (wY : Nat → Nat → Int32) (wS : Nat → Nat → Int32) (wO : Nat → Nat → Int32) (hf : f_Z_by uQ uY uP uS uO p1 p2 = some (r, wQ, wY, wS, wO)) : mk_Met l yX8_by cX8_by 3 (some .int) ({ frames := 6, cells := 0, slots := 0, locals := 142 }) D [(cI, .int), (cJ, .long)] X Y [.ref (aZ 0), .int p1, .int p2] (wChan aZ aR aT aD aY aP aC aO aA aM ++ (wReader aR aT aD uR ++ (wTape aT cI uT ++ (wPlan aD cI uD ++ (wPlay aY aP aS (mk_crs aC aO uQ) cI uY ++ (wPlan aP cI uP ++ (wStack aS cI uS ++ (wCourse aC cI uC ++ (wCourse aO cI uO ++ (wActs aA cI uA ++ (wMeans aM cJ uM))))))))))) (wChan aZ aR aT aD aY aP aC aO aA aM ++ (wReader aR aT aD uR ++ (wTape aT cI uT ++ (wPlan aD cI uD ++ (wPlay aY aP aS (mk_crs aC aO wQ) cI wY ++ (wPlan aP cI uP ++ (wStack aS cI wS ++ (wCourse aC cI uC ++ (wCourse aO cI wO ++ (wActs aA cI uA ++ (wMeans aM cJ uM))))))))))) (some (.int r)) 0 0 := by
  refine mk_start (own := RX8) (by decide) rfl (Nat.le_of_ble_eq_true rfl) ?_
  intro sz p e s m args below meth c A C hr hlk hnm
  replace C : mk_Cx p s m args c cX8_by 3 RX8 D [(cI, .int), (cJ, .long)] X Y A := C
  show mk_Go p l e (headSpec (mk_ws yX8_by cX8_by 3 (some .int)) ({ frames := 6, cells := 0, slots := 0, locals := 142 })).room s m args below meth c D A 3 0 0 (MQ below (mk_Q (some (.int r)) D (wChan aZ aR aT aD aY aP aC aO aA aM ++ (wReader aR aT aD uR ++ (wTape aT cI uT ++ (wPlan aD cI uD ++ (wPlay aY aP aS (mk_crs aC aO wQ) cI wY ++ (wPlan aP cI uP ++ (wStack aS cI wS ++ (wCourse aC cI uC ++ (wCourse aO cI wO ++ (wActs aA cI uA ++ (wMeans aM cJ uM))))))))))) A) args s 0 0 A) 0 (wChan aZ aR aT aD aY aP aC aO aA aM ++ (wReader aR aT aD uR ++ (wTape aT cI uT ++ (wPlan aD cI uD ++ (wPlay aY aP aS (mk_crs aC aO uQ) cI uY ++ (wPlan aP cI uP ++ (wStack aS cI uS ++ (wCourse aC cI uC ++ (wCourse aO cI uO ++ (wActs aA cI uA ++ (wMeans aM cJ uM))))))))))) [(0, .ref (aZ 0)), (1, .int p1), (2, .int p2)] []
  unfold f_Z_by at hf
  refine mk_iload_n C 1 dX8_by_0 rfl ?_
  obtain ⟨r1, h2, hf⟩ := b1_some hf
  refine mk_callSi C (c_Z_isLaw l D cI cJ X Y p1 r1 h2) mw_760 mw_761 mw_1 mw_762 mkn_X8_isLaw rfl ⟨Nat.le_of_ble_eq_true rfl, Nat.le_of_ble_eq_true rfl⟩ (mk_Fr.nil _) (Nat.le_of_ble_eq_true rfl) dX8_by_1 rfl ?_
  refine mk_if_eq C 26 dX8_by_4 (by decide) (fun c3 => ?_) (fun c3 => ?_)
  · replace hf := (if_pos c3).symm.trans hf
    refine mk_bipush C (v := (-2)) dX8_by_26 (by decide) ?_
    have e := Option.some.inj hf
    simp only [Prod.mk.injEq] at e
    obtain ⟨e0, e1, e2, e3, e4⟩ := e
    exact mk_iret C hr hlk e0 (by rw [← e1, ← e2, ← e3, ← e4]) dX8_by_28
  · replace hf := (if_neg c3).symm.trans hf
    refine mk_iload_n C 2 dX8_by_7 rfl ?_
    refine mk_if_lt C 26 dX8_by_8 (by decide) (fun c4 => ?_) (fun c4 => ?_)
    · replace hf := (if_pos c4).symm.trans hf
      refine mk_bipush C (v := (-2)) dX8_by_26 (by decide) ?_
      have e := Option.some.inj hf
      simp only [Prod.mk.injEq] at e
      obtain ⟨e0, e1, e2, e3, e4⟩ := e
      exact mk_iret C hr hlk e0 (by rw [← e1, ← e2, ← e3, ← e4]) dX8_by_28
    · replace hf := (if_neg c4).symm.trans hf
      refine mk_iload_n C 2 dX8_by_11 rfl ?_
      refine mk_iconst C (v := 3) dX8_by_12 (by decide) ?_
      refine mk_icmp_gt C 26 dX8_by_13 (by decide) (fun c5 => ?_) (fun c5 => ?_)
      · replace hf := (if_pos c5).symm.trans hf
        refine mk_bipush C (v := (-2)) dX8_by_26 (by decide) ?_
        have e := Option.some.inj hf
        simp only [Prod.mk.injEq] at e
        obtain ⟨e0, e1, e2, e3, e4⟩ := e
        exact mk_iret C hr hlk e0 (by rw [← e1, ← e2, ← e3, ← e4]) dX8_by_28
      · replace hf := (if_neg c5).symm.trans hf
        refine mk_aload_n C 0 dX8_by_16 rfl ?_
        refine mk_get C mk_inX8 0 rfl rfl 4 (by decide) mw_346 (v := .ref (aP 0)) rfl dX8_by_17 ?_
        obtain ⟨r6, h7, hf⟩ := b1_some hf
        refine mk_callVi C (c_P_stands l D cI cJ X Y aP uP r6 h7) mw_693 mw_694 mw_695 mw_4 mw_696 mkn_X3_stands rfl ⟨Nat.le_of_ble_eq_true rfl, Nat.le_of_ble_eq_true rfl⟩ 12 rfl rfl rfl (fr_Z_P cI cJ aZ aR aT aD aY aP aS aC aO aA aM uQ uR uT uD uY uP uS uC uO uA uM uP) (Nat.le_of_ble_eq_true rfl) dX8_by_20 rfl ?_
        refine mk_if_ne C 29 dX8_by_23 (by decide) (fun c8 => ?_) (fun c8 => ?_)
        · replace hf := (if_neg c8).symm.trans hf
          refine mk_aload_n C 0 dX8_by_29 rfl ?_
          refine mk_get C mk_inX8 0 rfl rfl 3 (by decide) mw_345 (v := .ref (aY 0)) rfl dX8_by_30 ?_
          refine mk_aload_n C 0 dX8_by_33 rfl ?_
          refine mk_get C mk_inX8 0 rfl rfl 6 (by decide) mw_348 (v := .ref (aO 0)) rfl dX8_by_34 ?_
          refine mk_iload_n C 1 dX8_by_37 rfl ?_
          refine mk_iconst C (v := (-1)) dX8_by_38 (by decide) ?_
          refine mk_iconst C (v := (-1)) dX8_by_39 (by decide) ?_
          obtain ⟨r9, uY_10, uS_11, uO_12, h13, hf⟩ := b4_some hf
          refine mk_callVi C (c_Y_run l D cI cJ X Y aY aP aS aO (mk_crs aC aO uQ) uY uP uS uO p1 (-1) (-1) r9 uY_10 uS_11 uO_12 h13) mw_537 mw_538 mw_539 mw_5 mw_540 mkn_X4_run rfl ⟨Nat.le_of_ble_eq_true rfl, Nat.le_of_ble_eq_true rfl⟩ 10 rfl rfl rfl (fr_Z_YPSO_run cI cJ aZ aR aT aD aY aP aS aC aO aA aM uQ uR uT uD uY uP uS uC uO uA uM uY_10 uP uS_11 uO_12) (Nat.le_of_ble_eq_true rfl) dX8_by_40 rfl ?_
          refine mk_pop C dX8_by_43 rfl ?_
          refine mk_iload_n C 2 dX8_by_44 rfl ?_
          by_cases c14 : p2 = 0
          · replace hf := (if_pos c14).symm.trans hf
            refine mk_tableIn C 72 c14 dX8_by_45 (by decide) (by decide) rfl (by decide) ?_
            refine mk_aload_n C 0 dX8_by_72 rfl ?_
            refine mk_get C mk_inX8 0 rfl rfl 6 (by decide) mw_348 (v := .ref (aO 0)) rfl dX8_by_73 ?_
            refine mk_aload_n C 0 dX8_by_76 rfl ?_
            refine mk_get C mk_inX8 0 rfl rfl 4 (by decide) mw_346 (v := .ref (aP 0)) rfl dX8_by_77 ?_
            refine mk_get C mk_inX3 12 rfl rfl 5 (by decide) mw_78 (v := .int (uP 5 0)) rfl dX8_by_80 ?_
            obtain ⟨r15, h16, hf⟩ := b1_some hf
            refine mk_callVi C (c_C_lastSlot l D cI cJ X Y aO uO_12 (uP 5 0) r15 h16) mw_705 mw_706 mw_707 mw_7 mw_708 mkn_X1_lastSlot rfl ⟨Nat.le_of_ble_eq_true rfl, Nat.le_of_ble_eq_true rfl⟩ 35 rfl rfl rfl (fr_Z_O cI cJ aZ aR aT aD aY aP aS aC aO aA aM 1 uR uT uD uY_10 uP uS_11 uC uO_12 uA uM uO_12) (Nat.le_of_ble_eq_true rfl) dX8_by_83 rfl ?_
            have e := Option.some.inj hf
            simp only [Prod.mk.injEq] at e
            obtain ⟨e0, e1, e2, e3, e4⟩ := e
            exact mk_iret C hr hlk e0 (by rw [← e1, ← e2, ← e3, ← e4]) dX8_by_86
          · replace hf := (if_neg c14).symm.trans hf
            by_cases c17 : p2 = 1
            · replace hf := (if_pos c17).symm.trans hf
              refine mk_tableIn C 87 c17 dX8_by_45 (by decide) (by decide) rfl (by decide) ?_
              refine mk_aload_n C 0 dX8_by_87 rfl ?_
              refine mk_get C mk_inX8 0 rfl rfl 6 (by decide) mw_348 (v := .ref (aO 0)) rfl dX8_by_88 ?_
              refine mk_get C mk_inX1 35 rfl rfl 9 (by decide) mw_214 (v := .int (uO_12 9 0)) rfl dX8_by_91 ?_
              have e := Option.some.inj hf
              simp only [Prod.mk.injEq] at e
              obtain ⟨e0, e1, e2, e3, e4⟩ := e
              exact mk_iret C hr hlk e0 (by rw [← e1, ← e2, ← e3, ← e4]) dX8_by_94
            · replace hf := (if_neg c17).symm.trans hf
              by_cases c18 : p2 = 2
              · replace hf := (if_pos c18).symm.trans hf
                refine mk_tableIn C 95 c18 dX8_by_45 (by decide) (by decide) rfl (by decide) ?_
                refine mk_aload_n C 0 dX8_by_95 rfl ?_
                refine mk_get C mk_inX8 0 rfl rfl 6 (by decide) mw_348 (v := .ref (aO 0)) rfl dX8_by_96 ?_
                refine mk_aload_n C 0 dX8_by_99 rfl ?_
                refine mk_get C mk_inX8 0 rfl rfl 4 (by decide) mw_346 (v := .ref (aP 0)) rfl dX8_by_100 ?_
                refine mk_get C mk_inX3 12 rfl rfl 1 (by decide) mw_62 (v := .int (uP 1 0)) rfl dX8_by_103 ?_
                obtain ⟨r19, h20, hf⟩ := b1_some hf
                refine mk_callVi C (c_C_collisions l D cI cJ X Y aO uO_12 (uP 1 0) r19 h20) mw_722 mw_723 mw_724 mw_7 mw_725 mkn_X1_collisions rfl ⟨Nat.le_of_ble_eq_true rfl, Nat.le_of_ble_eq_true rfl⟩ 35 rfl rfl rfl (fr_Z_O cI cJ aZ aR aT aD aY aP aS aC aO aA aM 1 uR uT uD uY_10 uP uS_11 uC uO_12 uA uM uO_12) (Nat.le_of_ble_eq_true rfl) dX8_by_106 rfl ?_
                have e := Option.some.inj hf
                simp only [Prod.mk.injEq] at e
                obtain ⟨e0, e1, e2, e3, e4⟩ := e
                exact mk_iret C hr hlk e0 (by rw [← e1, ← e2, ← e3, ← e4]) dX8_by_109
              · replace hf := (if_neg c18).symm.trans hf
                refine mk_tableOut C 110 dX8_by_45 (by have e0 := mk_ne c14 (k := 0) (by decide); have e1 := mk_ne c17 (k := 1) (by decide); have e2 := mk_ne c18 (k := 2) (by decide); omega) (by decide) ?_
                refine mk_aload_n C 0 dX8_by_110 rfl ?_
                refine mk_get C mk_inX8 0 rfl rfl 6 (by decide) mw_348 (v := .ref (aO 0)) rfl dX8_by_111 ?_
                refine mk_aload_n C 0 dX8_by_114 rfl ?_
                refine mk_get C mk_inX8 0 rfl rfl 4 (by decide) mw_346 (v := .ref (aP 0)) rfl dX8_by_115 ?_
                refine mk_get C mk_inX3 12 rfl rfl 1 (by decide) mw_62 (v := .int (uP 1 0)) rfl dX8_by_118 ?_
                obtain ⟨r21, h22, hf⟩ := b1_some hf
                refine mk_callVi C (c_C_skipsMade l D cI cJ X Y aO uO_12 (uP 1 0) r21 h22) mw_731 mw_732 mw_733 mw_7 mw_734 mkn_X1_skipsMade rfl ⟨Nat.le_of_ble_eq_true rfl, Nat.le_of_ble_eq_true rfl⟩ 35 rfl rfl rfl (fr_Z_O cI cJ aZ aR aT aD aY aP aS aC aO aA aM 1 uR uT uD uY_10 uP uS_11 uC uO_12 uA uM uO_12) (Nat.le_of_ble_eq_true rfl) dX8_by_121 rfl ?_
                have e := Option.some.inj hf
                simp only [Prod.mk.injEq] at e
                obtain ⟨e0, e1, e2, e3, e4⟩ := e
                exact mk_iret C hr hlk e0 (by rw [← e1, ← e2, ← e3, ← e4]) dX8_by_124
        · replace hf := (if_pos c8).symm.trans hf
          refine mk_bipush C (v := (-2)) dX8_by_26 (by decide) ?_
          have e := Option.some.inj hf
          simp only [Prod.mk.injEq] at e
          obtain ⟨e0, e1, e2, e3, e4⟩ := e
          exact mk_iret C hr hlk e0 (by rw [← e1, ← e2, ← e3, ← e4]) dX8_by_28
set_option maxHeartbeats 40000000 in
set_option maxRecDepth 100000 in
theorem c_Z_without (l : Launch) (D : va_G) (cI cJ : ClassId) (X Y : Nat → Nat) (aZ aR aT aD aY aP aS aC aO aA aM : Nat → Nat) (uQ : Nat) (uR : Nat → Nat → Int32) (uT : Nat → Nat → Int32) (uD : Nat → Nat → Int32) (uY : Nat → Nat → Int32) (uP : Nat → Nat → Int32) (uS : Nat → Nat → Int32) (uC : Nat → Nat → Int32) (uO : Nat → Nat → Int32) (uA : Nat → Nat → Int32) (uM : Nat → Nat → Int64) (p1 : Int32) (r : Int32) (wQ : Nat) (wY : Nat → Nat → Int32) (wS : Nat → Nat → Int32) (wO : Nat → Nat → Int32) (hf : f_Z_without uQ uY uP uS uC uO p1 = some (r, wQ, wY, wS, wO)) : mk_Met l yX8_without cX8_without 2 (some .int) ({ frames := 6, cells := 0, slots := 0, locals := 142 }) D [(cI, .int), (cJ, .long)] X Y [.ref (aZ 0), .int p1] (wChan aZ aR aT aD aY aP aC aO aA aM ++ (wReader aR aT aD uR ++ (wTape aT cI uT ++ (wPlan aD cI uD ++ (wPlay aY aP aS (mk_crs aC aO uQ) cI uY ++ (wPlan aP cI uP ++ (wStack aS cI uS ++ (wCourse aC cI uC ++ (wCourse aO cI uO ++ (wActs aA cI uA ++ (wMeans aM cJ uM))))))))))) (wChan aZ aR aT aD aY aP aC aO aA aM ++ (wReader aR aT aD uR ++ (wTape aT cI uT ++ (wPlan aD cI uD ++ (wPlay aY aP aS (mk_crs aC aO wQ) cI wY ++ (wPlan aP cI uP ++ (wStack aS cI wS ++ (wCourse aC cI uC ++ (wCourse aO cI wO ++ (wActs aA cI uA ++ (wMeans aM cJ uM))))))))))) (some (.int r)) 0 0 := by
  refine mk_start (own := RX8) (by decide) rfl (Nat.le_of_ble_eq_true rfl) ?_
  intro sz p e s m args below meth c A C hr hlk hnm
  replace C : mk_Cx p s m args c cX8_without 2 RX8 D [(cI, .int), (cJ, .long)] X Y A := C
  show mk_Go p l e (headSpec (mk_ws yX8_without cX8_without 2 (some .int)) ({ frames := 6, cells := 0, slots := 0, locals := 142 })).room s m args below meth c D A 2 0 0 (MQ below (mk_Q (some (.int r)) D (wChan aZ aR aT aD aY aP aC aO aA aM ++ (wReader aR aT aD uR ++ (wTape aT cI uT ++ (wPlan aD cI uD ++ (wPlay aY aP aS (mk_crs aC aO wQ) cI wY ++ (wPlan aP cI uP ++ (wStack aS cI wS ++ (wCourse aC cI uC ++ (wCourse aO cI wO ++ (wActs aA cI uA ++ (wMeans aM cJ uM))))))))))) A) args s 0 0 A) 0 (wChan aZ aR aT aD aY aP aC aO aA aM ++ (wReader aR aT aD uR ++ (wTape aT cI uT ++ (wPlan aD cI uD ++ (wPlay aY aP aS (mk_crs aC aO uQ) cI uY ++ (wPlan aP cI uP ++ (wStack aS cI uS ++ (wCourse aC cI uC ++ (wCourse aO cI uO ++ (wActs aA cI uA ++ (wMeans aM cJ uM))))))))))) [(0, .ref (aZ 0)), (1, .int p1)] []
  unfold f_Z_without at hf
  refine mk_aload_n C 0 dX8_without_0 rfl ?_
  refine mk_get C mk_inX8 0 rfl rfl 4 (by decide) mw_346 (v := .ref (aP 0)) rfl dX8_without_1 ?_
  refine mk_iload_n C 1 dX8_without_4 rfl ?_
  obtain ⟨r1, h2, hf⟩ := b1_some hf
  refine mk_callVi C (c_P_hasNoise l D cI cJ X Y aP uP p1 r1 h2) mw_767 mw_768 mw_769 mw_4 mw_770 mkn_X3_hasNoise rfl ⟨Nat.le_of_ble_eq_true rfl, Nat.le_of_ble_eq_true rfl⟩ 12 rfl rfl rfl (fr_Z_P cI cJ aZ aR aT aD aY aP aS aC aO aA aM uQ uR uT uD uY uP uS uC uO uA uM uP) (Nat.le_of_ble_eq_true rfl) dX8_without_5 rfl ?_
  refine mk_if_ne C 14 dX8_without_8 (by decide) (fun c3 => ?_) (fun c3 => ?_)
  · replace hf := (if_neg c3).symm.trans hf
    refine mk_aload_n C 0 dX8_without_14 rfl ?_
    refine mk_get C mk_inX8 0 rfl rfl 3 (by decide) mw_345 (v := .ref (aY 0)) rfl dX8_without_15 ?_
    refine mk_aload_n C 0 dX8_without_18 rfl ?_
    refine mk_get C mk_inX8 0 rfl rfl 6 (by decide) mw_348 (v := .ref (aO 0)) rfl dX8_without_19 ?_
    refine mk_aload_n C 0 dX8_without_22 rfl ?_
    refine mk_get C mk_inX8 0 rfl rfl 4 (by decide) mw_346 (v := .ref (aP 0)) rfl dX8_without_23 ?_
    refine mk_get C mk_inX3 12 rfl rfl 0 (by decide) mw_58 (v := .int (uP 0 0)) rfl dX8_without_26 ?_
    refine mk_iload_n C 1 dX8_without_29 rfl ?_
    refine mk_iconst C (v := (-1)) dX8_without_30 (by decide) ?_
    obtain ⟨r4, uY_5, uS_6, uO_7, h8, hf⟩ := b4_some hf
    refine mk_callVi C (c_Y_run l D cI cJ X Y aY aP aS aO (mk_crs aC aO uQ) uY uP uS uO (uP 0 0) p1 (-1) r4 uY_5 uS_6 uO_7 h8) mw_537 mw_538 mw_539 mw_5 mw_540 mkn_X4_run rfl ⟨Nat.le_of_ble_eq_true rfl, Nat.le_of_ble_eq_true rfl⟩ 10 rfl rfl rfl (fr_Z_YPSO_run cI cJ aZ aR aT aD aY aP aS aC aO aA aM uQ uR uT uD uY uP uS uC uO uA uM uY_5 uP uS_6 uO_7) (Nat.le_of_ble_eq_true rfl) dX8_without_31 rfl ?_
    refine mk_aload_n C 0 dX8_without_34 rfl ?_
    refine mk_get C mk_inX8 0 rfl rfl 5 (by decide) mw_347 (v := .ref (aC 0)) rfl dX8_without_35 ?_
    refine mk_get C mk_inX1 22 rfl rfl 9 (by decide) mw_214 (v := .int (uC 9 0)) rfl dX8_without_38 ?_
    refine mk_isub C dX8_without_41 ?_
    have e := Option.some.inj hf
    simp only [Prod.mk.injEq] at e
    obtain ⟨e0, e1, e2, e3, e4⟩ := e
    exact mk_iret C hr hlk e0 (by rw [← e1, ← e2, ← e3, ← e4]) dX8_without_42
  · replace hf := (if_pos c3).symm.trans hf
    refine mk_bipush C (v := (-99)) dX8_without_11 (by decide) ?_
    have e := Option.some.inj hf
    simp only [Prod.mk.injEq] at e
    obtain ⟨e0, e1, e2, e3, e4⟩ := e
    exact mk_iret C hr hlk e0 (by rw [← e1, ← e2, ← e3, ← e4]) dX8_without_13
set_option maxHeartbeats 40000000 in
set_option maxRecDepth 100000 in
theorem c_Z_noise (l : Launch) (D : va_G) (cI cJ : ClassId) (X Y : Nat → Nat) (aZ aR aT aD aY aP aS aC aO aA aM : Nat → Nat) (uQ : Nat) (uR : Nat → Nat → Int32) (uT : Nat → Nat → Int32) (uD : Nat → Nat → Int32) (uY : Nat → Nat → Int32) (uP : Nat → Nat → Int32) (uS : Nat → Nat → Int32) (uC : Nat → Nat → Int32) (uO : Nat → Nat → Int32) (uA : Nat → Nat → Int32) (uM : Nat → Nat → Int64) (p1 : Int32) (p2 : Int32) (r : Int32) (hf : f_Z_noise uP p1 p2 = some r) : mk_Met l yX8_noise cX8_noise 3 (some .int) ({ frames := 1, cells := 0, slots := 0, locals := 21 }) D [(cI, .int), (cJ, .long)] X Y [.ref (aZ 0), .int p1, .int p2] (wChan aZ aR aT aD aY aP aC aO aA aM ++ (wReader aR aT aD uR ++ (wTape aT cI uT ++ (wPlan aD cI uD ++ (wPlay aY aP aS (mk_crs aC aO uQ) cI uY ++ (wPlan aP cI uP ++ (wStack aS cI uS ++ (wCourse aC cI uC ++ (wCourse aO cI uO ++ (wActs aA cI uA ++ (wMeans aM cJ uM))))))))))) (wChan aZ aR aT aD aY aP aC aO aA aM ++ (wReader aR aT aD uR ++ (wTape aT cI uT ++ (wPlan aD cI uD ++ (wPlay aY aP aS (mk_crs aC aO uQ) cI uY ++ (wPlan aP cI uP ++ (wStack aS cI uS ++ (wCourse aC cI uC ++ (wCourse aO cI uO ++ (wActs aA cI uA ++ (wMeans aM cJ uM))))))))))) (some (.int r)) 0 0 := by
  refine mk_start (own := RX8) (by decide) rfl (Nat.le_of_ble_eq_true rfl) ?_
  intro sz p e s m args below meth c A C hr hlk hnm
  replace C : mk_Cx p s m args c cX8_noise 3 RX8 D [(cI, .int), (cJ, .long)] X Y A := C
  show mk_Go p l e (headSpec (mk_ws yX8_noise cX8_noise 3 (some .int)) ({ frames := 1, cells := 0, slots := 0, locals := 21 })).room s m args below meth c D A 3 0 0 (MQ below (mk_Q (some (.int r)) D (wChan aZ aR aT aD aY aP aC aO aA aM ++ (wReader aR aT aD uR ++ (wTape aT cI uT ++ (wPlan aD cI uD ++ (wPlay aY aP aS (mk_crs aC aO uQ) cI uY ++ (wPlan aP cI uP ++ (wStack aS cI uS ++ (wCourse aC cI uC ++ (wCourse aO cI uO ++ (wActs aA cI uA ++ (wMeans aM cJ uM))))))))))) A) args s 0 0 A) 0 (wChan aZ aR aT aD aY aP aC aO aA aM ++ (wReader aR aT aD uR ++ (wTape aT cI uT ++ (wPlan aD cI uD ++ (wPlay aY aP aS (mk_crs aC aO uQ) cI uY ++ (wPlan aP cI uP ++ (wStack aS cI uS ++ (wCourse aC cI uC ++ (wCourse aO cI uO ++ (wActs aA cI uA ++ (wMeans aM cJ uM))))))))))) [(0, .ref (aZ 0)), (1, .int p1), (2, .int p2)] []
  unfold f_Z_noise at hf
  refine mk_aload_n C 0 dX8_noise_0 rfl ?_
  refine mk_get C mk_inX8 0 rfl rfl 4 (by decide) mw_346 (v := .ref (aP 0)) rfl dX8_noise_1 ?_
  refine mk_iload_n C 1 dX8_noise_4 rfl ?_
  obtain ⟨r1, h2, hf⟩ := b1_some hf
  refine mk_callVi C (c_P_hasNoise l D cI cJ X Y aP uP p1 r1 h2) mw_767 mw_768 mw_769 mw_4 mw_770 mkn_X3_hasNoise rfl ⟨Nat.le_of_ble_eq_true rfl, Nat.le_of_ble_eq_true rfl⟩ 12 rfl rfl rfl (fr_Z_P cI cJ aZ aR aT aD aY aP aS aC aO aA aM uQ uR uT uD uY uP uS uC uO uA uM uP) (Nat.le_of_ble_eq_true rfl) dX8_noise_5 rfl ?_
  refine mk_if_ne C 14 dX8_noise_8 (by decide) (fun c3 => ?_) (fun c3 => ?_)
  · replace hf := (if_neg c3).symm.trans hf
    refine mk_iload_n C 2 dX8_noise_14 rfl ?_
    by_cases c4 : p2 = 0
    · replace hf := (if_pos c4).symm.trans hf
      refine mk_lookup C (off := 25) 40 dX8_noise_15 (by decide) (by rw [c4]; first | done | rfl) (by decide) ?_
      refine mk_aload_n C 0 dX8_noise_40 rfl ?_
      refine mk_get C mk_inX8 0 rfl rfl 4 (by decide) mw_346 (v := .ref (aP 0)) rfl dX8_noise_41 ?_
      refine mk_get C mk_inX3 12 rfl rfl 10 (by decide) mw_94 (v := .ref (aP 11)) rfl dX8_noise_44 ?_
      refine mk_iload_n C 1 dX8_noise_47 rfl ?_
      refine mk_callSi C (c_at l D cI cJ X Y (aP 11) 10 (uP 10) p1) mw_659 mw_402 mw_1 mw_403 mkn_X8_at rfl ⟨Nat.le_of_ble_eq_true rfl, Nat.le_of_ble_eq_true rfl⟩ (mk_Fr.at (q := 16) rfl) (Nat.le_of_ble_eq_true rfl) dX8_noise_48 rfl ?_
      have e0 := Option.some.inj hf
      exact mk_iret C hr hlk e0 rfl dX8_noise_51
    · replace hf := (if_neg c4).symm.trans hf
      by_cases c5 : p2 = 1
      · replace hf := (if_pos c5).symm.trans hf
        refine mk_lookup C (off := 37) 52 dX8_noise_15 (by decide) (by rw [c5]; first | done | rfl) (by decide) ?_
        refine mk_aload_n C 0 dX8_noise_52 rfl ?_
        refine mk_get C mk_inX8 0 rfl rfl 4 (by decide) mw_346 (v := .ref (aP 0)) rfl dX8_noise_53 ?_
        refine mk_get C mk_inX3 12 rfl rfl 11 (by decide) mw_97 (v := .ref (aP 12)) rfl dX8_noise_56 ?_
        refine mk_iload_n C 1 dX8_noise_59 rfl ?_
        refine mk_callSi C (c_at l D cI cJ X Y (aP 12) 10 (uP 11) p1) mw_659 mw_402 mw_1 mw_403 mkn_X8_at rfl ⟨Nat.le_of_ble_eq_true rfl, Nat.le_of_ble_eq_true rfl⟩ (mk_Fr.at (q := 17) rfl) (Nat.le_of_ble_eq_true rfl) dX8_noise_60 rfl ?_
        have e0 := Option.some.inj hf
        exact mk_iret C hr hlk e0 rfl dX8_noise_63
      · replace hf := (if_neg c5).symm.trans hf
        refine mk_lookup C (off := 49) 64 dX8_noise_15 (by decide) (by rw [lv_osw c4 (by decide), lv_osw c5 (by decide)]; first | done | rfl) (by decide) ?_
        refine mk_bipush C (v := (-2)) dX8_noise_64 (by decide) ?_
        have e0 := Option.some.inj hf
        exact mk_iret C hr hlk e0 rfl dX8_noise_66
  · replace hf := (if_pos c3).symm.trans hf
    refine mk_bipush C (v := (-2)) dX8_noise_11 (by decide) ?_
    have e0 := Option.some.inj hf
    exact mk_iret C hr hlk e0 rfl dX8_noise_13
set_option maxHeartbeats 40000000 in
set_option maxRecDepth 100000 in
theorem c_Z_alone (l : Launch) (D : va_G) (cI cJ : ClassId) (X Y : Nat → Nat) (aZ aR aT aD aY aP aS aC aO aA aM : Nat → Nat) (uQ : Nat) (uR : Nat → Nat → Int32) (uT : Nat → Nat → Int32) (uD : Nat → Nat → Int32) (uY : Nat → Nat → Int32) (uP : Nat → Nat → Int32) (uS : Nat → Nat → Int32) (uC : Nat → Nat → Int32) (uO : Nat → Nat → Int32) (uA : Nat → Nat → Int32) (uM : Nat → Nat → Int64) (p1 : Int32) (r : Int32) (wQ : Nat) (wY : Nat → Nat → Int32) (wS : Nat → Nat → Int32) (wO : Nat → Nat → Int32) (hf : f_Z_alone uQ uY uP uS uO p1 = some (r, wQ, wY, wS, wO)) : mk_Met l yX8_alone cX8_alone 2 (some .int) ({ frames := 6, cells := 0, slots := 0, locals := 142 }) D [(cI, .int), (cJ, .long)] X Y [.ref (aZ 0), .int p1] (wChan aZ aR aT aD aY aP aC aO aA aM ++ (wReader aR aT aD uR ++ (wTape aT cI uT ++ (wPlan aD cI uD ++ (wPlay aY aP aS (mk_crs aC aO uQ) cI uY ++ (wPlan aP cI uP ++ (wStack aS cI uS ++ (wCourse aC cI uC ++ (wCourse aO cI uO ++ (wActs aA cI uA ++ (wMeans aM cJ uM))))))))))) (wChan aZ aR aT aD aY aP aC aO aA aM ++ (wReader aR aT aD uR ++ (wTape aT cI uT ++ (wPlan aD cI uD ++ (wPlay aY aP aS (mk_crs aC aO wQ) cI wY ++ (wPlan aP cI uP ++ (wStack aS cI wS ++ (wCourse aC cI uC ++ (wCourse aO cI wO ++ (wActs aA cI uA ++ (wMeans aM cJ uM))))))))))) (some (.int r)) 0 0 := by
  refine mk_start (own := RX8) (by decide) rfl (Nat.le_of_ble_eq_true rfl) ?_
  intro sz p e s m args below meth c A C hr hlk hnm
  replace C : mk_Cx p s m args c cX8_alone 2 RX8 D [(cI, .int), (cJ, .long)] X Y A := C
  show mk_Go p l e (headSpec (mk_ws yX8_alone cX8_alone 2 (some .int)) ({ frames := 6, cells := 0, slots := 0, locals := 142 })).room s m args below meth c D A 2 0 0 (MQ below (mk_Q (some (.int r)) D (wChan aZ aR aT aD aY aP aC aO aA aM ++ (wReader aR aT aD uR ++ (wTape aT cI uT ++ (wPlan aD cI uD ++ (wPlay aY aP aS (mk_crs aC aO wQ) cI wY ++ (wPlan aP cI uP ++ (wStack aS cI wS ++ (wCourse aC cI uC ++ (wCourse aO cI wO ++ (wActs aA cI uA ++ (wMeans aM cJ uM))))))))))) A) args s 0 0 A) 0 (wChan aZ aR aT aD aY aP aC aO aA aM ++ (wReader aR aT aD uR ++ (wTape aT cI uT ++ (wPlan aD cI uD ++ (wPlay aY aP aS (mk_crs aC aO uQ) cI uY ++ (wPlan aP cI uP ++ (wStack aS cI uS ++ (wCourse aC cI uC ++ (wCourse aO cI uO ++ (wActs aA cI uA ++ (wMeans aM cJ uM))))))))))) [(0, .ref (aZ 0)), (1, .int p1)] []
  unfold f_Z_alone at hf
  refine mk_aload_n C 0 dX8_alone_0 rfl ?_
  refine mk_get C mk_inX8 0 rfl rfl 4 (by decide) mw_346 (v := .ref (aP 0)) rfl dX8_alone_1 ?_
  refine mk_iload_n C 1 dX8_alone_4 rfl ?_
  obtain ⟨r1, h2, hf⟩ := b1_some hf
  refine mk_callVi C (c_P_hasSender l D cI cJ X Y aP uP p1 r1 h2) mw_655 mw_656 mw_657 mw_4 mw_658 mkn_X3_hasSender rfl ⟨Nat.le_of_ble_eq_true rfl, Nat.le_of_ble_eq_true rfl⟩ 12 rfl rfl rfl (fr_Z_P cI cJ aZ aR aT aD aY aP aS aC aO aA aM uQ uR uT uD uY uP uS uC uO uA uM uP) (Nat.le_of_ble_eq_true rfl) dX8_alone_5 rfl ?_
  refine mk_if_ne C 14 dX8_alone_8 (by decide) (fun c3 => ?_) (fun c3 => ?_)
  · replace hf := (if_neg c3).symm.trans hf
    refine mk_aload_n C 0 dX8_alone_14 rfl ?_
    refine mk_get C mk_inX8 0 rfl rfl 3 (by decide) mw_345 (v := .ref (aY 0)) rfl dX8_alone_15 ?_
    refine mk_aload_n C 0 dX8_alone_18 rfl ?_
    refine mk_get C mk_inX8 0 rfl rfl 6 (by decide) mw_348 (v := .ref (aO 0)) rfl dX8_alone_19 ?_
    refine mk_aload_n C 0 dX8_alone_22 rfl ?_
    refine mk_get C mk_inX8 0 rfl rfl 4 (by decide) mw_346 (v := .ref (aP 0)) rfl dX8_alone_23 ?_
    refine mk_get C mk_inX3 12 rfl rfl 0 (by decide) mw_58 (v := .int (uP 0 0)) rfl dX8_alone_26 ?_
    refine mk_iconst C (v := (-1)) dX8_alone_29 (by decide) ?_
    refine mk_iload_n C 1 dX8_alone_30 rfl ?_
    obtain ⟨r4, uY_5, uS_6, uO_7, h8, hf⟩ := b4_some hf
    refine mk_callVi C (c_Y_run l D cI cJ X Y aY aP aS aO (mk_crs aC aO uQ) uY uP uS uO (uP 0 0) (-1) p1 r4 uY_5 uS_6 uO_7 h8) mw_537 mw_538 mw_539 mw_5 mw_540 mkn_X4_run rfl ⟨Nat.le_of_ble_eq_true rfl, Nat.le_of_ble_eq_true rfl⟩ 10 rfl rfl rfl (fr_Z_YPSO_run cI cJ aZ aR aT aD aY aP aS aC aO aA aM uQ uR uT uD uY uP uS uC uO uA uM uY_5 uP uS_6 uO_7) (Nat.le_of_ble_eq_true rfl) dX8_alone_31 rfl ?_
    have e := Option.some.inj hf
    simp only [Prod.mk.injEq] at e
    obtain ⟨e0, e1, e2, e3, e4⟩ := e
    exact mk_iret C hr hlk e0 (by rw [← e1, ← e2, ← e3, ← e4]) dX8_alone_34
  · replace hf := (if_pos c3).symm.trans hf
    refine mk_bipush C (v := (-2)) dX8_alone_11 (by decide) ?_
    have e := Option.some.inj hf
    simp only [Prod.mk.injEq] at e
    obtain ⟨e0, e1, e2, e3, e4⟩ := e
    exact mk_iret C hr hlk e0 (by rw [← e1, ← e2, ← e3, ← e4]) dX8_alone_13
set_option maxHeartbeats 40000000 in
set_option maxRecDepth 100000 in
theorem c_Z_worst (l : Launch) (D : va_G) (cI cJ : ClassId) (X Y : Nat → Nat) (aZ aR aT aD aY aP aS aC aO aA aM : Nat → Nat) (uQ : Nat) (uR : Nat → Nat → Int32) (uT : Nat → Nat → Int32) (uD : Nat → Nat → Int32) (uY : Nat → Nat → Int32) (uP : Nat → Nat → Int32) (uS : Nat → Nat → Int32) (uC : Nat → Nat → Int32) (uO : Nat → Nat → Int32) (uA : Nat → Nat → Int32) (uM : Nat → Nat → Int64) (r : Int32) (wQ : Nat) (wY : Nat → Nat → Int32) (wS : Nat → Nat → Int32) (wO : Nat → Nat → Int32) (hf : f_Z_worst uQ uY uP uS uC uO = some (r, wQ, wY, wS, wO)) : mk_Met l yX8_worst cX8_worst 5 (some .int) ({ frames := 6, cells := 0, slots := 0, locals := 142 }) D [(cI, .int), (cJ, .long)] X Y [.ref (aZ 0)] (wChan aZ aR aT aD aY aP aC aO aA aM ++ (wReader aR aT aD uR ++ (wTape aT cI uT ++ (wPlan aD cI uD ++ (wPlay aY aP aS (mk_crs aC aO uQ) cI uY ++ (wPlan aP cI uP ++ (wStack aS cI uS ++ (wCourse aC cI uC ++ (wCourse aO cI uO ++ (wActs aA cI uA ++ (wMeans aM cJ uM))))))))))) (wChan aZ aR aT aD aY aP aC aO aA aM ++ (wReader aR aT aD uR ++ (wTape aT cI uT ++ (wPlan aD cI uD ++ (wPlay aY aP aS (mk_crs aC aO wQ) cI wY ++ (wPlan aP cI uP ++ (wStack aS cI wS ++ (wCourse aC cI uC ++ (wCourse aO cI wO ++ (wActs aA cI uA ++ (wMeans aM cJ uM))))))))))) (some (.int r)) 0 0 := by
  refine mk_start (own := RX8) (by decide) rfl (Nat.le_of_ble_eq_true rfl) ?_
  intro sz p e s m args below meth c A C hr hlk hnm
  replace C : mk_Cx p s m args c cX8_worst 5 RX8 D [(cI, .int), (cJ, .long)] X Y A := C
  have wL19 : ∀ (n : Nat) (v1 : Int32) (v2 : Int32) (v3 : Int32) (uQ : Nat) (uY : Nat → Nat → Int32) (uS : Nat → Nat → Int32) (uO : Nat → Nat → Int32), f_Z_worst_19 uP uC n v1 v2 v3 uQ uY uS uO = some (r, wQ, wY, wS, wO) → mk_Go p l e (headSpec (mk_ws yX8_worst cX8_worst 5 (some .int)) ({ frames := 6, cells := 0, slots := 0, locals := 142 })).room s m args below meth c D A 5 0 0 (MQ below (mk_Q (some (.int r)) D (wChan aZ aR aT aD aY aP aC aO aA aM ++ (wReader aR aT aD uR ++ (wTape aT cI uT ++ (wPlan aD cI uD ++ (wPlay aY aP aS (mk_crs aC aO wQ) cI wY ++ (wPlan aP cI uP ++ (wStack aS cI wS ++ (wCourse aC cI uC ++ (wCourse aO cI wO ++ (wActs aA cI uA ++ (wMeans aM cJ uM))))))))))) A) args s 0 0 A) 19 (wChan aZ aR aT aD aY aP aC aO aA aM ++ (wReader aR aT aD uR ++ (wTape aT cI uT ++ (wPlan aD cI uD ++ (wPlay aY aP aS (mk_crs aC aO uQ) cI uY ++ (wPlan aP cI uP ++ (wStack aS cI uS ++ (wCourse aC cI uC ++ (wCourse aO cI uO ++ (wActs aA cI uA ++ (wMeans aM cJ uM))))))))))) [(0, .ref (aZ 0)), (1, .int v1), (2, .int v2), (3, .int v3)] [] := by
    intro  n
    induction n with
    | zero => intro v1 v2 v3 uQ uY uS uO hf; exact nomatch (show (none : Option (Int32 × Nat × (Nat → Nat → Int32) × (Nat → Nat → Int32) × (Nat → Nat → Int32))) = some _ from hf)
    | succ n ih =>
      intro v1 v2 v3 uQ uY uS uO hf
      rw [f_Z_worst_19] at hf
      refine mk_iload_n C 3 dX8_worst_19 rfl ?_
      refine mk_aload_n C 0 dX8_worst_20 rfl ?_
      refine mk_get C mk_inX8 0 rfl rfl 4 (by decide) mw_346 (v := .ref (aP 0)) rfl dX8_worst_21 ?_
      refine mk_get C mk_inX3 12 rfl rfl 6 (by decide) mw_82 (v := .int (uP 6 0)) rfl dX8_worst_24 ?_
      refine mk_icmp_ge C 77 dX8_worst_27 (by decide) (fun c1 => ?_) (fun c1 => ?_)
      · replace hf := (if_pos c1).symm.trans hf
        refine mk_iload_n C 1 dX8_worst_77 rfl ?_
        have e := Option.some.inj hf
        simp only [Prod.mk.injEq] at e
        obtain ⟨e0, e1, e2, e3, e4⟩ := e
        exact mk_iret C hr hlk e0 (by rw [← e1, ← e2, ← e3, ← e4]) dX8_worst_78
      · replace hf := (if_neg c1).symm.trans hf
        refine mk_aload_n C 0 dX8_worst_30 rfl ?_
        refine mk_get C mk_inX8 0 rfl rfl 3 (by decide) mw_345 (v := .ref (aY 0)) rfl dX8_worst_31 ?_
        refine mk_aload_n C 0 dX8_worst_34 rfl ?_
        refine mk_get C mk_inX8 0 rfl rfl 6 (by decide) mw_348 (v := .ref (aO 0)) rfl dX8_worst_35 ?_
        refine mk_aload_n C 0 dX8_worst_38 rfl ?_
        refine mk_get C mk_inX8 0 rfl rfl 4 (by decide) mw_346 (v := .ref (aP 0)) rfl dX8_worst_39 ?_
        refine mk_get C mk_inX3 12 rfl rfl 0 (by decide) mw_58 (v := .int (uP 0 0)) rfl dX8_worst_42 ?_
        refine mk_iload_n C 3 dX8_worst_45 rfl ?_
        refine mk_iconst C (v := (-1)) dX8_worst_46 (by decide) ?_
        obtain ⟨r2, uY_3, uS_4, uO_5, h6, hf⟩ := b4_some hf
        refine mk_callVi C (c_Y_run l D cI cJ X Y aY aP aS aO (mk_crs aC aO uQ) uY uP uS uO (uP 0 0) v3 (-1) r2 uY_3 uS_4 uO_5 h6) mw_537 mw_538 mw_539 mw_5 mw_540 mkn_X4_run rfl ⟨Nat.le_of_ble_eq_true rfl, Nat.le_of_ble_eq_true rfl⟩ 10 rfl rfl rfl (fr_Z_YPSO_run cI cJ aZ aR aT aD aY aP aS aC aO aA aM uQ uR uT uD uY uP uS uC uO uA uM uY_3 uP uS_4 uO_5) (Nat.le_of_ble_eq_true rfl) dX8_worst_47 rfl ?_
        refine mk_aload_n C 0 dX8_worst_50 rfl ?_
        refine mk_get C mk_inX8 0 rfl rfl 5 (by decide) mw_347 (v := .ref (aC 0)) rfl dX8_worst_51 ?_
        refine mk_get C mk_inX1 22 rfl rfl 9 (by decide) mw_214 (v := .int (uC 9 0)) rfl dX8_worst_54 ?_
        refine mk_isub C dX8_worst_57 ?_
        refine mk_istore C (lv' := [(4, .int (r2 - (uC 9 0))), (0, .ref (aZ 0)), (1, .int v1), (2, .int v2), (3, .int v3)]) dX8_worst_58 (by decide) rfl ?_
        refine mk_iload C 0 dX8_worst_60 rfl ?_
        refine mk_iload_n C 3 dX8_worst_62 rfl ?_
        refine mk_icmp_le C 71 dX8_worst_63 (by decide) (fun c7 => ?_) (fun c7 => ?_)
        · replace hf := (if_pos c7).symm.trans hf
          refine mk_iinc C (v := (v3 + 1)) (lv' := [(3, .int (v3 + 1)), (4, .int (r2 - (uC 9 0))), (0, .ref (aZ 0)), (1, .int v1), (2, .int v2)]) 4 dX8_worst_71 rfl rfl (by decide) rfl ?_
          refine mk_goto C 19 dX8_worst_74 (by decide) ?_
          exact mk_lvsub [2, 3, 4, 0] rfl (ih _ _ _ _ _ _ _ hf)
        · replace hf := (if_neg c7).symm.trans hf
          refine mk_iload C 0 dX8_worst_66 rfl ?_
          refine mk_istore_n C (lv' := [(2, .int (r2 - (uC 9 0))), (4, .int (r2 - (uC 9 0))), (0, .ref (aZ 0)), (1, .int v1), (3, .int v3)]) dX8_worst_68 (by decide) rfl ?_
          refine mk_iload_n C 4 dX8_worst_69 rfl ?_
          refine mk_istore_n C (lv' := [(1, .int v3), (2, .int (r2 - (uC 9 0))), (4, .int (r2 - (uC 9 0))), (0, .ref (aZ 0)), (3, .int v3)]) dX8_worst_70 (by decide) rfl ?_
          refine mk_iinc C (v := (v3 + 1)) (lv' := [(3, .int (v3 + 1)), (1, .int v3), (2, .int (r2 - (uC 9 0))), (4, .int (r2 - (uC 9 0))), (0, .ref (aZ 0))]) 4 dX8_worst_71 rfl rfl (by decide) rfl ?_
          refine mk_goto C 19 dX8_worst_74 (by decide) ?_
          exact mk_lvsub [4, 1, 2, 0] rfl (ih _ _ _ _ _ _ _ hf)
  show mk_Go p l e (headSpec (mk_ws yX8_worst cX8_worst 5 (some .int)) ({ frames := 6, cells := 0, slots := 0, locals := 142 })).room s m args below meth c D A 5 0 0 (MQ below (mk_Q (some (.int r)) D (wChan aZ aR aT aD aY aP aC aO aA aM ++ (wReader aR aT aD uR ++ (wTape aT cI uT ++ (wPlan aD cI uD ++ (wPlay aY aP aS (mk_crs aC aO wQ) cI wY ++ (wPlan aP cI uP ++ (wStack aS cI wS ++ (wCourse aC cI uC ++ (wCourse aO cI wO ++ (wActs aA cI uA ++ (wMeans aM cJ uM))))))))))) A) args s 0 0 A) 0 (wChan aZ aR aT aD aY aP aC aO aA aM ++ (wReader aR aT aD uR ++ (wTape aT cI uT ++ (wPlan aD cI uD ++ (wPlay aY aP aS (mk_crs aC aO uQ) cI uY ++ (wPlan aP cI uP ++ (wStack aS cI uS ++ (wCourse aC cI uC ++ (wCourse aO cI uO ++ (wActs aA cI uA ++ (wMeans aM cJ uM))))))))))) [(0, .ref (aZ 0))] []
  unfold f_Z_worst at hf
  refine mk_aload_n C 0 dX8_worst_0 rfl ?_
  refine mk_get C mk_inX8 0 rfl rfl 4 (by decide) mw_346 (v := .ref (aP 0)) rfl dX8_worst_1 ?_
  obtain ⟨r8, h9, hf⟩ := b1_some hf
  refine mk_callVi C (c_P_stands l D cI cJ X Y aP uP r8 h9) mw_693 mw_694 mw_695 mw_4 mw_696 mkn_X3_stands rfl ⟨Nat.le_of_ble_eq_true rfl, Nat.le_of_ble_eq_true rfl⟩ 12 rfl rfl rfl (fr_Z_P cI cJ aZ aR aT aD aY aP aS aC aO aA aM uQ uR uT uD uY uP uS uC uO uA uM uP) (Nat.le_of_ble_eq_true rfl) dX8_worst_4 rfl ?_
  refine mk_if_ne C 13 dX8_worst_7 (by decide) (fun c10 => ?_) (fun c10 => ?_)
  · replace hf := (if_neg c10).symm.trans hf
    refine mk_iconst C (v := (-1)) dX8_worst_13 (by decide) ?_
    refine mk_istore_n C (lv' := [(1, .int (-1)), (0, .ref (aZ 0))]) dX8_worst_14 (by decide) rfl ?_
    refine mk_iconst C (v := 0) dX8_worst_15 (by decide) ?_
    refine mk_istore_n C (lv' := [(2, .int 0), (1, .int (-1)), (0, .ref (aZ 0))]) dX8_worst_16 (by decide) rfl ?_
    refine mk_iconst C (v := 0) dX8_worst_17 (by decide) ?_
    refine mk_istore_n C (lv' := [(3, .int 0), (2, .int 0), (1, .int (-1)), (0, .ref (aZ 0))]) dX8_worst_18 (by decide) rfl ?_
    exact mk_lvsub [3, 2, 1, 0] rfl (wL19 600 _ _ _ _ _ _ _ hf)
  · replace hf := (if_pos c10).symm.trans hf
    refine mk_bipush C (v := (-2)) dX8_worst_10 (by decide) ?_
    have e := Option.some.inj hf
    simp only [Prod.mk.injEq] at e
    obtain ⟨e0, e1, e2, e3, e4⟩ := e
    exact mk_iret C hr hlk e0 (by rw [← e1, ← e2, ← e3, ← e4]) dX8_worst_12
set_option maxHeartbeats 40000000 in
set_option maxRecDepth 100000 in
theorem c_Z_isTreeLaw (l : Launch) (D : va_G) (cI cJ : ClassId) (X Y : Nat → Nat) (p0 : Int32) (r : Int32) (hf : f_Z_isTreeLaw p0 = some r) : mk_Met l yX8_isTreeLaw cX8_isTreeLaw 1 (some .boolean) ({ frames := 0, cells := 0, slots := 0, locals := 0 }) D [(cI, .int), (cJ, .long)] X Y [.int p0] ([] : va_W) ([] : va_W) (some (.int r)) 0 0 := by
  refine mk_start (own := RX8) (by decide) rfl (Nat.le_of_ble_eq_true rfl) ?_
  intro sz p e s m args below meth c A C hr hlk hnm
  replace C : mk_Cx p s m args c cX8_isTreeLaw 1 RX8 D [(cI, .int), (cJ, .long)] X Y A := C
  show mk_Go p l e (headSpec (mk_ws yX8_isTreeLaw cX8_isTreeLaw 1 (some .boolean)) ({ frames := 0, cells := 0, slots := 0, locals := 0 })).room s m args below meth c D A 1 0 0 (MQ below (mk_Q (some (.int r)) D ([] : va_W) A) args s 0 0 A) 0 ([] : va_W) [(0, .int p0)] []
  unfold f_Z_isTreeLaw at hf
  refine mk_iload_n C 0 dX8_isTreeLaw_0 rfl ?_
  refine mk_if_eq C 9 dX8_isTreeLaw_1 (by decide) (fun c1 => ?_) (fun c1 => ?_)
  · replace hf := (if_pos c1).symm.trans hf
    refine mk_iconst C (v := 1) dX8_isTreeLaw_9 (by decide) ?_
    refine mk_goto C 14 dX8_isTreeLaw_10 (by decide) ?_
    have e0 := Option.some.inj hf
    exact mk_zret C hr hlk rfl e0 rfl dX8_isTreeLaw_14
  · replace hf := (if_neg c1).symm.trans hf
    refine mk_iload_n C 0 dX8_isTreeLaw_4 rfl ?_
    refine mk_iconst C (v := 1) dX8_isTreeLaw_5 (by decide) ?_
    refine mk_icmp_ne C 13 dX8_isTreeLaw_6 (by decide) (fun c2 => ?_) (fun c2 => ?_)
    · replace hf := (if_neg c2).symm.trans hf
      refine mk_iconst C (v := 0) dX8_isTreeLaw_13 (by decide) ?_
      have e0 := Option.some.inj hf
      exact mk_zret C hr hlk rfl e0 rfl dX8_isTreeLaw_14
    · replace hf := (if_pos c2).symm.trans hf
      refine mk_iconst C (v := 1) dX8_isTreeLaw_9 (by decide) ?_
      refine mk_goto C 14 dX8_isTreeLaw_10 (by decide) ?_
      have e0 := Option.some.inj hf
      exact mk_zret C hr hlk rfl e0 rfl dX8_isTreeLaw_14
set_option maxHeartbeats 40000000 in
set_option maxRecDepth 100000 in
theorem c_Z_isPart (l : Launch) (D : va_G) (cI cJ : ClassId) (X Y : Nat → Nat) (p0 : Int32) (r : Int32) (hf : f_Z_isPart p0 = some r) : mk_Met l yX8_isPart cX8_isPart 1 (some .boolean) ({ frames := 0, cells := 0, slots := 0, locals := 0 }) D [(cI, .int), (cJ, .long)] X Y [.int p0] ([] : va_W) ([] : va_W) (some (.int r)) 0 0 := by
  refine mk_start (own := RX8) (by decide) rfl (Nat.le_of_ble_eq_true rfl) ?_
  intro sz p e s m args below meth c A C hr hlk hnm
  replace C : mk_Cx p s m args c cX8_isPart 1 RX8 D [(cI, .int), (cJ, .long)] X Y A := C
  show mk_Go p l e (headSpec (mk_ws yX8_isPart cX8_isPart 1 (some .boolean)) ({ frames := 0, cells := 0, slots := 0, locals := 0 })).room s m args below meth c D A 1 0 0 (MQ below (mk_Q (some (.int r)) D ([] : va_W) A) args s 0 0 A) 0 ([] : va_W) [(0, .int p0)] []
  unfold f_Z_isPart at hf
  refine mk_iload_n C 0 dX8_isPart_0 rfl ?_
  refine mk_if_eq C 9 dX8_isPart_1 (by decide) (fun c1 => ?_) (fun c1 => ?_)
  · replace hf := (if_pos c1).symm.trans hf
    refine mk_iconst C (v := 1) dX8_isPart_9 (by decide) ?_
    refine mk_goto C 14 dX8_isPart_10 (by decide) ?_
    have e0 := Option.some.inj hf
    exact mk_zret C hr hlk rfl e0 rfl dX8_isPart_14
  · replace hf := (if_neg c1).symm.trans hf
    refine mk_iload_n C 0 dX8_isPart_4 rfl ?_
    refine mk_iconst C (v := 1) dX8_isPart_5 (by decide) ?_
    refine mk_icmp_ne C 13 dX8_isPart_6 (by decide) (fun c2 => ?_) (fun c2 => ?_)
    · replace hf := (if_neg c2).symm.trans hf
      refine mk_iconst C (v := 0) dX8_isPart_13 (by decide) ?_
      have e0 := Option.some.inj hf
      exact mk_zret C hr hlk rfl e0 rfl dX8_isPart_14
    · replace hf := (if_pos c2).symm.trans hf
      refine mk_iconst C (v := 1) dX8_isPart_9 (by decide) ?_
      refine mk_goto C 14 dX8_isPart_10 (by decide) ?_
      have e0 := Option.some.inj hf
      exact mk_zret C hr hlk rfl e0 rfl dX8_isPart_14
set_option maxHeartbeats 40000000 in
set_option maxRecDepth 100000 in
theorem c_Z_mean (l : Launch) (D : va_G) (cI cJ : ClassId) (X Y : Nat → Nat) (aZ aR aT aD aY aP aS aC aO aA aM : Nat → Nat) (uQ : Nat) (uR : Nat → Nat → Int32) (uT : Nat → Nat → Int32) (uD : Nat → Nat → Int32) (uY : Nat → Nat → Int32) (uP : Nat → Nat → Int32) (uS : Nat → Nat → Int32) (uC : Nat → Nat → Int32) (uO : Nat → Nat → Int32) (uA : Nat → Nat → Int32) (uM : Nat → Nat → Int64) (p1 : Int32) (p2 : Int32) (p3 : Int32) (r : Int64) (wM : Nat → Nat → Int64) (hf : f_Z_mean uM p1 p2 p3 = some (r, wM)) : mk_Met l yX8_mean cX8_mean 4 (some .long) ({ frames := 5, cells := 0, slots := 0, locals := 140 }) D [(cI, .int), (cJ, .long)] X Y [.ref (aZ 0), .int p1, .int p2, .int p3] (wChan aZ aR aT aD aY aP aC aO aA aM ++ (wReader aR aT aD uR ++ (wTape aT cI uT ++ (wPlan aD cI uD ++ (wPlay aY aP aS (mk_crs aC aO uQ) cI uY ++ (wPlan aP cI uP ++ (wStack aS cI uS ++ (wCourse aC cI uC ++ (wCourse aO cI uO ++ (wActs aA cI uA ++ (wMeans aM cJ uM))))))))))) (wChan aZ aR aT aD aY aP aC aO aA aM ++ (wReader aR aT aD uR ++ (wTape aT cI uT ++ (wPlan aD cI uD ++ (wPlay aY aP aS (mk_crs aC aO uQ) cI uY ++ (wPlan aP cI uP ++ (wStack aS cI uS ++ (wCourse aC cI uC ++ (wCourse aO cI uO ++ (wActs aA cI uA ++ (wMeans aM cJ wM))))))))))) (some (.long r)) 0 0 := by
  refine mk_start (own := RX8) (by decide) rfl (Nat.le_of_ble_eq_true rfl) ?_
  intro sz p e s m args below meth c A C hr hlk hnm
  replace C : mk_Cx p s m args c cX8_mean 4 RX8 D [(cI, .int), (cJ, .long)] X Y A := C
  show mk_Go p l e (headSpec (mk_ws yX8_mean cX8_mean 4 (some .long)) ({ frames := 5, cells := 0, slots := 0, locals := 140 })).room s m args below meth c D A 4 0 0 (MQ below (mk_Q (some (.long r)) D (wChan aZ aR aT aD aY aP aC aO aA aM ++ (wReader aR aT aD uR ++ (wTape aT cI uT ++ (wPlan aD cI uD ++ (wPlay aY aP aS (mk_crs aC aO uQ) cI uY ++ (wPlan aP cI uP ++ (wStack aS cI uS ++ (wCourse aC cI uC ++ (wCourse aO cI uO ++ (wActs aA cI uA ++ (wMeans aM cJ wM))))))))))) A) args s 0 0 A) 0 (wChan aZ aR aT aD aY aP aC aO aA aM ++ (wReader aR aT aD uR ++ (wTape aT cI uT ++ (wPlan aD cI uD ++ (wPlay aY aP aS (mk_crs aC aO uQ) cI uY ++ (wPlan aP cI uP ++ (wStack aS cI uS ++ (wCourse aC cI uC ++ (wCourse aO cI uO ++ (wActs aA cI uA ++ (wMeans aM cJ uM))))))))))) [(0, .ref (aZ 0)), (1, .int p1), (2, .int p2), (3, .int p3)] []
  unfold f_Z_mean at hf
  refine mk_iload_n C 1 dX8_mean_0 rfl ?_
  obtain ⟨r1, h2, hf⟩ := b1_some hf
  refine mk_callSi C (c_Z_isTreeLaw l D cI cJ X Y p1 r1 h2) mw_787 mw_788 mw_1 mw_789 mkn_X8_isTreeLaw rfl ⟨Nat.le_of_ble_eq_true rfl, Nat.le_of_ble_eq_true rfl⟩ (mk_Fr.nil _) (Nat.le_of_ble_eq_true rfl) dX8_mean_1 rfl ?_
  refine mk_if_eq C 24 dX8_mean_4 (by decide) (fun c3 => ?_) (fun c3 => ?_)
  · replace hf := (if_pos c3).symm.trans hf
    refine mk_ldc2 C (v := (-2)) mw_793 dX8_mean_24 ?_
    have e := Option.some.inj hf
    obtain ⟨e0, e1⟩ := Prod.mk.inj e
    exact mk_lret C hr hlk e0 (by rw [← e1]) dX8_mean_27
  · replace hf := (if_neg c3).symm.trans hf
    refine mk_iload_n C 2 dX8_mean_7 rfl ?_
    refine mk_if_lt C 24 dX8_mean_8 (by decide) (fun c4 => ?_) (fun c4 => ?_)
    · replace hf := (if_pos c4).symm.trans hf
      refine mk_ldc2 C (v := (-2)) mw_793 dX8_mean_24 ?_
      have e := Option.some.inj hf
      obtain ⟨e0, e1⟩ := Prod.mk.inj e
      exact mk_lret C hr hlk e0 (by rw [← e1]) dX8_mean_27
    · replace hf := (if_neg c4).symm.trans hf
      refine mk_iload_n C 2 dX8_mean_11 rfl ?_
      refine mk_bipush C (v := 8) dX8_mean_12 (by decide) ?_
      refine mk_icmp_gt C 24 dX8_mean_14 (by decide) (fun c5 => ?_) (fun c5 => ?_)
      · replace hf := (if_pos c5).symm.trans hf
        refine mk_ldc2 C (v := (-2)) mw_793 dX8_mean_24 ?_
        have e := Option.some.inj hf
        obtain ⟨e0, e1⟩ := Prod.mk.inj e
        exact mk_lret C hr hlk e0 (by rw [← e1]) dX8_mean_27
      · replace hf := (if_neg c5).symm.trans hf
        refine mk_iload_n C 3 dX8_mean_17 rfl ?_
        obtain ⟨r6, h7, hf⟩ := b1_some hf
        refine mk_callSi C (c_Z_isPart l D cI cJ X Y p3 r6 h7) mw_790 mw_791 mw_1 mw_792 mkn_X8_isPart rfl ⟨Nat.le_of_ble_eq_true rfl, Nat.le_of_ble_eq_true rfl⟩ (mk_Fr.nil _) (Nat.le_of_ble_eq_true rfl) dX8_mean_18 rfl ?_
        refine mk_if_ne C 28 dX8_mean_21 (by decide) (fun c8 => ?_) (fun c8 => ?_)
        · replace hf := (if_neg c8).symm.trans hf
          refine mk_aload_n C 0 dX8_mean_28 rfl ?_
          refine mk_get C mk_inX8 0 rfl rfl 8 (by decide) mw_350 (v := .ref (aM 0)) rfl dX8_mean_29 ?_
          refine mk_iload_n C 1 dX8_mean_32 rfl ?_
          refine mk_iload_n C 2 dX8_mean_33 rfl ?_
          refine mk_iconst C (v := 1) dX8_mean_34 (by decide) ?_
          refine mk_iconst C (v := 2) dX8_mean_35 (by decide) ?_
          obtain ⟨uM_9, h10, hf⟩ := b1_some hf
          refine mk_callVv C (c_M_reckon l D cI cJ X Y aM uM p1 p2 1 2 uM_9 h10) mw_794 mw_795 mw_796 mw_9 mw_797 mkn_X2_reckon rfl ⟨Nat.le_of_ble_eq_true rfl, Nat.le_of_ble_eq_true rfl⟩ 51 rfl rfl rfl (fr_Z_M cI cJ aZ aR aT aD aY aP aS aC aO aA aM uQ uR uT uD uY uP uS uC uO uA uM uM_9) (Nat.le_of_ble_eq_true rfl) dX8_mean_36 rfl ?_
          refine mk_iload_n C 3 dX8_mean_39 rfl ?_
          refine mk_if_ne C 57 dX8_mean_40 (by decide) (fun c11 => ?_) (fun c11 => ?_)
          · replace hf := (if_neg c11).symm.trans hf
            refine mk_aload_n C 0 dX8_mean_57 rfl ?_
            refine mk_get C mk_inX8 0 rfl rfl 8 (by decide) mw_350 (v := .ref (aM 0)) rfl dX8_mean_58 ?_
            refine mk_get C mk_inX2 51 rfl rfl 1 (by decide) mw_324 (v := .ref (aM 2)) rfl dX8_mean_61 ?_
            refine mk_iload_n C 2 dX8_mean_64 rfl ?_
            refine mk_callSl C (c_atL l D cI cJ X Y (aM 2) 9 (uM_9 1) p2) mw_825 mw_816 mw_1 mw_817 mkn_X8_at_ rfl ⟨Nat.le_of_ble_eq_true rfl, Nat.le_of_ble_eq_true rfl⟩ (mk_Fr.at (q := 53) rfl) (Nat.le_of_ble_eq_true rfl) dX8_mean_65 rfl ?_
            have e := Option.some.inj hf
            obtain ⟨e0, e1⟩ := Prod.mk.inj e
            exact mk_lret C hr hlk e0 (by rw [← e1]) dX8_mean_68
          · replace hf := (if_pos c11).symm.trans hf
            refine mk_aload_n C 0 dX8_mean_43 rfl ?_
            refine mk_get C mk_inX8 0 rfl rfl 8 (by decide) mw_350 (v := .ref (aM 0)) rfl dX8_mean_44 ?_
            refine mk_get C mk_inX2 51 rfl rfl 0 (by decide) mw_322 (v := .ref (aM 1)) rfl dX8_mean_47 ?_
            refine mk_iload_n C 2 dX8_mean_50 rfl ?_
            refine mk_callSl C (c_atL l D cI cJ X Y (aM 1) 9 (uM_9 0) p2) mw_825 mw_816 mw_1 mw_817 mkn_X8_at_ rfl ⟨Nat.le_of_ble_eq_true rfl, Nat.le_of_ble_eq_true rfl⟩ (mk_Fr.at (q := 52) rfl) (Nat.le_of_ble_eq_true rfl) dX8_mean_51 rfl ?_
            refine mk_goto C 68 dX8_mean_54 (by decide) ?_
            have e := Option.some.inj hf
            obtain ⟨e0, e1⟩ := Prod.mk.inj e
            exact mk_lret C hr hlk e0 (by rw [← e1]) dX8_mean_68
        · replace hf := (if_pos c8).symm.trans hf
          refine mk_ldc2 C (v := (-2)) mw_793 dX8_mean_24 ?_
          have e := Option.some.inj hf
          obtain ⟨e0, e1⟩ := Prod.mk.inj e
          exact mk_lret C hr hlk e0 (by rw [← e1]) dX8_mean_27
set_option maxHeartbeats 40000000 in
set_option maxRecDepth 100000 in
theorem c_Z_leaning (l : Launch) (D : va_G) (cI cJ : ClassId) (X Y : Nat → Nat) (aZ aR aT aD aY aP aS aC aO aA aM : Nat → Nat) (uQ : Nat) (uR : Nat → Nat → Int32) (uT : Nat → Nat → Int32) (uD : Nat → Nat → Int32) (uY : Nat → Nat → Int32) (uP : Nat → Nat → Int32) (uS : Nat → Nat → Int32) (uC : Nat → Nat → Int32) (uO : Nat → Nat → Int32) (uA : Nat → Nat → Int32) (uM : Nat → Nat → Int64) (p1 : Int32) (p2 : Int32) (p3 : Int32) (p4 : Int32) (p5 : Int32) (r : Int64) (wM : Nat → Nat → Int64) (hf : f_Z_leaning uM p1 p2 p3 p4 p5 = some (r, wM)) : mk_Met l yX8_leaning cX8_leaning 6 (some .long) ({ frames := 5, cells := 0, slots := 0, locals := 140 }) D [(cI, .int), (cJ, .long)] X Y [.ref (aZ 0), .int p1, .int p2, .int p3, .int p4, .int p5] (wChan aZ aR aT aD aY aP aC aO aA aM ++ (wReader aR aT aD uR ++ (wTape aT cI uT ++ (wPlan aD cI uD ++ (wPlay aY aP aS (mk_crs aC aO uQ) cI uY ++ (wPlan aP cI uP ++ (wStack aS cI uS ++ (wCourse aC cI uC ++ (wCourse aO cI uO ++ (wActs aA cI uA ++ (wMeans aM cJ uM))))))))))) (wChan aZ aR aT aD aY aP aC aO aA aM ++ (wReader aR aT aD uR ++ (wTape aT cI uT ++ (wPlan aD cI uD ++ (wPlay aY aP aS (mk_crs aC aO uQ) cI uY ++ (wPlan aP cI uP ++ (wStack aS cI uS ++ (wCourse aC cI uC ++ (wCourse aO cI uO ++ (wActs aA cI uA ++ (wMeans aM cJ wM))))))))))) (some (.long r)) 0 0 := by
  refine mk_start (own := RX8) (by decide) rfl (Nat.le_of_ble_eq_true rfl) ?_
  intro sz p e s m args below meth c A C hr hlk hnm
  replace C : mk_Cx p s m args c cX8_leaning 6 RX8 D [(cI, .int), (cJ, .long)] X Y A := C
  show mk_Go p l e (headSpec (mk_ws yX8_leaning cX8_leaning 6 (some .long)) ({ frames := 5, cells := 0, slots := 0, locals := 140 })).room s m args below meth c D A 6 0 0 (MQ below (mk_Q (some (.long r)) D (wChan aZ aR aT aD aY aP aC aO aA aM ++ (wReader aR aT aD uR ++ (wTape aT cI uT ++ (wPlan aD cI uD ++ (wPlay aY aP aS (mk_crs aC aO uQ) cI uY ++ (wPlan aP cI uP ++ (wStack aS cI uS ++ (wCourse aC cI uC ++ (wCourse aO cI uO ++ (wActs aA cI uA ++ (wMeans aM cJ wM))))))))))) A) args s 0 0 A) 0 (wChan aZ aR aT aD aY aP aC aO aA aM ++ (wReader aR aT aD uR ++ (wTape aT cI uT ++ (wPlan aD cI uD ++ (wPlay aY aP aS (mk_crs aC aO uQ) cI uY ++ (wPlan aP cI uP ++ (wStack aS cI uS ++ (wCourse aC cI uC ++ (wCourse aO cI uO ++ (wActs aA cI uA ++ (wMeans aM cJ uM))))))))))) [(0, .ref (aZ 0)), (1, .int p1), (2, .int p2), (3, .int p3), (4, .int p4), (5, .int p5)] []
  unfold f_Z_leaning at hf
  refine mk_iload_n C 1 dX8_leaning_0 rfl ?_
  obtain ⟨r1, h2, hf⟩ := b1_some hf
  refine mk_callSi C (c_Z_isTreeLaw l D cI cJ X Y p1 r1 h2) mw_787 mw_788 mw_1 mw_789 mkn_X8_isTreeLaw rfl ⟨Nat.le_of_ble_eq_true rfl, Nat.le_of_ble_eq_true rfl⟩ (mk_Fr.nil _) (Nat.le_of_ble_eq_true rfl) dX8_leaning_1 rfl ?_
  refine mk_if_eq C 24 dX8_leaning_4 (by decide) (fun c3 => ?_) (fun c3 => ?_)
  · replace hf := (if_pos c3).symm.trans hf
    refine mk_ldc2 C (v := (-2)) mw_793 dX8_leaning_24 ?_
    have e := Option.some.inj hf
    obtain ⟨e0, e1⟩ := Prod.mk.inj e
    exact mk_lret C hr hlk e0 (by rw [← e1]) dX8_leaning_27
  · replace hf := (if_neg c3).symm.trans hf
    refine mk_iload_n C 2 dX8_leaning_7 rfl ?_
    refine mk_if_lt C 24 dX8_leaning_8 (by decide) (fun c4 => ?_) (fun c4 => ?_)
    · replace hf := (if_pos c4).symm.trans hf
      refine mk_ldc2 C (v := (-2)) mw_793 dX8_leaning_24 ?_
      have e := Option.some.inj hf
      obtain ⟨e0, e1⟩ := Prod.mk.inj e
      exact mk_lret C hr hlk e0 (by rw [← e1]) dX8_leaning_27
    · replace hf := (if_neg c4).symm.trans hf
      refine mk_iload_n C 2 dX8_leaning_11 rfl ?_
      refine mk_iconst C (v := 5) dX8_leaning_12 (by decide) ?_
      refine mk_icmp_gt C 24 dX8_leaning_13 (by decide) (fun c5 => ?_) (fun c5 => ?_)
      · replace hf := (if_pos c5).symm.trans hf
        refine mk_ldc2 C (v := (-2)) mw_793 dX8_leaning_24 ?_
        have e := Option.some.inj hf
        obtain ⟨e0, e1⟩ := Prod.mk.inj e
        exact mk_lret C hr hlk e0 (by rw [← e1]) dX8_leaning_27
      · replace hf := (if_neg c5).symm.trans hf
        refine mk_iload C 5 dX8_leaning_16 rfl ?_
        obtain ⟨r6, h7, hf⟩ := b1_some hf
        refine mk_callSi C (c_Z_isPart l D cI cJ X Y p5 r6 h7) mw_790 mw_791 mw_1 mw_792 mkn_X8_isPart rfl ⟨Nat.le_of_ble_eq_true rfl, Nat.le_of_ble_eq_true rfl⟩ (mk_Fr.nil _) (Nat.le_of_ble_eq_true rfl) dX8_leaning_18 rfl ?_
        refine mk_if_ne C 28 dX8_leaning_21 (by decide) (fun c8 => ?_) (fun c8 => ?_)
        · replace hf := (if_neg c8).symm.trans hf
          refine mk_iload_n C 3 dX8_leaning_28 rfl ?_
          refine mk_iconst C (v := 1) dX8_leaning_29 (by decide) ?_
          refine mk_icmp_lt C 56 dX8_leaning_30 (by decide) (fun c9 => ?_) (fun c9 => ?_)
          · replace hf := (if_pos c9).symm.trans hf
            refine mk_ldc2 C (v := (-2)) mw_793 dX8_leaning_56 ?_
            have e := Option.some.inj hf
            obtain ⟨e0, e1⟩ := Prod.mk.inj e
            exact mk_lret C hr hlk e0 (by rw [← e1]) dX8_leaning_59
          · replace hf := (if_neg c9).symm.trans hf
            refine mk_iload_n C 3 dX8_leaning_33 rfl ?_
            refine mk_iconst C (v := 4) dX8_leaning_34 (by decide) ?_
            refine mk_icmp_gt C 56 dX8_leaning_35 (by decide) (fun c10 => ?_) (fun c10 => ?_)
            · replace hf := (if_pos c10).symm.trans hf
              refine mk_ldc2 C (v := (-2)) mw_793 dX8_leaning_56 ?_
              have e := Option.some.inj hf
              obtain ⟨e0, e1⟩ := Prod.mk.inj e
              exact mk_lret C hr hlk e0 (by rw [← e1]) dX8_leaning_59
            · replace hf := (if_neg c10).symm.trans hf
              refine mk_iload C 4 dX8_leaning_38 rfl ?_
              refine mk_iconst C (v := 2) dX8_leaning_40 (by decide) ?_
              refine mk_icmp_lt C 56 dX8_leaning_41 (by decide) (fun c11 => ?_) (fun c11 => ?_)
              · replace hf := (if_pos c11).symm.trans hf
                refine mk_ldc2 C (v := (-2)) mw_793 dX8_leaning_56 ?_
                have e := Option.some.inj hf
                obtain ⟨e0, e1⟩ := Prod.mk.inj e
                exact mk_lret C hr hlk e0 (by rw [← e1]) dX8_leaning_59
              · replace hf := (if_neg c11).symm.trans hf
                refine mk_iload C 4 dX8_leaning_44 rfl ?_
                refine mk_iconst C (v := 5) dX8_leaning_46 (by decide) ?_
                refine mk_icmp_gt C 56 dX8_leaning_47 (by decide) (fun c12 => ?_) (fun c12 => ?_)
                · replace hf := (if_pos c12).symm.trans hf
                  refine mk_ldc2 C (v := (-2)) mw_793 dX8_leaning_56 ?_
                  have e := Option.some.inj hf
                  obtain ⟨e0, e1⟩ := Prod.mk.inj e
                  exact mk_lret C hr hlk e0 (by rw [← e1]) dX8_leaning_59
                · replace hf := (if_neg c12).symm.trans hf
                  refine mk_iload_n C 3 dX8_leaning_50 rfl ?_
                  refine mk_iload C 4 dX8_leaning_51 rfl ?_
                  refine mk_icmp_lt C 60 dX8_leaning_53 (by decide) (fun c13 => ?_) (fun c13 => ?_)
                  · replace hf := (if_pos c13).symm.trans hf
                    refine mk_aload_n C 0 dX8_leaning_60 rfl ?_
                    refine mk_get C mk_inX8 0 rfl rfl 8 (by decide) mw_350 (v := .ref (aM 0)) rfl dX8_leaning_61 ?_
                    refine mk_iload_n C 1 dX8_leaning_64 rfl ?_
                    refine mk_iload_n C 2 dX8_leaning_65 rfl ?_
                    refine mk_iload_n C 3 dX8_leaning_66 rfl ?_
                    refine mk_iload C 4 dX8_leaning_67 rfl ?_
                    obtain ⟨uM_14, h15, hf⟩ := b1_some hf
                    refine mk_callVv C (c_M_reckon l D cI cJ X Y aM uM p1 p2 p3 p4 uM_14 h15) mw_794 mw_795 mw_796 mw_9 mw_797 mkn_X2_reckon rfl ⟨Nat.le_of_ble_eq_true rfl, Nat.le_of_ble_eq_true rfl⟩ 51 rfl rfl rfl (fr_Z_M cI cJ aZ aR aT aD aY aP aS aC aO aA aM uQ uR uT uD uY uP uS uC uO uA uM uM_14) (Nat.le_of_ble_eq_true rfl) dX8_leaning_69 rfl ?_
                    refine mk_iload C 5 dX8_leaning_72 rfl ?_
                    refine mk_if_ne C 91 dX8_leaning_74 (by decide) (fun c16 => ?_) (fun c16 => ?_)
                    · replace hf := (if_neg c16).symm.trans hf
                      refine mk_aload_n C 0 dX8_leaning_91 rfl ?_
                      refine mk_get C mk_inX8 0 rfl rfl 8 (by decide) mw_350 (v := .ref (aM 0)) rfl dX8_leaning_92 ?_
                      refine mk_get C mk_inX2 51 rfl rfl 1 (by decide) mw_324 (v := .ref (aM 2)) rfl dX8_leaning_95 ?_
                      refine mk_iload_n C 2 dX8_leaning_98 rfl ?_
                      refine mk_callSl C (c_atL l D cI cJ X Y (aM 2) 9 (uM_14 1) p2) mw_825 mw_816 mw_1 mw_817 mkn_X8_at_ rfl ⟨Nat.le_of_ble_eq_true rfl, Nat.le_of_ble_eq_true rfl⟩ (mk_Fr.at (q := 53) rfl) (Nat.le_of_ble_eq_true rfl) dX8_leaning_99 rfl ?_
                      have e := Option.some.inj hf
                      obtain ⟨e0, e1⟩ := Prod.mk.inj e
                      exact mk_lret C hr hlk e0 (by rw [← e1]) dX8_leaning_102
                    · replace hf := (if_pos c16).symm.trans hf
                      refine mk_aload_n C 0 dX8_leaning_77 rfl ?_
                      refine mk_get C mk_inX8 0 rfl rfl 8 (by decide) mw_350 (v := .ref (aM 0)) rfl dX8_leaning_78 ?_
                      refine mk_get C mk_inX2 51 rfl rfl 0 (by decide) mw_322 (v := .ref (aM 1)) rfl dX8_leaning_81 ?_
                      refine mk_iload_n C 2 dX8_leaning_84 rfl ?_
                      refine mk_callSl C (c_atL l D cI cJ X Y (aM 1) 9 (uM_14 0) p2) mw_825 mw_816 mw_1 mw_817 mkn_X8_at_ rfl ⟨Nat.le_of_ble_eq_true rfl, Nat.le_of_ble_eq_true rfl⟩ (mk_Fr.at (q := 52) rfl) (Nat.le_of_ble_eq_true rfl) dX8_leaning_85 rfl ?_
                      refine mk_goto C 102 dX8_leaning_88 (by decide) ?_
                      have e := Option.some.inj hf
                      obtain ⟨e0, e1⟩ := Prod.mk.inj e
                      exact mk_lret C hr hlk e0 (by rw [← e1]) dX8_leaning_102
                  · replace hf := (if_neg c13).symm.trans hf
                    refine mk_ldc2 C (v := (-2)) mw_793 dX8_leaning_56 ?_
                    have e := Option.some.inj hf
                    obtain ⟨e0, e1⟩ := Prod.mk.inj e
                    exact mk_lret C hr hlk e0 (by rw [← e1]) dX8_leaning_59
        · replace hf := (if_pos c8).symm.trans hf
          refine mk_ldc2 C (v := (-2)) mw_793 dX8_leaning_24 ?_
          have e := Option.some.inj hf
          obtain ⟨e0, e1⟩ := Prod.mk.inj e
          exact mk_lret C hr hlk e0 (by rw [← e1]) dX8_leaning_27
set_option maxHeartbeats 40000000 in
set_option maxRecDepth 100000 in
theorem c_Z_chance (l : Launch) (D : va_G) (cI cJ : ClassId) (X Y : Nat → Nat) (aZ aR aT aD aY aP aS aC aO aA aM : Nat → Nat) (uQ : Nat) (uR : Nat → Nat → Int32) (uT : Nat → Nat → Int32) (uD : Nat → Nat → Int32) (uY : Nat → Nat → Int32) (uP : Nat → Nat → Int32) (uS : Nat → Nat → Int32) (uC : Nat → Nat → Int32) (uO : Nat → Nat → Int32) (uA : Nat → Nat → Int32) (uM : Nat → Nat → Int64) (p1 : Int32) (p2 : Int32) (p3 : Int32) (p4 : Int32) (r : Int64) (wM : Nat → Nat → Int64) (hf : f_Z_chance uM p1 p2 p3 p4 = some (r, wM)) : mk_Met l yX8_chance cX8_chance 5 (some .long) ({ frames := 4, cells := 0, slots := 0, locals := 101 }) D [(cI, .int), (cJ, .long)] X Y [.ref (aZ 0), .int p1, .int p2, .int p3, .int p4] (wChan aZ aR aT aD aY aP aC aO aA aM ++ (wReader aR aT aD uR ++ (wTape aT cI uT ++ (wPlan aD cI uD ++ (wPlay aY aP aS (mk_crs aC aO uQ) cI uY ++ (wPlan aP cI uP ++ (wStack aS cI uS ++ (wCourse aC cI uC ++ (wCourse aO cI uO ++ (wActs aA cI uA ++ (wMeans aM cJ uM))))))))))) (wChan aZ aR aT aD aY aP aC aO aA aM ++ (wReader aR aT aD uR ++ (wTape aT cI uT ++ (wPlan aD cI uD ++ (wPlay aY aP aS (mk_crs aC aO uQ) cI uY ++ (wPlan aP cI uP ++ (wStack aS cI uS ++ (wCourse aC cI uC ++ (wCourse aO cI uO ++ (wActs aA cI uA ++ (wMeans aM cJ wM))))))))))) (some (.long r)) 0 0 := by
  refine mk_start (own := RX8) (by decide) rfl (Nat.le_of_ble_eq_true rfl) ?_
  intro sz p e s m args below meth c A C hr hlk hnm
  replace C : mk_Cx p s m args c cX8_chance 5 RX8 D [(cI, .int), (cJ, .long)] X Y A := C
  show mk_Go p l e (headSpec (mk_ws yX8_chance cX8_chance 5 (some .long)) ({ frames := 4, cells := 0, slots := 0, locals := 101 })).room s m args below meth c D A 5 0 0 (MQ below (mk_Q (some (.long r)) D (wChan aZ aR aT aD aY aP aC aO aA aM ++ (wReader aR aT aD uR ++ (wTape aT cI uT ++ (wPlan aD cI uD ++ (wPlay aY aP aS (mk_crs aC aO uQ) cI uY ++ (wPlan aP cI uP ++ (wStack aS cI uS ++ (wCourse aC cI uC ++ (wCourse aO cI uO ++ (wActs aA cI uA ++ (wMeans aM cJ wM))))))))))) A) args s 0 0 A) 0 (wChan aZ aR aT aD aY aP aC aO aA aM ++ (wReader aR aT aD uR ++ (wTape aT cI uT ++ (wPlan aD cI uD ++ (wPlay aY aP aS (mk_crs aC aO uQ) cI uY ++ (wPlan aP cI uP ++ (wStack aS cI uS ++ (wCourse aC cI uC ++ (wCourse aO cI uO ++ (wActs aA cI uA ++ (wMeans aM cJ uM))))))))))) [(0, .ref (aZ 0)), (1, .int p1), (2, .int p2), (3, .int p3), (4, .int p4)] []
  unfold f_Z_chance at hf
  refine mk_iload_n C 1 dX8_chance_0 rfl ?_
  obtain ⟨r1, h2, hf⟩ := b1_some hf
  refine mk_callSi C (c_Z_isTreeLaw l D cI cJ X Y p1 r1 h2) mw_787 mw_788 mw_1 mw_789 mkn_X8_isTreeLaw rfl ⟨Nat.le_of_ble_eq_true rfl, Nat.le_of_ble_eq_true rfl⟩ (mk_Fr.nil _) (Nat.le_of_ble_eq_true rfl) dX8_chance_1 rfl ?_
  refine mk_if_eq C 24 dX8_chance_4 (by decide) (fun c3 => ?_) (fun c3 => ?_)
  · replace hf := (if_pos c3).symm.trans hf
    refine mk_ldc2 C (v := (-2)) mw_793 dX8_chance_24 ?_
    have e := Option.some.inj hf
    obtain ⟨e0, e1⟩ := Prod.mk.inj e
    exact mk_lret C hr hlk e0 (by rw [← e1]) dX8_chance_27
  · replace hf := (if_neg c3).symm.trans hf
    refine mk_iload_n C 2 dX8_chance_7 rfl ?_
    refine mk_if_lt C 24 dX8_chance_8 (by decide) (fun c4 => ?_) (fun c4 => ?_)
    · replace hf := (if_pos c4).symm.trans hf
      refine mk_ldc2 C (v := (-2)) mw_793 dX8_chance_24 ?_
      have e := Option.some.inj hf
      obtain ⟨e0, e1⟩ := Prod.mk.inj e
      exact mk_lret C hr hlk e0 (by rw [← e1]) dX8_chance_27
    · replace hf := (if_neg c4).symm.trans hf
      refine mk_iload_n C 2 dX8_chance_11 rfl ?_
      refine mk_iconst C (v := 3) dX8_chance_12 (by decide) ?_
      refine mk_icmp_gt C 24 dX8_chance_13 (by decide) (fun c5 => ?_) (fun c5 => ?_)
      · replace hf := (if_pos c5).symm.trans hf
        refine mk_ldc2 C (v := (-2)) mw_793 dX8_chance_24 ?_
        have e := Option.some.inj hf
        obtain ⟨e0, e1⟩ := Prod.mk.inj e
        exact mk_lret C hr hlk e0 (by rw [← e1]) dX8_chance_27
      · replace hf := (if_neg c5).symm.trans hf
        refine mk_iload C 4 dX8_chance_16 rfl ?_
        obtain ⟨r6, h7, hf⟩ := b1_some hf
        refine mk_callSi C (c_Z_isPart l D cI cJ X Y p4 r6 h7) mw_790 mw_791 mw_1 mw_792 mkn_X8_isPart rfl ⟨Nat.le_of_ble_eq_true rfl, Nat.le_of_ble_eq_true rfl⟩ (mk_Fr.nil _) (Nat.le_of_ble_eq_true rfl) dX8_chance_18 rfl ?_
        refine mk_if_ne C 28 dX8_chance_21 (by decide) (fun c8 => ?_) (fun c8 => ?_)
        · replace hf := (if_neg c8).symm.trans hf
          refine mk_iload_n C 3 dX8_chance_28 rfl ?_
          refine mk_iconst C (v := 1) dX8_chance_29 (by decide) ?_
          refine mk_icmp_lt C 39 dX8_chance_30 (by decide) (fun c9 => ?_) (fun c9 => ?_)
          · replace hf := (if_pos c9).symm.trans hf
            refine mk_ldc2 C (v := (-2)) mw_793 dX8_chance_39 ?_
            have e := Option.some.inj hf
            obtain ⟨e0, e1⟩ := Prod.mk.inj e
            exact mk_lret C hr hlk e0 (by rw [← e1]) dX8_chance_42
          · replace hf := (if_neg c9).symm.trans hf
            refine mk_iload_n C 3 dX8_chance_33 rfl ?_
            refine mk_bipush C (v := 12) dX8_chance_34 (by decide) ?_
            refine mk_icmp_le C 43 dX8_chance_36 (by decide) (fun c10 => ?_) (fun c10 => ?_)
            · replace hf := (if_pos c10).symm.trans hf
              refine mk_aload_n C 0 dX8_chance_43 rfl ?_
              refine mk_get C mk_inX8 0 rfl rfl 8 (by decide) mw_350 (v := .ref (aM 0)) rfl dX8_chance_44 ?_
              refine mk_iload_n C 1 dX8_chance_47 rfl ?_
              refine mk_iload_n C 2 dX8_chance_48 rfl ?_
              refine mk_iload_n C 3 dX8_chance_49 rfl ?_
              obtain ⟨uM_11, h12, hf⟩ := b1_some hf
              refine mk_callVv C (c_M_reckonChance l D cI cJ X Y aM uM p1 p2 p3 uM_11 h12) mw_834 mw_835 mw_836 mw_9 mw_837 mkn_X2_reckonChance rfl ⟨Nat.le_of_ble_eq_true rfl, Nat.le_of_ble_eq_true rfl⟩ 51 rfl rfl rfl (fr_Z_M cI cJ aZ aR aT aD aY aP aS aC aO aA aM uQ uR uT uD uY uP uS uC uO uA uM uM_11) (Nat.le_of_ble_eq_true rfl) dX8_chance_50 rfl ?_
              refine mk_iload C 4 dX8_chance_53 rfl ?_
              refine mk_if_ne C 68 dX8_chance_55 (by decide) (fun c13 => ?_) (fun c13 => ?_)
              · replace hf := (if_neg c13).symm.trans hf
                refine mk_aload_n C 0 dX8_chance_68 rfl ?_
                refine mk_get C mk_inX8 0 rfl rfl 8 (by decide) mw_350 (v := .ref (aM 0)) rfl dX8_chance_69 ?_
                refine mk_get C mk_inX2 51 rfl rfl 4 (by decide) mw_329 (v := .long (uM_11 4 0)) rfl dX8_chance_72 ?_
                have e := Option.some.inj hf
                obtain ⟨e0, e1⟩ := Prod.mk.inj e
                exact mk_lret C hr hlk e0 (by rw [← e1]) dX8_chance_75
              · replace hf := (if_pos c13).symm.trans hf
                refine mk_aload_n C 0 dX8_chance_58 rfl ?_
                refine mk_get C mk_inX8 0 rfl rfl 8 (by decide) mw_350 (v := .ref (aM 0)) rfl dX8_chance_59 ?_
                refine mk_get C mk_inX2 51 rfl rfl 3 (by decide) mw_327 (v := .long (uM_11 3 0)) rfl dX8_chance_62 ?_
                refine mk_goto C 75 dX8_chance_65 (by decide) ?_
                have e := Option.some.inj hf
                obtain ⟨e0, e1⟩ := Prod.mk.inj e
                exact mk_lret C hr hlk e0 (by rw [← e1]) dX8_chance_75
            · replace hf := (if_neg c10).symm.trans hf
              refine mk_ldc2 C (v := (-2)) mw_793 dX8_chance_39 ?_
              have e := Option.some.inj hf
              obtain ⟨e0, e1⟩ := Prod.mk.inj e
              exact mk_lret C hr hlk e0 (by rw [← e1]) dX8_chance_42
        · replace hf := (if_pos c8).symm.trans hf
          refine mk_ldc2 C (v := (-2)) mw_793 dX8_chance_24 ?_
          have e := Option.some.inj hf
          obtain ⟨e0, e1⟩ := Prod.mk.inj e
          exact mk_lret C hr hlk e0 (by rw [← e1]) dX8_chance_27
set_option maxHeartbeats 40000000 in
set_option maxRecDepth 100000 in
theorem c_Z_best (l : Launch) (D : va_G) (cI cJ : ClassId) (X Y : Nat → Nat) (aZ aR aT aD aY aP aS aC aO aA aM : Nat → Nat) (uQ : Nat) (uR : Nat → Nat → Int32) (uT : Nat → Nat → Int32) (uD : Nat → Nat → Int32) (uY : Nat → Nat → Int32) (uP : Nat → Nat → Int32) (uS : Nat → Nat → Int32) (uC : Nat → Nat → Int32) (uO : Nat → Nat → Int32) (uA : Nat → Nat → Int32) (uM : Nat → Nat → Int64) (p1 : Int32) (r : Int32) (wM : Nat → Nat → Int64) (hf : f_Z_best uM p1 = some (r, wM)) : mk_Met l yX8_best cX8_best 2 (some .int) ({ frames := 6, cells := 0, slots := 0, locals := 163 }) D [(cI, .int), (cJ, .long)] X Y [.ref (aZ 0), .int p1] (wChan aZ aR aT aD aY aP aC aO aA aM ++ (wReader aR aT aD uR ++ (wTape aT cI uT ++ (wPlan aD cI uD ++ (wPlay aY aP aS (mk_crs aC aO uQ) cI uY ++ (wPlan aP cI uP ++ (wStack aS cI uS ++ (wCourse aC cI uC ++ (wCourse aO cI uO ++ (wActs aA cI uA ++ (wMeans aM cJ uM))))))))))) (wChan aZ aR aT aD aY aP aC aO aA aM ++ (wReader aR aT aD uR ++ (wTape aT cI uT ++ (wPlan aD cI uD ++ (wPlay aY aP aS (mk_crs aC aO uQ) cI uY ++ (wPlan aP cI uP ++ (wStack aS cI uS ++ (wCourse aC cI uC ++ (wCourse aO cI uO ++ (wActs aA cI uA ++ (wMeans aM cJ wM))))))))))) (some (.int r)) 0 0 := by
  refine mk_start (own := RX8) (by decide) rfl (Nat.le_of_ble_eq_true rfl) ?_
  intro sz p e s m args below meth c A C hr hlk hnm
  replace C : mk_Cx p s m args c cX8_best 2 RX8 D [(cI, .int), (cJ, .long)] X Y A := C
  show mk_Go p l e (headSpec (mk_ws yX8_best cX8_best 2 (some .int)) ({ frames := 6, cells := 0, slots := 0, locals := 163 })).room s m args below meth c D A 2 0 0 (MQ below (mk_Q (some (.int r)) D (wChan aZ aR aT aD aY aP aC aO aA aM ++ (wReader aR aT aD uR ++ (wTape aT cI uT ++ (wPlan aD cI uD ++ (wPlay aY aP aS (mk_crs aC aO uQ) cI uY ++ (wPlan aP cI uP ++ (wStack aS cI uS ++ (wCourse aC cI uC ++ (wCourse aO cI uO ++ (wActs aA cI uA ++ (wMeans aM cJ wM))))))))))) A) args s 0 0 A) 0 (wChan aZ aR aT aD aY aP aC aO aA aM ++ (wReader aR aT aD uR ++ (wTape aT cI uT ++ (wPlan aD cI uD ++ (wPlay aY aP aS (mk_crs aC aO uQ) cI uY ++ (wPlan aP cI uP ++ (wStack aS cI uS ++ (wCourse aC cI uC ++ (wCourse aO cI uO ++ (wActs aA cI uA ++ (wMeans aM cJ uM))))))))))) [(0, .ref (aZ 0)), (1, .int p1)] []
  unfold f_Z_best at hf
  refine mk_iload_n C 1 dX8_best_0 rfl ?_
  obtain ⟨r1, h2, hf⟩ := b1_some hf
  refine mk_callSi C (c_Z_isTreeLaw l D cI cJ X Y p1 r1 h2) mw_787 mw_788 mw_1 mw_789 mkn_X8_isTreeLaw rfl ⟨Nat.le_of_ble_eq_true rfl, Nat.le_of_ble_eq_true rfl⟩ (mk_Fr.nil _) (Nat.le_of_ble_eq_true rfl) dX8_best_1 rfl ?_
  refine mk_if_eq C 18 dX8_best_4 (by decide) (fun c3 => ?_) (fun c3 => ?_)
  · replace hf := (if_pos c3).symm.trans hf
    refine mk_bipush C (v := (-2)) dX8_best_18 (by decide) ?_
    have e := Option.some.inj hf
    obtain ⟨e0, e1⟩ := Prod.mk.inj e
    exact mk_iret C hr hlk e0 (by rw [← e1]) dX8_best_20
  · replace hf := (if_neg c3).symm.trans hf
    refine mk_aload_n C 0 dX8_best_7 rfl ?_
    refine mk_get C mk_inX8 0 rfl rfl 8 (by decide) mw_350 (v := .ref (aM 0)) rfl dX8_best_8 ?_
    refine mk_iload_n C 1 dX8_best_11 rfl ?_
    obtain ⟨r4, uM_5, h6, hf⟩ := b2_some hf
    refine mk_callVi C (c_M_bestCount l D cI cJ X Y aM uM p1 r4 uM_5 h6) mw_858 mw_859 mw_860 mw_9 mw_861 mkn_X2_bestCount rfl ⟨Nat.le_of_ble_eq_true rfl, Nat.le_of_ble_eq_true rfl⟩ 51 rfl rfl rfl (fr_Z_M cI cJ aZ aR aT aD aY aP aS aC aO aA aM uQ uR uT uD uY uP uS uC uO uA uM uM_5) (Nat.le_of_ble_eq_true rfl) dX8_best_12 rfl ?_
    refine mk_goto C 20 dX8_best_15 (by decide) ?_
    have e := Option.some.inj hf
    obtain ⟨e0, e1⟩ := Prod.mk.inj e
    exact mk_iret C hr hlk e0 (by rw [← e1]) dX8_best_20
set_option maxHeartbeats 40000000 in
set_option maxRecDepth 100000 in
theorem c_Z_add (l : Launch) (D : va_G) (cI cJ : ClassId) (X Y : Nat → Nat) (aZ aR aT aD aY aP aS aC aO aA aM : Nat → Nat) (uQ : Nat) (uR : Nat → Nat → Int32) (uT : Nat → Nat → Int32) (uD : Nat → Nat → Int32) (uY : Nat → Nat → Int32) (uP : Nat → Nat → Int32) (uS : Nat → Nat → Int32) (uC : Nat → Nat → Int32) (uO : Nat → Nat → Int32) (uA : Nat → Nat → Int32) (uM : Nat → Nat → Int64) (p1 : Int32) (p2 : Int32) (p3 : Int32) (r : Int32) (wQ : Nat) (wY : Nat → Nat → Int32) (wP : Nat → Nat → Int32) (wS : Nat → Nat → Int32) (wC : Nat → Nat → Int32) (wA : Nat → Nat → Int32) (hf : f_Z_add uQ uY uP uS uC uA p1 p2 p3 = some (r, wQ, wY, wP, wS, wC, wA)) : mk_Met l yX8_add cX8_add 4 (some .int) ({ frames := 6, cells := 0, slots := 0, locals := 142 }) D [(cI, .int), (cJ, .long)] X Y [.ref (aZ 0), .int p1, .int p2, .int p3] (wChan aZ aR aT aD aY aP aC aO aA aM ++ (wReader aR aT aD uR ++ (wTape aT cI uT ++ (wPlan aD cI uD ++ (wPlay aY aP aS (mk_crs aC aO uQ) cI uY ++ (wPlan aP cI uP ++ (wStack aS cI uS ++ (wCourse aC cI uC ++ (wCourse aO cI uO ++ (wActs aA cI uA ++ (wMeans aM cJ uM))))))))))) (wChan aZ aR aT aD aY aP aC aO aA aM ++ (wReader aR aT aD uR ++ (wTape aT cI uT ++ (wPlan aD cI uD ++ (wPlay aY aP aS (mk_crs aC aO wQ) cI wY ++ (wPlan aP cI wP ++ (wStack aS cI wS ++ (wCourse aC cI wC ++ (wCourse aO cI uO ++ (wActs aA cI wA ++ (wMeans aM cJ uM))))))))))) (some (.int r)) 0 0 := by
  refine mk_start (own := RX8) (by decide) rfl (Nat.le_of_ble_eq_true rfl) ?_
  intro sz p e s m args below meth c A C hr hlk hnm
  replace C : mk_Cx p s m args c cX8_add 4 RX8 D [(cI, .int), (cJ, .long)] X Y A := C
  show mk_Go p l e (headSpec (mk_ws yX8_add cX8_add 4 (some .int)) ({ frames := 6, cells := 0, slots := 0, locals := 142 })).room s m args below meth c D A 4 0 0 (MQ below (mk_Q (some (.int r)) D (wChan aZ aR aT aD aY aP aC aO aA aM ++ (wReader aR aT aD uR ++ (wTape aT cI uT ++ (wPlan aD cI uD ++ (wPlay aY aP aS (mk_crs aC aO wQ) cI wY ++ (wPlan aP cI wP ++ (wStack aS cI wS ++ (wCourse aC cI wC ++ (wCourse aO cI uO ++ (wActs aA cI wA ++ (wMeans aM cJ uM))))))))))) A) args s 0 0 A) 0 (wChan aZ aR aT aD aY aP aC aO aA aM ++ (wReader aR aT aD uR ++ (wTape aT cI uT ++ (wPlan aD cI uD ++ (wPlay aY aP aS (mk_crs aC aO uQ) cI uY ++ (wPlan aP cI uP ++ (wStack aS cI uS ++ (wCourse aC cI uC ++ (wCourse aO cI uO ++ (wActs aA cI uA ++ (wMeans aM cJ uM))))))))))) [(0, .ref (aZ 0)), (1, .int p1), (2, .int p2), (3, .int p3)] []
  unfold f_Z_add at hf
  refine mk_aload_n C 0 dX8_add_0 rfl ?_
  refine mk_get C mk_inX8 0 rfl rfl 4 (by decide) mw_346 (v := .ref (aP 0)) rfl dX8_add_1 ?_
  obtain ⟨r1, h2, hf⟩ := b1_some hf
  refine mk_callVi C (c_P_stands l D cI cJ X Y aP uP r1 h2) mw_693 mw_694 mw_695 mw_4 mw_696 mkn_X3_stands rfl ⟨Nat.le_of_ble_eq_true rfl, Nat.le_of_ble_eq_true rfl⟩ 12 rfl rfl rfl (fr_Z_P cI cJ aZ aR aT aD aY aP aS aC aO aA aM uQ uR uT uD uY uP uS uC uO uA uM uP) (Nat.le_of_ble_eq_true rfl) dX8_add_4 rfl ?_
  refine mk_if_eq C 32 dX8_add_7 (by decide) (fun c3 => ?_) (fun c3 => ?_)
  · replace hf := (if_pos c3).symm.trans hf
    refine mk_bipush C (v := (-2)) dX8_add_32 (by decide) ?_
    have e := Option.some.inj hf
    simp only [Prod.mk.injEq] at e
    obtain ⟨e0, e1, e2, e3, e4, e5, e6⟩ := e
    exact mk_iret C hr hlk e0 (by rw [← e1, ← e2, ← e3, ← e4, ← e5, ← e6]) dX8_add_34
  · replace hf := (if_neg c3).symm.trans hf
    refine mk_iload_n C 1 dX8_add_10 rfl ?_
    refine mk_if_lt C 32 dX8_add_11 (by decide) (fun c4 => ?_) (fun c4 => ?_)
    · replace hf := (if_pos c4).symm.trans hf
      refine mk_bipush C (v := (-2)) dX8_add_32 (by decide) ?_
      have e := Option.some.inj hf
      simp only [Prod.mk.injEq] at e
      obtain ⟨e0, e1, e2, e3, e4, e5, e6⟩ := e
      exact mk_iret C hr hlk e0 (by rw [← e1, ← e2, ← e3, ← e4, ← e5, ← e6]) dX8_add_34
    · replace hf := (if_neg c4).symm.trans hf
      refine mk_iload_n C 1 dX8_add_14 rfl ?_
      refine mk_sipush C (v := 200) dX8_add_15 (by decide) ?_
      refine mk_icmp_ge C 32 dX8_add_18 (by decide) (fun c5 => ?_) (fun c5 => ?_)
      · replace hf := (if_pos c5).symm.trans hf
        refine mk_bipush C (v := (-2)) dX8_add_32 (by decide) ?_
        have e := Option.some.inj hf
        simp only [Prod.mk.injEq] at e
        obtain ⟨e0, e1, e2, e3, e4, e5, e6⟩ := e
        exact mk_iret C hr hlk e0 (by rw [← e1, ← e2, ← e3, ← e4, ← e5, ← e6]) dX8_add_34
      · replace hf := (if_neg c5).symm.trans hf
        refine mk_iload_n C 3 dX8_add_21 rfl ?_
        refine mk_iconst C (v := 1) dX8_add_22 (by decide) ?_
        refine mk_icmp_lt C 32 dX8_add_23 (by decide) (fun c6 => ?_) (fun c6 => ?_)
        · replace hf := (if_pos c6).symm.trans hf
          refine mk_bipush C (v := (-2)) dX8_add_32 (by decide) ?_
          have e := Option.some.inj hf
          simp only [Prod.mk.injEq] at e
          obtain ⟨e0, e1, e2, e3, e4, e5, e6⟩ := e
          exact mk_iret C hr hlk e0 (by rw [← e1, ← e2, ← e3, ← e4, ← e5, ← e6]) dX8_add_34
        · replace hf := (if_neg c6).symm.trans hf
          refine mk_iload_n C 3 dX8_add_26 rfl ?_
          refine mk_bipush C (v := 12) dX8_add_27 (by decide) ?_
          refine mk_icmp_le C 35 dX8_add_29 (by decide) (fun c7 => ?_) (fun c7 => ?_)
          · replace hf := (if_pos c7).symm.trans hf
            refine mk_iload_n C 2 dX8_add_35 rfl ?_
            refine mk_if_lt C 46 dX8_add_36 (by decide) (fun c8 => ?_) (fun c8 => ?_)
            · replace hf := (if_pos c8).symm.trans hf
              refine mk_bipush C (v := (-2)) dX8_add_46 (by decide) ?_
              have e := Option.some.inj hf
              simp only [Prod.mk.injEq] at e
              obtain ⟨e0, e1, e2, e3, e4, e5, e6⟩ := e
              exact mk_iret C hr hlk e0 (by rw [← e1, ← e2, ← e3, ← e4, ← e5, ← e6]) dX8_add_48
            · replace hf := (if_neg c8).symm.trans hf
              refine mk_iload_n C 2 dX8_add_39 rfl ?_
              refine mk_iconst C (v := 1) dX8_add_40 (by decide) ?_
              refine mk_iload_n C 3 dX8_add_41 rfl ?_
              refine mk_ishl C dX8_add_42 ?_
              refine mk_icmp_lt C 49 dX8_add_43 (by decide) (fun c9 => ?_) (fun c9 => ?_)
              · replace hf := (if_pos c9).symm.trans hf
                refine mk_aload_n C 0 dX8_add_49 rfl ?_
                refine mk_get C mk_inX8 0 rfl rfl 4 (by decide) mw_346 (v := .ref (aP 0)) rfl dX8_add_50 ?_
                refine mk_get C mk_inX3 12 rfl rfl 5 (by decide) mw_78 (v := .int (uP 5 0)) rfl dX8_add_53 ?_
                refine mk_bipush C (v := 10) dX8_add_56 (by decide) ?_
                refine mk_icmp_ge C 73 dX8_add_58 (by decide) (fun c10 => ?_) (fun c10 => ?_)
                · replace hf := (if_pos c10).symm.trans hf
                  refine mk_bipush C (v := (-5)) dX8_add_73 (by decide) ?_
                  have e := Option.some.inj hf
                  simp only [Prod.mk.injEq] at e
                  obtain ⟨e0, e1, e2, e3, e4, e5, e6⟩ := e
                  exact mk_iret C hr hlk e0 (by rw [← e1, ← e2, ← e3, ← e4, ← e5, ← e6]) dX8_add_75
                · replace hf := (if_neg c10).symm.trans hf
                  refine mk_aload_n C 0 dX8_add_61 rfl ?_
                  refine mk_get C mk_inX8 0 rfl rfl 7 (by decide) mw_349 (v := .ref (aA 0)) rfl dX8_add_62 ?_
                  refine mk_get C mk_inX0 48 rfl rfl 2 (by decide) mw_307 (v := .int (uA 2 0)) rfl dX8_add_65 ?_
                  refine mk_bipush C (v := 20) dX8_add_68 (by decide) ?_
                  refine mk_icmp_lt C 76 dX8_add_70 (by decide) (fun c11 => ?_) (fun c11 => ?_)
                  · replace hf := (if_pos c11).symm.trans hf
                    refine mk_aload_n C 0 dX8_add_76 rfl ?_
                    refine mk_get C mk_inX8 0 rfl rfl 4 (by decide) mw_346 (v := .ref (aP 0)) rfl dX8_add_77 ?_
                    refine mk_iload_n C 1 dX8_add_80 rfl ?_
                    refine mk_iload_n C 2 dX8_add_81 rfl ?_
                    refine mk_iload_n C 3 dX8_add_82 rfl ?_
                    obtain ⟨uP_12, h13, hf⟩ := b1_some hf
                    refine mk_callVv C (c_P_addSender l D cI cJ X Y aP uP p1 p2 p3 uP_12 h13) mw_867 mw_504 mw_505 mw_4 mw_506 mkn_X3_addSender rfl ⟨Nat.le_of_ble_eq_true rfl, Nat.le_of_ble_eq_true rfl⟩ 12 rfl rfl rfl (fr_Z_P cI cJ aZ aR aT aD aY aP aS aC aO aA aM uQ uR uT uD uY uP uS uC uO uA uM uP_12) (Nat.le_of_ble_eq_true rfl) dX8_add_83 rfl ?_
                    refine mk_aload_n C 0 dX8_add_86 rfl ?_
                    refine mk_get C mk_inX8 0 rfl rfl 7 (by decide) mw_349 (v := .ref (aA 0)) rfl dX8_add_87 ?_
                    refine mk_iconst C (v := 0) dX8_add_90 (by decide) ?_
                    refine mk_aload_n C 0 dX8_add_91 rfl ?_
                    refine mk_get C mk_inX8 0 rfl rfl 4 (by decide) mw_346 (v := .ref (aP 0)) rfl dX8_add_92 ?_
                    refine mk_get C mk_inX3 12 rfl rfl 0 (by decide) mw_58 (v := .int (uP_12 0 0)) rfl dX8_add_95 ?_
                    obtain ⟨uA_14, h15, hf⟩ := b1_some hf
                    refine mk_callVv C (c_A_note l D cI cJ X Y aA uA 0 (uP_12 0 0) uA_14 h15) mw_868 mw_869 mw_870 mw_8 mw_871 mkn_X0_note rfl ⟨Nat.le_of_ble_eq_true rfl, Nat.le_of_ble_eq_true rfl⟩ 48 rfl rfl rfl (fr_Z_A cI cJ aZ aR aT aD aY aP aS aC aO aA aM uQ uR uT uD uY uP_12 uS uC uO uA uM uA_14) (Nat.le_of_ble_eq_true rfl) dX8_add_98 rfl ?_
                    refine mk_aload_n C 0 dX8_add_101 rfl ?_
                    refine mk_get C mk_inX8 0 rfl rfl 3 (by decide) mw_345 (v := .ref (aY 0)) rfl dX8_add_102 ?_
                    refine mk_aload_n C 0 dX8_add_105 rfl ?_
                    refine mk_get C mk_inX8 0 rfl rfl 5 (by decide) mw_347 (v := .ref (aC 0)) rfl dX8_add_106 ?_
                    refine mk_aload_n C 0 dX8_add_109 rfl ?_
                    refine mk_get C mk_inX8 0 rfl rfl 4 (by decide) mw_346 (v := .ref (aP 0)) rfl dX8_add_110 ?_
                    refine mk_get C mk_inX3 12 rfl rfl 0 (by decide) mw_58 (v := .int (uP_12 0 0)) rfl dX8_add_113 ?_
                    refine mk_iconst C (v := (-1)) dX8_add_116 (by decide) ?_
                    refine mk_iconst C (v := (-1)) dX8_add_117 (by decide) ?_
                    obtain ⟨r16, uY_17, uS_18, uC_19, h20, hf⟩ := b4_some hf
                    refine mk_callVi C (c_Y_run l D cI cJ X Y aY aP aS aC (mk_crs aC aO uQ) uY uP_12 uS uC (uP_12 0 0) (-1) (-1) r16 uY_17 uS_18 uC_19 h20) mw_537 mw_538 mw_539 mw_5 mw_540 mkn_X4_run rfl ⟨Nat.le_of_ble_eq_true rfl, Nat.le_of_ble_eq_true rfl⟩ 10 rfl rfl rfl (fr_Z_YPSC_run cI cJ aZ aR aT aD aY aP aS aC aO aA aM uQ uR uT uD uY uP_12 uS uC uO uA_14 uM uY_17 uP_12 uS_18 uC_19) (Nat.le_of_ble_eq_true rfl) dX8_add_118 rfl ?_
                    have e := Option.some.inj hf
                    simp only [Prod.mk.injEq] at e
                    obtain ⟨e0, e1, e2, e3, e4, e5, e6⟩ := e
                    exact mk_iret C hr hlk e0 (by rw [← e1, ← e2, ← e3, ← e4, ← e5, ← e6]) dX8_add_121
                  · replace hf := (if_neg c11).symm.trans hf
                    refine mk_bipush C (v := (-5)) dX8_add_73 (by decide) ?_
                    have e := Option.some.inj hf
                    simp only [Prod.mk.injEq] at e
                    obtain ⟨e0, e1, e2, e3, e4, e5, e6⟩ := e
                    exact mk_iret C hr hlk e0 (by rw [← e1, ← e2, ← e3, ← e4, ← e5, ← e6]) dX8_add_75
              · replace hf := (if_neg c9).symm.trans hf
                refine mk_bipush C (v := (-2)) dX8_add_46 (by decide) ?_
                have e := Option.some.inj hf
                simp only [Prod.mk.injEq] at e
                obtain ⟨e0, e1, e2, e3, e4, e5, e6⟩ := e
                exact mk_iret C hr hlk e0 (by rw [← e1, ← e2, ← e3, ← e4, ← e5, ← e6]) dX8_add_48
          · replace hf := (if_neg c7).symm.trans hf
            refine mk_bipush C (v := (-2)) dX8_add_32 (by decide) ?_
            have e := Option.some.inj hf
            simp only [Prod.mk.injEq] at e
            obtain ⟨e0, e1, e2, e3, e4, e5, e6⟩ := e
            exact mk_iret C hr hlk e0 (by rw [← e1, ← e2, ← e3, ← e4, ← e5, ← e6]) dX8_add_34
set_option maxHeartbeats 40000000 in
set_option maxRecDepth 100000 in
theorem c_Z_disturb (l : Launch) (D : va_G) (cI cJ : ClassId) (X Y : Nat → Nat) (aZ aR aT aD aY aP aS aC aO aA aM : Nat → Nat) (uQ : Nat) (uR : Nat → Nat → Int32) (uT : Nat → Nat → Int32) (uD : Nat → Nat → Int32) (uY : Nat → Nat → Int32) (uP : Nat → Nat → Int32) (uS : Nat → Nat → Int32) (uC : Nat → Nat → Int32) (uO : Nat → Nat → Int32) (uA : Nat → Nat → Int32) (uM : Nat → Nat → Int64) (p1 : Int32) (p2 : Int32) (r : Int32) (wQ : Nat) (wY : Nat → Nat → Int32) (wP : Nat → Nat → Int32) (wS : Nat → Nat → Int32) (wC : Nat → Nat → Int32) (wA : Nat → Nat → Int32) (hf : f_Z_disturb uQ uY uP uS uC uA p1 p2 = some (r, wQ, wY, wP, wS, wC, wA)) : mk_Met l yX8_disturb cX8_disturb 3 (some .int) ({ frames := 6, cells := 0, slots := 0, locals := 142 }) D [(cI, .int), (cJ, .long)] X Y [.ref (aZ 0), .int p1, .int p2] (wChan aZ aR aT aD aY aP aC aO aA aM ++ (wReader aR aT aD uR ++ (wTape aT cI uT ++ (wPlan aD cI uD ++ (wPlay aY aP aS (mk_crs aC aO uQ) cI uY ++ (wPlan aP cI uP ++ (wStack aS cI uS ++ (wCourse aC cI uC ++ (wCourse aO cI uO ++ (wActs aA cI uA ++ (wMeans aM cJ uM))))))))))) (wChan aZ aR aT aD aY aP aC aO aA aM ++ (wReader aR aT aD uR ++ (wTape aT cI uT ++ (wPlan aD cI uD ++ (wPlay aY aP aS (mk_crs aC aO wQ) cI wY ++ (wPlan aP cI wP ++ (wStack aS cI wS ++ (wCourse aC cI wC ++ (wCourse aO cI uO ++ (wActs aA cI wA ++ (wMeans aM cJ uM))))))))))) (some (.int r)) 0 0 := by
  refine mk_start (own := RX8) (by decide) rfl (Nat.le_of_ble_eq_true rfl) ?_
  intro sz p e s m args below meth c A C hr hlk hnm
  replace C : mk_Cx p s m args c cX8_disturb 3 RX8 D [(cI, .int), (cJ, .long)] X Y A := C
  show mk_Go p l e (headSpec (mk_ws yX8_disturb cX8_disturb 3 (some .int)) ({ frames := 6, cells := 0, slots := 0, locals := 142 })).room s m args below meth c D A 3 0 0 (MQ below (mk_Q (some (.int r)) D (wChan aZ aR aT aD aY aP aC aO aA aM ++ (wReader aR aT aD uR ++ (wTape aT cI uT ++ (wPlan aD cI uD ++ (wPlay aY aP aS (mk_crs aC aO wQ) cI wY ++ (wPlan aP cI wP ++ (wStack aS cI wS ++ (wCourse aC cI wC ++ (wCourse aO cI uO ++ (wActs aA cI wA ++ (wMeans aM cJ uM))))))))))) A) args s 0 0 A) 0 (wChan aZ aR aT aD aY aP aC aO aA aM ++ (wReader aR aT aD uR ++ (wTape aT cI uT ++ (wPlan aD cI uD ++ (wPlay aY aP aS (mk_crs aC aO uQ) cI uY ++ (wPlan aP cI uP ++ (wStack aS cI uS ++ (wCourse aC cI uC ++ (wCourse aO cI uO ++ (wActs aA cI uA ++ (wMeans aM cJ uM))))))))))) [(0, .ref (aZ 0)), (1, .int p1), (2, .int p2)] []
  unfold f_Z_disturb at hf
  refine mk_aload_n C 0 dX8_disturb_0 rfl ?_
  refine mk_get C mk_inX8 0 rfl rfl 4 (by decide) mw_346 (v := .ref (aP 0)) rfl dX8_disturb_1 ?_
  obtain ⟨r1, h2, hf⟩ := b1_some hf
  refine mk_callVi C (c_P_stands l D cI cJ X Y aP uP r1 h2) mw_693 mw_694 mw_695 mw_4 mw_696 mkn_X3_stands rfl ⟨Nat.le_of_ble_eq_true rfl, Nat.le_of_ble_eq_true rfl⟩ 12 rfl rfl rfl (fr_Z_P cI cJ aZ aR aT aD aY aP aS aC aO aA aM uQ uR uT uD uY uP uS uC uO uA uM uP) (Nat.le_of_ble_eq_true rfl) dX8_disturb_4 rfl ?_
  refine mk_if_eq C 30 dX8_disturb_7 (by decide) (fun c3 => ?_) (fun c3 => ?_)
  · replace hf := (if_pos c3).symm.trans hf
    refine mk_bipush C (v := (-2)) dX8_disturb_30 (by decide) ?_
    have e := Option.some.inj hf
    simp only [Prod.mk.injEq] at e
    obtain ⟨e0, e1, e2, e3, e4, e5, e6⟩ := e
    exact mk_iret C hr hlk e0 (by rw [← e1, ← e2, ← e3, ← e4, ← e5, ← e6]) dX8_disturb_32
  · replace hf := (if_neg c3).symm.trans hf
    refine mk_iload_n C 1 dX8_disturb_10 rfl ?_
    refine mk_if_lt C 30 dX8_disturb_11 (by decide) (fun c4 => ?_) (fun c4 => ?_)
    · replace hf := (if_pos c4).symm.trans hf
      refine mk_bipush C (v := (-2)) dX8_disturb_30 (by decide) ?_
      have e := Option.some.inj hf
      simp only [Prod.mk.injEq] at e
      obtain ⟨e0, e1, e2, e3, e4, e5, e6⟩ := e
      exact mk_iret C hr hlk e0 (by rw [← e1, ← e2, ← e3, ← e4, ← e5, ← e6]) dX8_disturb_32
    · replace hf := (if_neg c4).symm.trans hf
      refine mk_iload_n C 1 dX8_disturb_14 rfl ?_
      refine mk_sipush C (v := 200) dX8_disturb_15 (by decide) ?_
      refine mk_icmp_ge C 30 dX8_disturb_18 (by decide) (fun c5 => ?_) (fun c5 => ?_)
      · replace hf := (if_pos c5).symm.trans hf
        refine mk_bipush C (v := (-2)) dX8_disturb_30 (by decide) ?_
        have e := Option.some.inj hf
        simp only [Prod.mk.injEq] at e
        obtain ⟨e0, e1, e2, e3, e4, e5, e6⟩ := e
        exact mk_iret C hr hlk e0 (by rw [← e1, ← e2, ← e3, ← e4, ← e5, ← e6]) dX8_disturb_32
      · replace hf := (if_neg c5).symm.trans hf
        refine mk_iload_n C 2 dX8_disturb_21 rfl ?_
        refine mk_if_lt C 30 dX8_disturb_22 (by decide) (fun c6 => ?_) (fun c6 => ?_)
        · replace hf := (if_pos c6).symm.trans hf
          refine mk_bipush C (v := (-2)) dX8_disturb_30 (by decide) ?_
          have e := Option.some.inj hf
          simp only [Prod.mk.injEq] at e
          obtain ⟨e0, e1, e2, e3, e4, e5, e6⟩ := e
          exact mk_iret C hr hlk e0 (by rw [← e1, ← e2, ← e3, ← e4, ← e5, ← e6]) dX8_disturb_32
        · replace hf := (if_neg c6).symm.trans hf
          refine mk_iload_n C 2 dX8_disturb_25 rfl ?_
          refine mk_iconst C (v := 2) dX8_disturb_26 (by decide) ?_
          refine mk_icmp_le C 33 dX8_disturb_27 (by decide) (fun c7 => ?_) (fun c7 => ?_)
          · replace hf := (if_pos c7).symm.trans hf
            refine mk_aload_n C 0 dX8_disturb_33 rfl ?_
            refine mk_get C mk_inX8 0 rfl rfl 4 (by decide) mw_346 (v := .ref (aP 0)) rfl dX8_disturb_34 ?_
            refine mk_iload_n C 1 dX8_disturb_37 rfl ?_
            obtain ⟨r8, h9, hf⟩ := b1_some hf
            refine mk_callVi C (c_P_isNoisy l D cI cJ X Y aP uP p1 r8 h9) mw_877 mw_514 mw_515 mw_4 mw_516 mkn_X3_isNoisy rfl ⟨Nat.le_of_ble_eq_true rfl, Nat.le_of_ble_eq_true rfl⟩ 12 rfl rfl rfl (fr_Z_P cI cJ aZ aR aT aD aY aP aS aC aO aA aM uQ uR uT uD uY uP uS uC uO uA uM uP) (Nat.le_of_ble_eq_true rfl) dX8_disturb_38 rfl ?_
            refine mk_if_ne C 68 dX8_disturb_41 (by decide) (fun c10 => ?_) (fun c10 => ?_)
            · replace hf := (if_neg c10).symm.trans hf
              refine mk_bipush C (v := (-5)) dX8_disturb_68 (by decide) ?_
              have e := Option.some.inj hf
              simp only [Prod.mk.injEq] at e
              obtain ⟨e0, e1, e2, e3, e4, e5, e6⟩ := e
              exact mk_iret C hr hlk e0 (by rw [← e1, ← e2, ← e3, ← e4, ← e5, ← e6]) dX8_disturb_70
            · replace hf := (if_pos c10).symm.trans hf
              refine mk_aload_n C 0 dX8_disturb_44 rfl ?_
              refine mk_get C mk_inX8 0 rfl rfl 4 (by decide) mw_346 (v := .ref (aP 0)) rfl dX8_disturb_45 ?_
              refine mk_get C mk_inX3 12 rfl rfl 6 (by decide) mw_82 (v := .int (uP 6 0)) rfl dX8_disturb_48 ?_
              refine mk_bipush C (v := 10) dX8_disturb_51 (by decide) ?_
              refine mk_icmp_ge C 68 dX8_disturb_53 (by decide) (fun c11 => ?_) (fun c11 => ?_)
              · replace hf := (if_pos c11).symm.trans hf
                refine mk_bipush C (v := (-5)) dX8_disturb_68 (by decide) ?_
                have e := Option.some.inj hf
                simp only [Prod.mk.injEq] at e
                obtain ⟨e0, e1, e2, e3, e4, e5, e6⟩ := e
                exact mk_iret C hr hlk e0 (by rw [← e1, ← e2, ← e3, ← e4, ← e5, ← e6]) dX8_disturb_70
              · replace hf := (if_neg c11).symm.trans hf
                refine mk_aload_n C 0 dX8_disturb_56 rfl ?_
                refine mk_get C mk_inX8 0 rfl rfl 7 (by decide) mw_349 (v := .ref (aA 0)) rfl dX8_disturb_57 ?_
                refine mk_get C mk_inX0 48 rfl rfl 2 (by decide) mw_307 (v := .int (uA 2 0)) rfl dX8_disturb_60 ?_
                refine mk_bipush C (v := 20) dX8_disturb_63 (by decide) ?_
                refine mk_icmp_lt C 71 dX8_disturb_65 (by decide) (fun c12 => ?_) (fun c12 => ?_)
                · replace hf := (if_pos c12).symm.trans hf
                  refine mk_aload_n C 0 dX8_disturb_71 rfl ?_
                  refine mk_get C mk_inX8 0 rfl rfl 4 (by decide) mw_346 (v := .ref (aP 0)) rfl dX8_disturb_72 ?_
                  refine mk_iload_n C 1 dX8_disturb_75 rfl ?_
                  refine mk_iload_n C 2 dX8_disturb_76 rfl ?_
                  obtain ⟨uP_13, h14, hf⟩ := b1_some hf
                  refine mk_callVv C (c_P_addNoise l D cI cJ X Y aP uP p1 p2 uP_13 h14) mw_878 mw_527 mw_528 mw_4 mw_529 mkn_X3_addNoise rfl ⟨Nat.le_of_ble_eq_true rfl, Nat.le_of_ble_eq_true rfl⟩ 12 rfl rfl rfl (fr_Z_P cI cJ aZ aR aT aD aY aP aS aC aO aA aM uQ uR uT uD uY uP uS uC uO uA uM uP_13) (Nat.le_of_ble_eq_true rfl) dX8_disturb_77 rfl ?_
                  refine mk_aload_n C 0 dX8_disturb_80 rfl ?_
                  refine mk_get C mk_inX8 0 rfl rfl 7 (by decide) mw_349 (v := .ref (aA 0)) rfl dX8_disturb_81 ?_
                  refine mk_iconst C (v := 1) dX8_disturb_84 (by decide) ?_
                  refine mk_aload_n C 0 dX8_disturb_85 rfl ?_
                  refine mk_get C mk_inX8 0 rfl rfl 4 (by decide) mw_346 (v := .ref (aP 0)) rfl dX8_disturb_86 ?_
                  refine mk_get C mk_inX3 12 rfl rfl 0 (by decide) mw_58 (v := .int (uP_13 0 0)) rfl dX8_disturb_89 ?_
                  obtain ⟨uA_15, h16, hf⟩ := b1_some hf
                  refine mk_callVv C (c_A_note l D cI cJ X Y aA uA 1 (uP_13 0 0) uA_15 h16) mw_868 mw_869 mw_870 mw_8 mw_871 mkn_X0_note rfl ⟨Nat.le_of_ble_eq_true rfl, Nat.le_of_ble_eq_true rfl⟩ 48 rfl rfl rfl (fr_Z_A cI cJ aZ aR aT aD aY aP aS aC aO aA aM uQ uR uT uD uY uP_13 uS uC uO uA uM uA_15) (Nat.le_of_ble_eq_true rfl) dX8_disturb_92 rfl ?_
                  refine mk_aload_n C 0 dX8_disturb_95 rfl ?_
                  refine mk_get C mk_inX8 0 rfl rfl 3 (by decide) mw_345 (v := .ref (aY 0)) rfl dX8_disturb_96 ?_
                  refine mk_aload_n C 0 dX8_disturb_99 rfl ?_
                  refine mk_get C mk_inX8 0 rfl rfl 5 (by decide) mw_347 (v := .ref (aC 0)) rfl dX8_disturb_100 ?_
                  refine mk_aload_n C 0 dX8_disturb_103 rfl ?_
                  refine mk_get C mk_inX8 0 rfl rfl 4 (by decide) mw_346 (v := .ref (aP 0)) rfl dX8_disturb_104 ?_
                  refine mk_get C mk_inX3 12 rfl rfl 0 (by decide) mw_58 (v := .int (uP_13 0 0)) rfl dX8_disturb_107 ?_
                  refine mk_iconst C (v := (-1)) dX8_disturb_110 (by decide) ?_
                  refine mk_iconst C (v := (-1)) dX8_disturb_111 (by decide) ?_
                  obtain ⟨r17, uY_18, uS_19, uC_20, h21, hf⟩ := b4_some hf
                  refine mk_callVi C (c_Y_run l D cI cJ X Y aY aP aS aC (mk_crs aC aO uQ) uY uP_13 uS uC (uP_13 0 0) (-1) (-1) r17 uY_18 uS_19 uC_20 h21) mw_537 mw_538 mw_539 mw_5 mw_540 mkn_X4_run rfl ⟨Nat.le_of_ble_eq_true rfl, Nat.le_of_ble_eq_true rfl⟩ 10 rfl rfl rfl (fr_Z_YPSC_run cI cJ aZ aR aT aD aY aP aS aC aO aA aM uQ uR uT uD uY uP_13 uS uC uO uA_15 uM uY_18 uP_13 uS_19 uC_20) (Nat.le_of_ble_eq_true rfl) dX8_disturb_112 rfl ?_
                  have e := Option.some.inj hf
                  simp only [Prod.mk.injEq] at e
                  obtain ⟨e0, e1, e2, e3, e4, e5, e6⟩ := e
                  exact mk_iret C hr hlk e0 (by rw [← e1, ← e2, ← e3, ← e4, ← e5, ← e6]) dX8_disturb_115
                · replace hf := (if_neg c12).symm.trans hf
                  refine mk_bipush C (v := (-5)) dX8_disturb_68 (by decide) ?_
                  have e := Option.some.inj hf
                  simp only [Prod.mk.injEq] at e
                  obtain ⟨e0, e1, e2, e3, e4, e5, e6⟩ := e
                  exact mk_iret C hr hlk e0 (by rw [← e1, ← e2, ← e3, ← e4, ← e5, ← e6]) dX8_disturb_70
          · replace hf := (if_neg c7).symm.trans hf
            refine mk_bipush C (v := (-2)) dX8_disturb_30 (by decide) ?_
            have e := Option.some.inj hf
            simp only [Prod.mk.injEq] at e
            obtain ⟨e0, e1, e2, e3, e4, e5, e6⟩ := e
            exact mk_iret C hr hlk e0 (by rw [← e1, ← e2, ← e3, ← e4, ← e5, ← e6]) dX8_disturb_32
