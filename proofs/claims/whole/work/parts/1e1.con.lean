set_option maxHeartbeats 40000000 in
set_option maxRecDepth 100000 in
theorem c_Z_feed (l : Launch) (D : va_G) (cI cJ : ClassId) (X Y : Nat → Nat) (aZ aR aT aD aY aP aS aC aO aA aM : Nat → Nat) (uQ : Nat) (uR : Nat → Nat → Int32) (uT : Nat → Nat → Int32) (uD : Nat → Nat → Int32) (uY : Nat → Nat → Int32) (uP : Nat → Nat → Int32) (uS : Nat → Nat → Int32) (uC : Nat → Nat → Int32) (uO : Nat → Nat → Int32) (uA : Nat → Nat → Int32) (uM : Nat → Nat → Int64) (p1 : Int32) (p2 : Int32) (p3 : Int32) (p4 : Int32) (p5 : Int32) (r : Int32) (wT : Nat → Nat → Int32) (hf : f_Z_feed uT p1 p2 p3 p4 p5 = some (r, wT)) : mk_Met l yX8_feed cX8_feed 6 (some .int) ({ frames := 2, cells := 0, slots := 0, locals := 44 }) D [(cI, .int), (cJ, .long)] X Y [.ref (aZ 0), .int p1, .int p2, .int p3, .int p4, .int p5] (wChan aZ aR aT aD aY aP aC aO aA aM ++ (wReader aR aT aD uR ++ (wTape aT cI uT ++ (wPlan aD cI uD ++ (wPlay aY aP aS (mk_crs aC aO uQ) cI uY ++ (wPlan aP cI uP ++ (wStack aS cI uS ++ (wCourse aC cI uC ++ (wCourse aO cI uO ++ (wActs aA cI uA ++ (wMeans aM cJ uM))))))))))) (wChan aZ aR aT aD aY aP aC aO aA aM ++ (wReader aR aT aD uR ++ (wTape aT cI wT ++ (wPlan aD cI uD ++ (wPlay aY aP aS (mk_crs aC aO uQ) cI uY ++ (wPlan aP cI uP ++ (wStack aS cI uS ++ (wCourse aC cI uC ++ (wCourse aO cI uO ++ (wActs aA cI uA ++ (wMeans aM cJ uM))))))))))) (some (.int r)) 0 0 := by
  refine mk_start (own := RX8) (by decide) rfl (Nat.le_of_ble_eq_true rfl) ?_
  intro sz p e s m args below meth c A C hr hlk hnm
  replace C : mk_Cx p s m args c cX8_feed 6 RX8 D [(cI, .int), (cJ, .long)] X Y A := C
  show mk_Go p l e (headSpec (mk_ws yX8_feed cX8_feed 6 (some .int)) ({ frames := 2, cells := 0, slots := 0, locals := 44 })).room s m args below meth c D A 6 0 0 (MQ below (mk_Q (some (.int r)) D (wChan aZ aR aT aD aY aP aC aO aA aM ++ (wReader aR aT aD uR ++ (wTape aT cI wT ++ (wPlan aD cI uD ++ (wPlay aY aP aS (mk_crs aC aO uQ) cI uY ++ (wPlan aP cI uP ++ (wStack aS cI uS ++ (wCourse aC cI uC ++ (wCourse aO cI uO ++ (wActs aA cI uA ++ (wMeans aM cJ uM))))))))))) A) args s 0 0 A) 0 (wChan aZ aR aT aD aY aP aC aO aA aM ++ (wReader aR aT aD uR ++ (wTape aT cI uT ++ (wPlan aD cI uD ++ (wPlay aY aP aS (mk_crs aC aO uQ) cI uY ++ (wPlan aP cI uP ++ (wStack aS cI uS ++ (wCourse aC cI uC ++ (wCourse aO cI uO ++ (wActs aA cI uA ++ (wMeans aM cJ uM))))))))))) [(0, .ref (aZ 0)), (1, .int p1), (2, .int p2), (3, .int p3), (4, .int p4), (5, .int p5)] []
  unfold f_Z_feed at hf
  refine mk_aload_n C 0 dX8_feed_0 rfl ?_
  refine mk_get C mk_inX8 0 rfl rfl 1 (by decide) mw_343 (v := .ref (aT 0)) rfl dX8_feed_1 ?_
  refine mk_get C mk_inX7 2 rfl rfl 1 (by decide) mw_40 (v := .int (uT 1 0)) rfl dX8_feed_4 ?_
  refine mk_bipush C (v := 20) dX8_feed_7 (by decide) ?_
  refine mk_iadd C dX8_feed_9 ?_
  refine mk_sipush C (v := 500) dX8_feed_10 (by decide) ?_
  refine mk_icmp_le C 18 dX8_feed_13 (by decide) (fun c1 => ?_) (fun c1 => ?_)
  · replace hf := (if_pos c1).symm.trans hf
    refine mk_aload_n C 0 dX8_feed_18 rfl ?_
    refine mk_get C mk_inX8 0 rfl rfl 1 (by decide) mw_343 (v := .ref (aT 0)) rfl dX8_feed_19 ?_
    refine mk_iload_n C 1 dX8_feed_22 rfl ?_
    obtain ⟨uT_2, h3, hf⟩ := b1_some hf
    refine mk_callVv C (c_T_append l D cI cJ X Y aT uT p1 uT_2 h3) mw_374 mw_375 mw_376 mw_3 mw_377 mkn_X7_append rfl ⟨Nat.le_of_ble_eq_true rfl, Nat.le_of_ble_eq_true rfl⟩ 2 rfl rfl rfl (fr_Z_T cI cJ aZ aR aT aD aY aP aS aC aO aA aM uQ uR uT uD uY uP uS uC uO uA uM uT_2) (Nat.le_of_ble_eq_true rfl) dX8_feed_23 rfl ?_
    refine mk_aload_n C 0 dX8_feed_26 rfl ?_
    refine mk_get C mk_inX8 0 rfl rfl 1 (by decide) mw_343 (v := .ref (aT 0)) rfl dX8_feed_27 ?_
    refine mk_iload_n C 2 dX8_feed_30 rfl ?_
    obtain ⟨uT_4, h5, hf⟩ := b1_some hf
    refine mk_callVv C (c_T_append l D cI cJ X Y aT uT_2 p2 uT_4 h5) mw_374 mw_375 mw_376 mw_3 mw_377 mkn_X7_append rfl ⟨Nat.le_of_ble_eq_true rfl, Nat.le_of_ble_eq_true rfl⟩ 2 rfl rfl rfl (fr_Z_T cI cJ aZ aR aT aD aY aP aS aC aO aA aM uQ uR uT_2 uD uY uP uS uC uO uA uM uT_4) (Nat.le_of_ble_eq_true rfl) dX8_feed_31 rfl ?_
    refine mk_aload_n C 0 dX8_feed_34 rfl ?_
    refine mk_get C mk_inX8 0 rfl rfl 1 (by decide) mw_343 (v := .ref (aT 0)) rfl dX8_feed_35 ?_
    refine mk_iload_n C 3 dX8_feed_38 rfl ?_
    obtain ⟨uT_6, h7, hf⟩ := b1_some hf
    refine mk_callVv C (c_T_append l D cI cJ X Y aT uT_4 p3 uT_6 h7) mw_374 mw_375 mw_376 mw_3 mw_377 mkn_X7_append rfl ⟨Nat.le_of_ble_eq_true rfl, Nat.le_of_ble_eq_true rfl⟩ 2 rfl rfl rfl (fr_Z_T cI cJ aZ aR aT aD aY aP aS aC aO aA aM uQ uR uT_4 uD uY uP uS uC uO uA uM uT_6) (Nat.le_of_ble_eq_true rfl) dX8_feed_39 rfl ?_
    refine mk_aload_n C 0 dX8_feed_42 rfl ?_
    refine mk_get C mk_inX8 0 rfl rfl 1 (by decide) mw_343 (v := .ref (aT 0)) rfl dX8_feed_43 ?_
    refine mk_iload C 4 dX8_feed_46 rfl ?_
    obtain ⟨uT_8, h9, hf⟩ := b1_some hf
    refine mk_callVv C (c_T_append l D cI cJ X Y aT uT_6 p4 uT_8 h9) mw_374 mw_375 mw_376 mw_3 mw_377 mkn_X7_append rfl ⟨Nat.le_of_ble_eq_true rfl, Nat.le_of_ble_eq_true rfl⟩ 2 rfl rfl rfl (fr_Z_T cI cJ aZ aR aT aD aY aP aS aC aO aA aM uQ uR uT_6 uD uY uP uS uC uO uA uM uT_8) (Nat.le_of_ble_eq_true rfl) dX8_feed_48 rfl ?_
    refine mk_aload_n C 0 dX8_feed_51 rfl ?_
    refine mk_get C mk_inX8 0 rfl rfl 1 (by decide) mw_343 (v := .ref (aT 0)) rfl dX8_feed_52 ?_
    refine mk_iload C 5 dX8_feed_55 rfl ?_
    obtain ⟨uT_10, h11, hf⟩ := b1_some hf
    refine mk_callVv C (c_T_append l D cI cJ X Y aT uT_8 p5 uT_10 h11) mw_374 mw_375 mw_376 mw_3 mw_377 mkn_X7_append rfl ⟨Nat.le_of_ble_eq_true rfl, Nat.le_of_ble_eq_true rfl⟩ 2 rfl rfl rfl (fr_Z_T cI cJ aZ aR aT aD aY aP aS aC aO aA aM uQ uR uT_8 uD uY uP uS uC uO uA uM uT_10) (Nat.le_of_ble_eq_true rfl) dX8_feed_57 rfl ?_
    refine mk_aload_n C 0 dX8_feed_60 rfl ?_
    refine mk_get C mk_inX8 0 rfl rfl 1 (by decide) mw_343 (v := .ref (aT 0)) rfl dX8_feed_61 ?_
    refine mk_get C mk_inX7 2 rfl rfl 1 (by decide) mw_40 (v := .int (uT_10 1 0)) rfl dX8_feed_64 ?_
    have e := Option.some.inj hf
    obtain ⟨e0, e1⟩ := Prod.mk.inj e
    exact mk_iret C hr hlk e0 (by rw [← e1]) dX8_feed_67
  · replace hf := (if_neg c1).symm.trans hf
    refine mk_iconst C (v := (-1)) dX8_feed_16 (by decide) ?_
    have e := Option.some.inj hf
    obtain ⟨e0, e1⟩ := Prod.mk.inj e
    exact mk_iret C hr hlk e0 (by rw [← e1]) dX8_feed_17
set_option maxHeartbeats 40000000 in
set_option maxRecDepth 100000 in
theorem c_Z_end (l : Launch) (D : va_G) (cI cJ : ClassId) (X Y : Nat → Nat) (aZ aR aT aD aY aP aS aC aO aA aM : Nat → Nat) (uQ : Nat) (uR : Nat → Nat → Int32) (uT : Nat → Nat → Int32) (uD : Nat → Nat → Int32) (uY : Nat → Nat → Int32) (uP : Nat → Nat → Int32) (uS : Nat → Nat → Int32) (uC : Nat → Nat → Int32) (uO : Nat → Nat → Int32) (uA : Nat → Nat → Int32) (uM : Nat → Nat → Int64) (p1 : Int32) (r : Int32) (wT : Nat → Nat → Int32) (hf : f_Z_end uT p1 = some (r, wT)) : mk_Met l yX8_end cX8_end 2 (some .int) ({ frames := 0, cells := 0, slots := 0, locals := 0 }) D [(cI, .int), (cJ, .long)] X Y [.ref (aZ 0), .int p1] (wChan aZ aR aT aD aY aP aC aO aA aM ++ (wReader aR aT aD uR ++ (wTape aT cI uT ++ (wPlan aD cI uD ++ (wPlay aY aP aS (mk_crs aC aO uQ) cI uY ++ (wPlan aP cI uP ++ (wStack aS cI uS ++ (wCourse aC cI uC ++ (wCourse aO cI uO ++ (wActs aA cI uA ++ (wMeans aM cJ uM))))))))))) (wChan aZ aR aT aD aY aP aC aO aA aM ++ (wReader aR aT aD uR ++ (wTape aT cI wT ++ (wPlan aD cI uD ++ (wPlay aY aP aS (mk_crs aC aO uQ) cI uY ++ (wPlan aP cI uP ++ (wStack aS cI uS ++ (wCourse aC cI uC ++ (wCourse aO cI uO ++ (wActs aA cI uA ++ (wMeans aM cJ uM))))))))))) (some (.int r)) 0 0 := by
  refine mk_start (own := RX8) (by decide) rfl (Nat.le_of_ble_eq_true rfl) ?_
  intro sz p e s m args below meth c A C hr hlk hnm
  replace C : mk_Cx p s m args c cX8_end 2 RX8 D [(cI, .int), (cJ, .long)] X Y A := C
  show mk_Go p l e (headSpec (mk_ws yX8_end cX8_end 2 (some .int)) ({ frames := 0, cells := 0, slots := 0, locals := 0 })).room s m args below meth c D A 2 0 0 (MQ below (mk_Q (some (.int r)) D (wChan aZ aR aT aD aY aP aC aO aA aM ++ (wReader aR aT aD uR ++ (wTape aT cI wT ++ (wPlan aD cI uD ++ (wPlay aY aP aS (mk_crs aC aO uQ) cI uY ++ (wPlan aP cI uP ++ (wStack aS cI uS ++ (wCourse aC cI uC ++ (wCourse aO cI uO ++ (wActs aA cI uA ++ (wMeans aM cJ uM))))))))))) A) args s 0 0 A) 0 (wChan aZ aR aT aD aY aP aC aO aA aM ++ (wReader aR aT aD uR ++ (wTape aT cI uT ++ (wPlan aD cI uD ++ (wPlay aY aP aS (mk_crs aC aO uQ) cI uY ++ (wPlan aP cI uP ++ (wStack aS cI uS ++ (wCourse aC cI uC ++ (wCourse aO cI uO ++ (wActs aA cI uA ++ (wMeans aM cJ uM))))))))))) [(0, .ref (aZ 0)), (1, .int p1)] []
  unfold f_Z_end at hf
  refine mk_iload_n C 1 dX8_end_0 rfl ?_
  refine mk_if_lt C 15 dX8_end_1 (by decide) (fun c1 => ?_) (fun c1 => ?_)
  · replace hf := (if_pos c1).symm.trans hf
    refine mk_iconst C (v := (-1)) dX8_end_15 (by decide) ?_
    have e := Option.some.inj hf
    obtain ⟨e0, e1⟩ := Prod.mk.inj e
    exact mk_iret C hr hlk e0 (by rw [← e1]) dX8_end_16
  · replace hf := (if_neg c1).symm.trans hf
    refine mk_iload_n C 1 dX8_end_4 rfl ?_
    refine mk_aload_n C 0 dX8_end_5 rfl ?_
    refine mk_get C mk_inX8 0 rfl rfl 1 (by decide) mw_343 (v := .ref (aT 0)) rfl dX8_end_6 ?_
    refine mk_get C mk_inX7 2 rfl rfl 1 (by decide) mw_40 (v := .int (uT 1 0)) rfl dX8_end_9 ?_
    refine mk_icmp_le C 17 dX8_end_12 (by decide) (fun c2 => ?_) (fun c2 => ?_)
    · replace hf := (if_pos c2).symm.trans hf
      refine mk_aload_n C 0 dX8_end_17 rfl ?_
      refine mk_get C mk_inX8 0 rfl rfl 1 (by decide) mw_343 (v := .ref (aT 0)) rfl dX8_end_18 ?_
      refine mk_iload_n C 1 dX8_end_21 rfl ?_
      refine mk_put C mk_inX7 tyX7 tyX7_ok nmX7 2 rfl rfl 1 (by decide) mw_40 rfl rfl rfl (Nat.le_of_ble_eq_true rfl) (ws' := (wChan aZ aR aT aD aY aP aC aO aA aM ++ (wReader aR aT aD uR ++ (wTape aT cI (upF 1 p1 uT) ++ (wPlan aD cI uD ++ (wPlay aY aP aS (mk_crs aC aO uQ) cI uY ++ (wPlan aP cI uP ++ (wStack aS cI uS ++ (wCourse aC cI uC ++ (wCourse aO cI uO ++ (wActs aA cI uA ++ (wMeans aM cJ uM)))))))))))) (st_ZRTDYPSCOAM_T_1 cI cJ aZ aR aT aD aY aP aS aC aO aA aM uQ uR uT uD uY uP uS uC uO uA uM p1) dX8_end_22 ?_
      refine mk_iload_n C 1 dX8_end_25 rfl ?_
      have e := Option.some.inj hf
      obtain ⟨e0, e1⟩ := Prod.mk.inj e
      exact mk_iret C hr hlk e0 (by rw [← e1]) dX8_end_26
    · replace hf := (if_neg c2).symm.trans hf
      refine mk_iconst C (v := (-1)) dX8_end_15 (by decide) ?_
      have e := Option.some.inj hf
      obtain ⟨e0, e1⟩ := Prod.mk.inj e
      exact mk_iret C hr hlk e0 (by rw [← e1]) dX8_end_16
set_option maxHeartbeats 40000000 in
set_option maxRecDepth 100000 in
theorem c_Z_channel (l : Launch) (D : va_G) (cI cJ : ClassId) (X Y : Nat → Nat) (aZ aR aT aD aY aP aS aC aO aA aM : Nat → Nat) (uQ : Nat) (uR : Nat → Nat → Int32) (uT : Nat → Nat → Int32) (uD : Nat → Nat → Int32) (uY : Nat → Nat → Int32) (uP : Nat → Nat → Int32) (uS : Nat → Nat → Int32) (uC : Nat → Nat → Int32) (uO : Nat → Nat → Int32) (uA : Nat → Nat → Int32) (uM : Nat → Nat → Int64) (r : Int32) (wQ : Nat) (wR : Nat → Nat → Int32) (wT : Nat → Nat → Int32) (wD : Nat → Nat → Int32) (wY : Nat → Nat → Int32) (wP : Nat → Nat → Int32) (wS : Nat → Nat → Int32) (wC : Nat → Nat → Int32) (wA : Nat → Nat → Int32) (hf : f_Z_channel uQ uR uT uD uY uP uS uC uA = some (r, wQ, wR, wT, wD, wY, wP, wS, wC, wA)) : mk_Met l yX8_channel cX8_channel 2 (some .int) ({ frames := 11, cells := 0, slots := 0, locals := 286 }) D [(cI, .int), (cJ, .long)] X Y [.ref (aZ 0)] (wChan aZ aR aT aD aY aP aC aO aA aM ++ (wReader aR aT aD uR ++ (wTape aT cI uT ++ (wPlan aD cI uD ++ (wPlay aY aP aS (mk_crs aC aO uQ) cI uY ++ (wPlan aP cI uP ++ (wStack aS cI uS ++ (wCourse aC cI uC ++ (wCourse aO cI uO ++ (wActs aA cI uA ++ (wMeans aM cJ uM))))))))))) (wChan aZ aR aT aD aY aP aC aO aA aM ++ (wReader aR aT aD wR ++ (wTape aT cI wT ++ (wPlan aD cI wD ++ (wPlay aY aP aS (mk_crs aC aO wQ) cI wY ++ (wPlan aP cI wP ++ (wStack aS cI wS ++ (wCourse aC cI wC ++ (wCourse aO cI uO ++ (wActs aA cI wA ++ (wMeans aM cJ uM))))))))))) (some (.int r)) 0 0 := by
  refine mk_start (own := RX8) (by decide) rfl (Nat.le_of_ble_eq_true rfl) ?_
  intro sz p e s m args below meth c A C hr hlk hnm
  replace C : mk_Cx p s m args c cX8_channel 2 RX8 D [(cI, .int), (cJ, .long)] X Y A := C
  show mk_Go p l e (headSpec (mk_ws yX8_channel cX8_channel 2 (some .int)) ({ frames := 11, cells := 0, slots := 0, locals := 286 })).room s m args below meth c D A 2 0 0 (MQ below (mk_Q (some (.int r)) D (wChan aZ aR aT aD aY aP aC aO aA aM ++ (wReader aR aT aD wR ++ (wTape aT cI wT ++ (wPlan aD cI wD ++ (wPlay aY aP aS (mk_crs aC aO wQ) cI wY ++ (wPlan aP cI wP ++ (wStack aS cI wS ++ (wCourse aC cI wC ++ (wCourse aO cI uO ++ (wActs aA cI wA ++ (wMeans aM cJ uM))))))))))) A) args s 0 0 A) 0 (wChan aZ aR aT aD aY aP aC aO aA aM ++ (wReader aR aT aD uR ++ (wTape aT cI uT ++ (wPlan aD cI uD ++ (wPlay aY aP aS (mk_crs aC aO uQ) cI uY ++ (wPlan aP cI uP ++ (wStack aS cI uS ++ (wCourse aC cI uC ++ (wCourse aO cI uO ++ (wActs aA cI uA ++ (wMeans aM cJ uM))))))))))) [(0, .ref (aZ 0))] []
  unfold f_Z_channel at hf
  refine mk_aload_n C 0 dX8_channel_0 rfl ?_
  refine mk_get C mk_inX8 0 rfl rfl 0 (by decide) mw_342 (v := .ref (aR 0)) rfl dX8_channel_1 ?_
  obtain ⟨r1, uR_2, uD_3, h4, hf⟩ := b3_some hf
  refine mk_callVi C (c_R_read l D cI cJ X Y aR aT aD uR uT uD r1 uR_2 uD_3 h4) mw_389 mw_390 mw_391 mw_2 mw_392 mkn_X5_read rfl ⟨Nat.le_of_ble_eq_true rfl, Nat.le_of_ble_eq_true rfl⟩ 1 rfl rfl rfl (fr_Z_RTD cI cJ aZ aR aT aD aY aP aS aC aO aA aM uQ uR uT uD uY uP uS uC uO uA uM uR_2 uT uD_3) (Nat.le_of_ble_eq_true rfl) dX8_channel_4 rfl ?_
  refine mk_istore_n C (lv' := [(1, .int r1), (0, .ref (aZ 0))]) dX8_channel_7 (by decide) rfl ?_
  refine mk_aload_n C 1 dX8_channel_8 rfl ?_
  refine mk_get C mk_inX8 0 rfl rfl 1 (by decide) mw_343 (v := .ref (aT 0)) rfl dX8_channel_9 ?_
  refine mk_iconst C (v := 0) dX8_channel_12 (by decide) ?_
  refine mk_put C mk_inX7 tyX7 tyX7_ok nmX7 2 rfl rfl 1 (by decide) mw_40 rfl rfl rfl (Nat.le_of_ble_eq_true rfl) (ws' := (wChan aZ aR aT aD aY aP aC aO aA aM ++ (wReader aR aT aD uR_2 ++ (wTape aT cI (upF 1 0 uT) ++ (wPlan aD cI uD_3 ++ (wPlay aY aP aS (mk_crs aC aO uQ) cI uY ++ (wPlan aP cI uP ++ (wStack aS cI uS ++ (wCourse aC cI uC ++ (wCourse aO cI uO ++ (wActs aA cI uA ++ (wMeans aM cJ uM)))))))))))) (st_ZRTDYPSCOAM_T_1 cI cJ aZ aR aT aD aY aP aS aC aO aA aM uQ uR_2 uT uD_3 uY uP uS uC uO uA uM 0) dX8_channel_13 ?_
  refine mk_iload_n C 0 dX8_channel_16 rfl ?_
  refine mk_if_ne C 23 dX8_channel_17 (by decide) (fun c5 => ?_) (fun c5 => ?_)
  · replace hf := (if_neg c5).symm.trans hf
    refine mk_aload_n C 1 dX8_channel_23 rfl ?_
    refine mk_get C mk_inX8 0 rfl rfl 4 (by decide) mw_346 (v := .ref (aP 0)) rfl dX8_channel_24 ?_
    refine mk_aload_n C 1 dX8_channel_27 rfl ?_
    refine mk_get C mk_inX8 0 rfl rfl 2 (by decide) mw_344 (v := .ref (aD 0)) rfl dX8_channel_28 ?_
    obtain ⟨uP_6, h7, hf⟩ := b1_some hf
    refine mk_callVv C (c_P_become l D cI cJ X Y aP aD uP uD_3 uP_6 h7) mw_530 mw_531 mw_532 mw_4 mw_533 mkn_X3_become rfl ⟨Nat.le_of_ble_eq_true rfl, Nat.le_of_ble_eq_true rfl⟩ 12 rfl rfl rfl (fr_Z_PD cI cJ aZ aR aT aD aY aP aS aC aO aA aM uQ uR_2 (upF 1 0 uT) uD_3 uY uP uS uC uO uA uM uP_6 uD_3) (Nat.le_of_ble_eq_true rfl) dX8_channel_31 rfl ?_
    refine mk_aload_n C 1 dX8_channel_34 rfl ?_
    refine mk_get C mk_inX8 0 rfl rfl 7 (by decide) mw_349 (v := .ref (aA 0)) rfl dX8_channel_35 ?_
    refine mk_iconst C (v := 0) dX8_channel_38 (by decide) ?_
    refine mk_put C mk_inX0 tyX0 tyX0_ok nmX0 48 rfl rfl 2 (by decide) mw_307 rfl rfl rfl (Nat.le_of_ble_eq_true rfl) (ws' := (wChan aZ aR aT aD aY aP aC aO aA aM ++ (wReader aR aT aD uR_2 ++ (wTape aT cI (upF 1 0 uT) ++ (wPlan aD cI uD_3 ++ (wPlay aY aP aS (mk_crs aC aO uQ) cI uY ++ (wPlan aP cI uP_6 ++ (wStack aS cI uS ++ (wCourse aC cI uC ++ (wCourse aO cI uO ++ (wActs aA cI (upF 2 0 uA) ++ (wMeans aM cJ uM)))))))))))) (st_ZRTDYPSCOAM_A_2 cI cJ aZ aR aT aD aY aP aS aC aO aA aM uQ uR_2 (upF 1 0 uT) uD_3 uY uP_6 uS uC uO uA uM 0) dX8_channel_39 ?_
    refine mk_aload_n C 1 dX8_channel_42 rfl ?_
    refine mk_get C mk_inX8 0 rfl rfl 3 (by decide) mw_345 (v := .ref (aY 0)) rfl dX8_channel_43 ?_
    refine mk_aload_n C 1 dX8_channel_46 rfl ?_
    refine mk_get C mk_inX8 0 rfl rfl 5 (by decide) mw_347 (v := .ref (aC 0)) rfl dX8_channel_47 ?_
    refine mk_aload_n C 1 dX8_channel_50 rfl ?_
    refine mk_get C mk_inX8 0 rfl rfl 4 (by decide) mw_346 (v := .ref (aP 0)) rfl dX8_channel_51 ?_
    refine mk_get C mk_inX3 12 rfl rfl 0 (by decide) mw_58 (v := .int (uP_6 0 0)) rfl dX8_channel_54 ?_
    refine mk_iconst C (v := (-1)) dX8_channel_57 (by decide) ?_
    refine mk_iconst C (v := (-1)) dX8_channel_58 (by decide) ?_
    obtain ⟨r8, uY_9, uS_10, uC_11, h12, hf⟩ := b4_some hf
    refine mk_callVi C (c_Y_run l D cI cJ X Y aY aP aS aC (mk_crs aC aO uQ) uY uP_6 uS uC (uP_6 0 0) (-1) (-1) r8 uY_9 uS_10 uC_11 h12) mw_537 mw_538 mw_539 mw_5 mw_540 mkn_X4_run rfl ⟨Nat.le_of_ble_eq_true rfl, Nat.le_of_ble_eq_true rfl⟩ 10 rfl rfl rfl (fr_Z_YPSC_run cI cJ aZ aR aT aD aY aP aS aC aO aA aM uQ uR_2 (upF 1 0 uT) uD_3 uY uP_6 uS uC uO (upF 2 0 uA) uM uY_9 uP_6 uS_10 uC_11) (Nat.le_of_ble_eq_true rfl) dX8_channel_59 rfl ?_
    refine mk_pop C dX8_channel_62 rfl ?_
    refine mk_aload_n C 1 dX8_channel_63 rfl ?_
    refine mk_get C mk_inX8 0 rfl rfl 4 (by decide) mw_346 (v := .ref (aP 0)) rfl dX8_channel_64 ?_
    refine mk_get C mk_inX3 12 rfl rfl 4 (by decide) mw_73 (v := .int (uP_6 4 0)) rfl dX8_channel_67 ?_
    have e := Option.some.inj hf
    simp only [Prod.mk.injEq] at e
    obtain ⟨e0, e1, e2, e3, e4, e5, e6, e7, e8, e9⟩ := e
    exact mk_iret C hr hlk e0 (by rw [← e1, ← e2, ← e3, ← e4, ← e5, ← e6, ← e7, ← e8, ← e9]) dX8_channel_70
  · replace hf := (if_pos c5).symm.trans hf
    refine mk_bipush C (v := (-4)) dX8_channel_20 (by decide) ?_
    have e := Option.some.inj hf
    simp only [Prod.mk.injEq] at e
    obtain ⟨e0, e1, e2, e3, e4, e5, e6, e7, e8, e9⟩ := e
    exact mk_iret C hr hlk e0 (by rw [← e1, ← e2, ← e3, ← e4, ← e5, ← e6, ← e7, ← e8, ← e9]) dX8_channel_22
set_option maxHeartbeats 40000000 in
set_option maxRecDepth 100000 in
theorem c_Z_fault (l : Launch) (D : va_G) (cI cJ : ClassId) (X Y : Nat → Nat) (aZ aR aT aD aY aP aS aC aO aA aM : Nat → Nat) (uQ : Nat) (uR : Nat → Nat → Int32) (uT : Nat → Nat → Int32) (uD : Nat → Nat → Int32) (uY : Nat → Nat → Int32) (uP : Nat → Nat → Int32) (uS : Nat → Nat → Int32) (uC : Nat → Nat → Int32) (uO : Nat → Nat → Int32) (uA : Nat → Nat → Int32) (uM : Nat → Nat → Int64) (p1 : Int32) (r : Int32) (hf : f_Z_fault uR p1 = some r) : mk_Met l yX8_fault cX8_fault 2 (some .int) ({ frames := 0, cells := 0, slots := 0, locals := 0 }) D [(cI, .int), (cJ, .long)] X Y [.ref (aZ 0), .int p1] (wChan aZ aR aT aD aY aP aC aO aA aM ++ (wReader aR aT aD uR ++ (wTape aT cI uT ++ (wPlan aD cI uD ++ (wPlay aY aP aS (mk_crs aC aO uQ) cI uY ++ (wPlan aP cI uP ++ (wStack aS cI uS ++ (wCourse aC cI uC ++ (wCourse aO cI uO ++ (wActs aA cI uA ++ (wMeans aM cJ uM))))))))))) (wChan aZ aR aT aD aY aP aC aO aA aM ++ (wReader aR aT aD uR ++ (wTape aT cI uT ++ (wPlan aD cI uD ++ (wPlay aY aP aS (mk_crs aC aO uQ) cI uY ++ (wPlan aP cI uP ++ (wStack aS cI uS ++ (wCourse aC cI uC ++ (wCourse aO cI uO ++ (wActs aA cI uA ++ (wMeans aM cJ uM))))))))))) (some (.int r)) 0 0 := by
  refine mk_start (own := RX8) (by decide) rfl (Nat.le_of_ble_eq_true rfl) ?_
  intro sz p e s m args below meth c A C hr hlk hnm
  replace C : mk_Cx p s m args c cX8_fault 2 RX8 D [(cI, .int), (cJ, .long)] X Y A := C
  show mk_Go p l e (headSpec (mk_ws yX8_fault cX8_fault 2 (some .int)) ({ frames := 0, cells := 0, slots := 0, locals := 0 })).room s m args below meth c D A 2 0 0 (MQ below (mk_Q (some (.int r)) D (wChan aZ aR aT aD aY aP aC aO aA aM ++ (wReader aR aT aD uR ++ (wTape aT cI uT ++ (wPlan aD cI uD ++ (wPlay aY aP aS (mk_crs aC aO uQ) cI uY ++ (wPlan aP cI uP ++ (wStack aS cI uS ++ (wCourse aC cI uC ++ (wCourse aO cI uO ++ (wActs aA cI uA ++ (wMeans aM cJ uM))))))))))) A) args s 0 0 A) 0 (wChan aZ aR aT aD aY aP aC aO aA aM ++ (wReader aR aT aD uR ++ (wTape aT cI uT ++ (wPlan aD cI uD ++ (wPlay aY aP aS (mk_crs aC aO uQ) cI uY ++ (wPlan aP cI uP ++ (wStack aS cI uS ++ (wCourse aC cI uC ++ (wCourse aO cI uO ++ (wActs aA cI uA ++ (wMeans aM cJ uM))))))))))) [(0, .ref (aZ 0)), (1, .int p1)] []
  unfold f_Z_fault at hf
  refine mk_iload_n C 1 dX8_fault_0 rfl ?_
  refine mk_if_ne C 12 dX8_fault_1 (by decide) (fun c1 => ?_) (fun c1 => ?_)
  · replace hf := (if_neg c1).symm.trans hf
    refine mk_iload_n C 1 dX8_fault_12 rfl ?_
    refine mk_iconst C (v := 1) dX8_fault_13 (by decide) ?_
    refine mk_icmp_ne C 27 dX8_fault_14 (by decide) (fun c2 => ?_) (fun c2 => ?_)
    · replace hf := (if_neg c2).symm.trans hf
      refine mk_iconst C (v := (-1)) dX8_fault_27 (by decide) ?_
      have e0 := Option.some.inj hf
      exact mk_iret C hr hlk e0 rfl dX8_fault_28
    · replace hf := (if_pos c2).symm.trans hf
      refine mk_aload_n C 0 dX8_fault_17 rfl ?_
      refine mk_get C mk_inX8 0 rfl rfl 0 (by decide) mw_342 (v := .ref (aR 0)) rfl dX8_fault_18 ?_
      refine mk_get C mk_inX5 1 rfl rfl 7 (by decide) mw_134 (v := .int (uR 7 0)) rfl dX8_fault_21 ?_
      refine mk_goto C 28 dX8_fault_24 (by decide) ?_
      have e0 := Option.some.inj hf
      exact mk_iret C hr hlk e0 rfl dX8_fault_28
  · replace hf := (if_pos c1).symm.trans hf
    refine mk_aload_n C 0 dX8_fault_4 rfl ?_
    refine mk_get C mk_inX8 0 rfl rfl 0 (by decide) mw_342 (v := .ref (aR 0)) rfl dX8_fault_5 ?_
    refine mk_get C mk_inX5 1 rfl rfl 6 (by decide) mw_132 (v := .int (uR 6 0)) rfl dX8_fault_8 ?_
    have e0 := Option.some.inj hf
    exact mk_iret C hr hlk e0 rfl dX8_fault_11
set_option maxHeartbeats 40000000 in
set_option maxRecDepth 100000 in
theorem c_Z_count (l : Launch) (D : va_G) (cI cJ : ClassId) (X Y : Nat → Nat) (aZ aR aT aD aY aP aS aC aO aA aM : Nat → Nat) (uQ : Nat) (uR : Nat → Nat → Int32) (uT : Nat → Nat → Int32) (uD : Nat → Nat → Int32) (uY : Nat → Nat → Int32) (uP : Nat → Nat → Int32) (uS : Nat → Nat → Int32) (uC : Nat → Nat → Int32) (uO : Nat → Nat → Int32) (uA : Nat → Nat → Int32) (uM : Nat → Nat → Int64) (p1 : Int32) (r : Int32) (hf : f_Z_count uT uP uA p1 = some r) : mk_Met l yX8_count cX8_count 2 (some .int) ({ frames := 0, cells := 0, slots := 0, locals := 0 }) D [(cI, .int), (cJ, .long)] X Y [.ref (aZ 0), .int p1] (wChan aZ aR aT aD aY aP aC aO aA aM ++ (wReader aR aT aD uR ++ (wTape aT cI uT ++ (wPlan aD cI uD ++ (wPlay aY aP aS (mk_crs aC aO uQ) cI uY ++ (wPlan aP cI uP ++ (wStack aS cI uS ++ (wCourse aC cI uC ++ (wCourse aO cI uO ++ (wActs aA cI uA ++ (wMeans aM cJ uM))))))))))) (wChan aZ aR aT aD aY aP aC aO aA aM ++ (wReader aR aT aD uR ++ (wTape aT cI uT ++ (wPlan aD cI uD ++ (wPlay aY aP aS (mk_crs aC aO uQ) cI uY ++ (wPlan aP cI uP ++ (wStack aS cI uS ++ (wCourse aC cI uC ++ (wCourse aO cI uO ++ (wActs aA cI uA ++ (wMeans aM cJ uM))))))))))) (some (.int r)) 0 0 := by
  refine mk_start (own := RX8) (by decide) rfl (Nat.le_of_ble_eq_true rfl) ?_
  intro sz p e s m args below meth c A C hr hlk hnm
  replace C : mk_Cx p s m args c cX8_count 2 RX8 D [(cI, .int), (cJ, .long)] X Y A := C
  show mk_Go p l e (headSpec (mk_ws yX8_count cX8_count 2 (some .int)) ({ frames := 0, cells := 0, slots := 0, locals := 0 })).room s m args below meth c D A 2 0 0 (MQ below (mk_Q (some (.int r)) D (wChan aZ aR aT aD aY aP aC aO aA aM ++ (wReader aR aT aD uR ++ (wTape aT cI uT ++ (wPlan aD cI uD ++ (wPlay aY aP aS (mk_crs aC aO uQ) cI uY ++ (wPlan aP cI uP ++ (wStack aS cI uS ++ (wCourse aC cI uC ++ (wCourse aO cI uO ++ (wActs aA cI uA ++ (wMeans aM cJ uM))))))))))) A) args s 0 0 A) 0 (wChan aZ aR aT aD aY aP aC aO aA aM ++ (wReader aR aT aD uR ++ (wTape aT cI uT ++ (wPlan aD cI uD ++ (wPlay aY aP aS (mk_crs aC aO uQ) cI uY ++ (wPlan aP cI uP ++ (wStack aS cI uS ++ (wCourse aC cI uC ++ (wCourse aO cI uO ++ (wActs aA cI uA ++ (wMeans aM cJ uM))))))))))) [(0, .ref (aZ 0)), (1, .int p1)] []
  unfold f_Z_count at hf
  refine mk_iload_n C 1 dX8_count_0 rfl ?_
  by_cases c1 : p1 = 0
  · replace hf := (if_pos c1).symm.trans hf
    refine mk_tableIn C 52 c1 dX8_count_1 (by decide) (by decide) rfl (by decide) ?_
    refine mk_aload_n C 0 dX8_count_52 rfl ?_
    refine mk_get C mk_inX8 0 rfl rfl 4 (by decide) mw_346 (v := .ref (aP 0)) rfl dX8_count_53 ?_
    refine mk_get C mk_inX3 12 rfl rfl 0 (by decide) mw_58 (v := .int (uP 0 0)) rfl dX8_count_56 ?_
    have e0 := Option.some.inj hf
    exact mk_iret C hr hlk e0 rfl dX8_count_59
  · replace hf := (if_neg c1).symm.trans hf
    by_cases c2 : p1 = 1
    · replace hf := (if_pos c2).symm.trans hf
      refine mk_tableIn C 60 c2 dX8_count_1 (by decide) (by decide) rfl (by decide) ?_
      refine mk_aload_n C 0 dX8_count_60 rfl ?_
      refine mk_get C mk_inX8 0 rfl rfl 4 (by decide) mw_346 (v := .ref (aP 0)) rfl dX8_count_61 ?_
      refine mk_get C mk_inX3 12 rfl rfl 1 (by decide) mw_62 (v := .int (uP 1 0)) rfl dX8_count_64 ?_
      have e0 := Option.some.inj hf
      exact mk_iret C hr hlk e0 rfl dX8_count_67
    · replace hf := (if_neg c2).symm.trans hf
      by_cases c3 : p1 = 2
      · replace hf := (if_pos c3).symm.trans hf
        refine mk_tableIn C 68 c3 dX8_count_1 (by decide) (by decide) rfl (by decide) ?_
        refine mk_aload_n C 0 dX8_count_68 rfl ?_
        refine mk_get C mk_inX8 0 rfl rfl 4 (by decide) mw_346 (v := .ref (aP 0)) rfl dX8_count_69 ?_
        refine mk_get C mk_inX3 12 rfl rfl 2 (by decide) mw_66 (v := .int (uP 2 0)) rfl dX8_count_72 ?_
        have e0 := Option.some.inj hf
        exact mk_iret C hr hlk e0 rfl dX8_count_75
      · replace hf := (if_neg c3).symm.trans hf
        by_cases c4 : p1 = 3
        · replace hf := (if_pos c4).symm.trans hf
          refine mk_tableIn C 76 c4 dX8_count_1 (by decide) (by decide) rfl (by decide) ?_
          refine mk_aload_n C 0 dX8_count_76 rfl ?_
          refine mk_get C mk_inX8 0 rfl rfl 4 (by decide) mw_346 (v := .ref (aP 0)) rfl dX8_count_77 ?_
          refine mk_get C mk_inX3 12 rfl rfl 3 (by decide) mw_70 (v := .int (uP 3 0)) rfl dX8_count_80 ?_
          have e0 := Option.some.inj hf
          exact mk_iret C hr hlk e0 rfl dX8_count_83
        · replace hf := (if_neg c4).symm.trans hf
          by_cases c5 : p1 = 4
          · replace hf := (if_pos c5).symm.trans hf
            refine mk_tableIn C 84 c5 dX8_count_1 (by decide) (by decide) rfl (by decide) ?_
            refine mk_aload_n C 0 dX8_count_84 rfl ?_
            refine mk_get C mk_inX8 0 rfl rfl 4 (by decide) mw_346 (v := .ref (aP 0)) rfl dX8_count_85 ?_
            refine mk_get C mk_inX3 12 rfl rfl 5 (by decide) mw_78 (v := .int (uP 5 0)) rfl dX8_count_88 ?_
            have e0 := Option.some.inj hf
            exact mk_iret C hr hlk e0 rfl dX8_count_91
          · replace hf := (if_neg c5).symm.trans hf
            by_cases c6 : p1 = 5
            · replace hf := (if_pos c6).symm.trans hf
              refine mk_tableIn C 92 c6 dX8_count_1 (by decide) (by decide) rfl (by decide) ?_
              refine mk_aload_n C 0 dX8_count_92 rfl ?_
              refine mk_get C mk_inX8 0 rfl rfl 4 (by decide) mw_346 (v := .ref (aP 0)) rfl dX8_count_93 ?_
              refine mk_get C mk_inX3 12 rfl rfl 6 (by decide) mw_82 (v := .int (uP 6 0)) rfl dX8_count_96 ?_
              have e0 := Option.some.inj hf
              exact mk_iret C hr hlk e0 rfl dX8_count_99
            · replace hf := (if_neg c6).symm.trans hf
              by_cases c7 : p1 = 6
              · replace hf := (if_pos c7).symm.trans hf
                refine mk_tableIn C 100 c7 dX8_count_1 (by decide) (by decide) rfl (by decide) ?_
                refine mk_aload_n C 0 dX8_count_100 rfl ?_
                refine mk_get C mk_inX8 0 rfl rfl 7 (by decide) mw_349 (v := .ref (aA 0)) rfl dX8_count_101 ?_
                refine mk_get C mk_inX0 48 rfl rfl 2 (by decide) mw_307 (v := .int (uA 2 0)) rfl dX8_count_104 ?_
                have e0 := Option.some.inj hf
                exact mk_iret C hr hlk e0 rfl dX8_count_107
              · replace hf := (if_neg c7).symm.trans hf
                by_cases c8 : p1 = 7
                · replace hf := (if_pos c8).symm.trans hf
                  refine mk_tableIn C 108 c8 dX8_count_1 (by decide) (by decide) rfl (by decide) ?_
                  refine mk_aload_n C 0 dX8_count_108 rfl ?_
                  refine mk_get C mk_inX8 0 rfl rfl 4 (by decide) mw_346 (v := .ref (aP 0)) rfl dX8_count_109 ?_
                  refine mk_get C mk_inX3 12 rfl rfl 4 (by decide) mw_73 (v := .int (uP 4 0)) rfl dX8_count_112 ?_
                  have e0 := Option.some.inj hf
                  exact mk_iret C hr hlk e0 rfl dX8_count_115
                · replace hf := (if_neg c8).symm.trans hf
                  by_cases c9 : p1 = 8
                  · replace hf := (if_pos c9).symm.trans hf
                    refine mk_tableIn C 116 c9 dX8_count_1 (by decide) (by decide) rfl (by decide) ?_
                    refine mk_aload_n C 0 dX8_count_116 rfl ?_
                    refine mk_get C mk_inX8 0 rfl rfl 1 (by decide) mw_343 (v := .ref (aT 0)) rfl dX8_count_117 ?_
                    refine mk_get C mk_inX7 2 rfl rfl 1 (by decide) mw_40 (v := .int (uT 1 0)) rfl dX8_count_120 ?_
                    have e0 := Option.some.inj hf
                    exact mk_iret C hr hlk e0 rfl dX8_count_123
                  · replace hf := (if_neg c9).symm.trans hf
                    refine mk_tableOut C 124 dX8_count_1 (by have e0 := mk_ne c1 (k := 0) (by decide); have e1 := mk_ne c2 (k := 1) (by decide); have e2 := mk_ne c3 (k := 2) (by decide); have e3 := mk_ne c4 (k := 3) (by decide); have e4 := mk_ne c5 (k := 4) (by decide); have e5 := mk_ne c6 (k := 5) (by decide); have e6 := mk_ne c7 (k := 6) (by decide); have e7 := mk_ne c8 (k := 7) (by decide); have e8 := mk_ne c9 (k := 8) (by decide); omega) (by decide) ?_
                    refine mk_iconst C (v := (-1)) dX8_count_124 (by decide) ?_
                    have e0 := Option.some.inj hf
                    exact mk_iret C hr hlk e0 rfl dX8_count_125
set_option maxHeartbeats 40000000 in
set_option maxRecDepth 100000 in
theorem c_Z_sender (l : Launch) (D : va_G) (cI cJ : ClassId) (X Y : Nat → Nat) (aZ aR aT aD aY aP aS aC aO aA aM : Nat → Nat) (uQ : Nat) (uR : Nat → Nat → Int32) (uT : Nat → Nat → Int32) (uD : Nat → Nat → Int32) (uY : Nat → Nat → Int32) (uP : Nat → Nat → Int32) (uS : Nat → Nat → Int32) (uC : Nat → Nat → Int32) (uO : Nat → Nat → Int32) (uA : Nat → Nat → Int32) (uM : Nat → Nat → Int64) (p1 : Int32) (p2 : Int32) (r : Int32) (hf : f_Z_sender uP p1 p2 = some r) : mk_Met l yX8_sender cX8_sender 4 (some .int) ({ frames := 2, cells := 0, slots := 0, locals := 43 }) D [(cI, .int), (cJ, .long)] X Y [.ref (aZ 0), .int p1, .int p2] (wChan aZ aR aT aD aY aP aC aO aA aM ++ (wReader aR aT aD uR ++ (wTape aT cI uT ++ (wPlan aD cI uD ++ (wPlay aY aP aS (mk_crs aC aO uQ) cI uY ++ (wPlan aP cI uP ++ (wStack aS cI uS ++ (wCourse aC cI uC ++ (wCourse aO cI uO ++ (wActs aA cI uA ++ (wMeans aM cJ uM))))))))))) (wChan aZ aR aT aD aY aP aC aO aA aM ++ (wReader aR aT aD uR ++ (wTape aT cI uT ++ (wPlan aD cI uD ++ (wPlay aY aP aS (mk_crs aC aO uQ) cI uY ++ (wPlan aP cI uP ++ (wStack aS cI uS ++ (wCourse aC cI uC ++ (wCourse aO cI uO ++ (wActs aA cI uA ++ (wMeans aM cJ uM))))))))))) (some (.int r)) 0 0 := by
  refine mk_start (own := RX8) (by decide) rfl (Nat.le_of_ble_eq_true rfl) ?_
  intro sz p e s m args below meth c A C hr hlk hnm
  replace C : mk_Cx p s m args c cX8_sender 4 RX8 D [(cI, .int), (cJ, .long)] X Y A := C
  show mk_Go p l e (headSpec (mk_ws yX8_sender cX8_sender 4 (some .int)) ({ frames := 2, cells := 0, slots := 0, locals := 43 })).room s m args below meth c D A 4 0 0 (MQ below (mk_Q (some (.int r)) D (wChan aZ aR aT aD aY aP aC aO aA aM ++ (wReader aR aT aD uR ++ (wTape aT cI uT ++ (wPlan aD cI uD ++ (wPlay aY aP aS (mk_crs aC aO uQ) cI uY ++ (wPlan aP cI uP ++ (wStack aS cI uS ++ (wCourse aC cI uC ++ (wCourse aO cI uO ++ (wActs aA cI uA ++ (wMeans aM cJ uM))))))))))) A) args s 0 0 A) 0 (wChan aZ aR aT aD aY aP aC aO aA aM ++ (wReader aR aT aD uR ++ (wTape aT cI uT ++ (wPlan aD cI uD ++ (wPlay aY aP aS (mk_crs aC aO uQ) cI uY ++ (wPlan aP cI uP ++ (wStack aS cI uS ++ (wCourse aC cI uC ++ (wCourse aO cI uO ++ (wActs aA cI uA ++ (wMeans aM cJ uM))))))))))) [(0, .ref (aZ 0)), (1, .int p1), (2, .int p2)] []
  unfold f_Z_sender at hf
  refine mk_aload_n C 0 dX8_sender_0 rfl ?_
  refine mk_get C mk_inX8 0 rfl rfl 4 (by decide) mw_346 (v := .ref (aP 0)) rfl dX8_sender_1 ?_
  refine mk_iload_n C 1 dX8_sender_4 rfl ?_
  obtain ⟨r1, h2, hf⟩ := b1_some hf
  refine mk_callVi C (c_P_hasSender l D cI cJ X Y aP uP p1 r1 h2) mw_655 mw_656 mw_657 mw_4 mw_658 mkn_X3_hasSender rfl ⟨Nat.le_of_ble_eq_true rfl, Nat.le_of_ble_eq_true rfl⟩ 12 rfl rfl rfl (fr_Z_P cI cJ aZ aR aT aD aY aP aS aC aO aA aM uQ uR uT uD uY uP uS uC uO uA uM uP) (Nat.le_of_ble_eq_true rfl) dX8_sender_5 rfl ?_
  refine mk_if_eq C 21 dX8_sender_8 (by decide) (fun c3 => ?_) (fun c3 => ?_)
  · replace hf := (if_pos c3).symm.trans hf
    refine mk_bipush C (v := (-2)) dX8_sender_21 (by decide) ?_
    have e0 := Option.some.inj hf
    exact mk_iret C hr hlk e0 rfl dX8_sender_23
  · replace hf := (if_neg c3).symm.trans hf
    refine mk_iload_n C 2 dX8_sender_11 rfl ?_
    refine mk_if_lt C 21 dX8_sender_12 (by decide) (fun c4 => ?_) (fun c4 => ?_)
    · replace hf := (if_pos c4).symm.trans hf
      refine mk_bipush C (v := (-2)) dX8_sender_21 (by decide) ?_
      have e0 := Option.some.inj hf
      exact mk_iret C hr hlk e0 rfl dX8_sender_23
    · replace hf := (if_neg c4).symm.trans hf
      refine mk_iload_n C 2 dX8_sender_15 rfl ?_
      refine mk_bipush C (v := 13) dX8_sender_16 (by decide) ?_
      refine mk_icmp_le C 24 dX8_sender_18 (by decide) (fun c5 => ?_) (fun c5 => ?_)
      · replace hf := (if_pos c5).symm.trans hf
        refine mk_iload_n C 2 dX8_sender_24 rfl ?_
        refine mk_if_ne C 40 dX8_sender_25 (by decide) (fun c6 => ?_) (fun c6 => ?_)
        · replace hf := (if_neg c6).symm.trans hf
          refine mk_aload_n C 0 dX8_sender_40 rfl ?_
          refine mk_get C mk_inX8 0 rfl rfl 4 (by decide) mw_346 (v := .ref (aP 0)) rfl dX8_sender_41 ?_
          refine mk_get C mk_inX3 12 rfl rfl 8 (by decide) mw_88 (v := .ref (aP 9)) rfl dX8_sender_44 ?_
          refine mk_iload_n C 1 dX8_sender_47 rfl ?_
          refine mk_callSi C (c_at l D cI cJ X Y (aP 9) 10 (uP 8) p1) mw_659 mw_402 mw_1 mw_403 mkn_X8_at rfl ⟨Nat.le_of_ble_eq_true rfl, Nat.le_of_ble_eq_true rfl⟩ (mk_Fr.at (q := 14) rfl) (Nat.le_of_ble_eq_true rfl) dX8_sender_48 rfl ?_
          refine mk_istore_n C (lv' := [(3, .int (mkAt 10 (uP 8) p1)), (0, .ref (aZ 0)), (1, .int p1), (2, .int p2)]) dX8_sender_51 (by decide) rfl ?_
          refine mk_iload_n C 3 dX8_sender_52 rfl ?_
          refine mk_iconst C (v := 1) dX8_sender_53 (by decide) ?_
          refine mk_icmp_ne C 59 dX8_sender_54 (by decide) (fun c7 => ?_) (fun c7 => ?_)
          · replace hf := (if_neg c7).symm.trans hf
            refine mk_iload_n C 3 dX8_sender_59 rfl ?_
            refine mk_iconst C (v := 2) dX8_sender_60 (by decide) ?_
            refine mk_isub C dX8_sender_61 ?_
            refine mk_iload_n C 0 dX8_sender_62 rfl ?_
            refine mk_icmp_ge C 80 dX8_sender_63 (by decide) (fun c8 => ?_) (fun c8 => ?_)
            · replace hf := (if_pos c8).symm.trans hf
              refine mk_iconst C (v := (-1)) dX8_sender_80 (by decide) ?_
              have e0 := Option.some.inj hf
              exact mk_iret C hr hlk e0 rfl dX8_sender_81
            · replace hf := (if_neg c8).symm.trans hf
              refine mk_aload_n C 1 dX8_sender_66 rfl ?_
              refine mk_get C mk_inX8 0 rfl rfl 4 (by decide) mw_346 (v := .ref (aP 0)) rfl dX8_sender_67 ?_
              refine mk_iload_n C 2 dX8_sender_70 rfl ?_
              refine mk_iload_n C 3 dX8_sender_71 rfl ?_
              refine mk_iconst C (v := 2) dX8_sender_72 (by decide) ?_
              refine mk_isub C dX8_sender_73 ?_
              obtain ⟨r9, h10, hf⟩ := b1_some hf
              refine mk_callVi C (c_P_bit l D cI cJ X Y aP uP p1 (p2 - 2) r9 h10) mw_660 mw_661 mw_662 mw_4 mw_663 mkn_X3_bit rfl ⟨Nat.le_of_ble_eq_true rfl, Nat.le_of_ble_eq_true rfl⟩ 12 rfl rfl rfl (fr_Z_P cI cJ aZ aR aT aD aY aP aS aC aO aA aM uQ uR uT uD uY uP uS uC uO uA uM uP) (Nat.le_of_ble_eq_true rfl) dX8_sender_74 rfl ?_
              refine mk_goto C 81 dX8_sender_77 (by decide) ?_
              have e0 := Option.some.inj hf
              exact mk_iret C hr hlk e0 rfl dX8_sender_81
          · replace hf := (if_pos c7).symm.trans hf
            refine mk_iload_n C 0 dX8_sender_57 rfl ?_
            have e0 := Option.some.inj hf
            exact mk_iret C hr hlk e0 rfl dX8_sender_58
        · replace hf := (if_pos c6).symm.trans hf
          refine mk_aload_n C 0 dX8_sender_28 rfl ?_
          refine mk_get C mk_inX8 0 rfl rfl 4 (by decide) mw_346 (v := .ref (aP 0)) rfl dX8_sender_29 ?_
          refine mk_get C mk_inX3 12 rfl rfl 7 (by decide) mw_86 (v := .ref (aP 8)) rfl dX8_sender_32 ?_
          refine mk_iload_n C 1 dX8_sender_35 rfl ?_
          refine mk_callSi C (c_at l D cI cJ X Y (aP 8) 10 (uP 7) p1) mw_659 mw_402 mw_1 mw_403 mkn_X8_at rfl ⟨Nat.le_of_ble_eq_true rfl, Nat.le_of_ble_eq_true rfl⟩ (mk_Fr.at (q := 13) rfl) (Nat.le_of_ble_eq_true rfl) dX8_sender_36 rfl ?_
          have e0 := Option.some.inj hf
          exact mk_iret C hr hlk e0 rfl dX8_sender_39
      · replace hf := (if_neg c5).symm.trans hf
        refine mk_bipush C (v := (-2)) dX8_sender_21 (by decide) ?_
        have e0 := Option.some.inj hf
        exact mk_iret C hr hlk e0 rfl dX8_sender_23
set_option maxHeartbeats 40000000 in
set_option maxRecDepth 100000 in
theorem c_Z_slot (l : Launch) (D : va_G) (cI cJ : ClassId) (X Y : Nat → Nat) (aZ aR aT aD aY aP aS aC aO aA aM : Nat → Nat) (uQ : Nat) (uR : Nat → Nat → Int32) (uT : Nat → Nat → Int32) (uD : Nat → Nat → Int32) (uY : Nat → Nat → Int32) (uP : Nat → Nat → Int32) (uS : Nat → Nat → Int32) (uC : Nat → Nat → Int32) (uO : Nat → Nat → Int32) (uA : Nat → Nat → Int32) (uM : Nat → Nat → Int64) (p1 : Int32) (p2 : Int32) (r : Int32) (hf : f_Z_slot uP uC p1 p2 = some r) : mk_Met l yX8_slot cX8_slot 3 (some .int) ({ frames := 1, cells := 0, slots := 0, locals := 21 }) D [(cI, .int), (cJ, .long)] X Y [.ref (aZ 0), .int p1, .int p2] (wChan aZ aR aT aD aY aP aC aO aA aM ++ (wReader aR aT aD uR ++ (wTape aT cI uT ++ (wPlan aD cI uD ++ (wPlay aY aP aS (mk_crs aC aO uQ) cI uY ++ (wPlan aP cI uP ++ (wStack aS cI uS ++ (wCourse aC cI uC ++ (wCourse aO cI uO ++ (wActs aA cI uA ++ (wMeans aM cJ uM))))))))))) (wChan aZ aR aT aD aY aP aC aO aA aM ++ (wReader aR aT aD uR ++ (wTape aT cI uT ++ (wPlan aD cI uD ++ (wPlay aY aP aS (mk_crs aC aO uQ) cI uY ++ (wPlan aP cI uP ++ (wStack aS cI uS ++ (wCourse aC cI uC ++ (wCourse aO cI uO ++ (wActs aA cI uA ++ (wMeans aM cJ uM))))))))))) (some (.int r)) 0 0 := by
  refine mk_start (own := RX8) (by decide) rfl (Nat.le_of_ble_eq_true rfl) ?_
  intro sz p e s m args below meth c A C hr hlk hnm
  replace C : mk_Cx p s m args c cX8_slot 3 RX8 D [(cI, .int), (cJ, .long)] X Y A := C
  show mk_Go p l e (headSpec (mk_ws yX8_slot cX8_slot 3 (some .int)) ({ frames := 1, cells := 0, slots := 0, locals := 21 })).room s m args below meth c D A 3 0 0 (MQ below (mk_Q (some (.int r)) D (wChan aZ aR aT aD aY aP aC aO aA aM ++ (wReader aR aT aD uR ++ (wTape aT cI uT ++ (wPlan aD cI uD ++ (wPlay aY aP aS (mk_crs aC aO uQ) cI uY ++ (wPlan aP cI uP ++ (wStack aS cI uS ++ (wCourse aC cI uC ++ (wCourse aO cI uO ++ (wActs aA cI uA ++ (wMeans aM cJ uM))))))))))) A) args s 0 0 A) 0 (wChan aZ aR aT aD aY aP aC aO aA aM ++ (wReader aR aT aD uR ++ (wTape aT cI uT ++ (wPlan aD cI uD ++ (wPlay aY aP aS (mk_crs aC aO uQ) cI uY ++ (wPlan aP cI uP ++ (wStack aS cI uS ++ (wCourse aC cI uC ++ (wCourse aO cI uO ++ (wActs aA cI uA ++ (wMeans aM cJ uM))))))))))) [(0, .ref (aZ 0)), (1, .int p1), (2, .int p2)] []
  unfold f_Z_slot at hf
  refine mk_aload_n C 0 dX8_slot_0 rfl ?_
  refine mk_get C mk_inX8 0 rfl rfl 4 (by decide) mw_346 (v := .ref (aP 0)) rfl dX8_slot_1 ?_
  refine mk_iload_n C 1 dX8_slot_4 rfl ?_
  obtain ⟨r1, h2, hf⟩ := b1_some hf
  refine mk_callVi C (c_P_hasSlot l D cI cJ X Y aP uP p1 r1 h2) mw_668 mw_669 mw_670 mw_4 mw_671 mkn_X3_hasSlot rfl ⟨Nat.le_of_ble_eq_true rfl, Nat.le_of_ble_eq_true rfl⟩ 12 rfl rfl rfl (fr_Z_P cI cJ aZ aR aT aD aY aP aS aC aO aA aM uQ uR uT uD uY uP uS uC uO uA uM uP) (Nat.le_of_ble_eq_true rfl) dX8_slot_5 rfl ?_
  refine mk_if_ne C 14 dX8_slot_8 (by decide) (fun c3 => ?_) (fun c3 => ?_)
  · replace hf := (if_neg c3).symm.trans hf
    refine mk_iload_n C 2 dX8_slot_14 rfl ?_
    by_cases c4 : p2 = 0
    · replace hf := (if_pos c4).symm.trans hf
      refine mk_tableIn C 48 c4 dX8_slot_15 (by decide) (by decide) rfl (by decide) ?_
      refine mk_aload_n C 0 dX8_slot_48 rfl ?_
      refine mk_get C mk_inX8 0 rfl rfl 5 (by decide) mw_347 (v := .ref (aC 0)) rfl dX8_slot_49 ?_
      refine mk_get C mk_inX1 22 rfl rfl 0 (by decide) mw_189 (v := .ref (aC 1)) rfl dX8_slot_52 ?_
      refine mk_iload_n C 1 dX8_slot_55 rfl ?_
      refine mk_callSi C (c_at l D cI cJ X Y (aC 1) 200 (uC 0) p1) mw_659 mw_402 mw_1 mw_403 mkn_X8_at rfl ⟨Nat.le_of_ble_eq_true rfl, Nat.le_of_ble_eq_true rfl⟩ (mk_Fr.at (q := 23) rfl) (Nat.le_of_ble_eq_true rfl) dX8_slot_56 rfl ?_
      refine mk_callSi C (c_bits l D cI cJ X Y (mkAt 200 (uC 0) p1)) mw_672 mw_563 mw_16 mw_564 mkn_J6_bitCount_0f7a4 rfl ⟨Nat.le_of_ble_eq_true rfl, Nat.le_of_ble_eq_true rfl⟩ (mk_Fr.nil _) (Nat.le_of_ble_eq_true rfl) dX8_slot_59 rfl ?_
      have e0 := Option.some.inj hf
      exact mk_iret C hr hlk e0 rfl dX8_slot_62
    · replace hf := (if_neg c4).symm.trans hf
      by_cases c5 : p2 = 1
      · replace hf := (if_pos c5).symm.trans hf
        refine mk_tableIn C 63 c5 dX8_slot_15 (by decide) (by decide) rfl (by decide) ?_
        refine mk_aload_n C 0 dX8_slot_63 rfl ?_
        refine mk_get C mk_inX8 0 rfl rfl 5 (by decide) mw_347 (v := .ref (aC 0)) rfl dX8_slot_64 ?_
        refine mk_get C mk_inX1 22 rfl rfl 1 (by decide) mw_192 (v := .ref (aC 2)) rfl dX8_slot_67 ?_
        refine mk_iload_n C 1 dX8_slot_70 rfl ?_
        refine mk_callSi C (c_at l D cI cJ X Y (aC 2) 200 (uC 1) p1) mw_659 mw_402 mw_1 mw_403 mkn_X8_at rfl ⟨Nat.le_of_ble_eq_true rfl, Nat.le_of_ble_eq_true rfl⟩ (mk_Fr.at (q := 24) rfl) (Nat.le_of_ble_eq_true rfl) dX8_slot_71 rfl ?_
        have e0 := Option.some.inj hf
        exact mk_iret C hr hlk e0 rfl dX8_slot_74
      · replace hf := (if_neg c5).symm.trans hf
        by_cases c6 : p2 = 2
        · replace hf := (if_pos c6).symm.trans hf
          refine mk_tableIn C 75 c6 dX8_slot_15 (by decide) (by decide) rfl (by decide) ?_
          refine mk_aload_n C 0 dX8_slot_75 rfl ?_
          refine mk_get C mk_inX8 0 rfl rfl 5 (by decide) mw_347 (v := .ref (aC 0)) rfl dX8_slot_76 ?_
          refine mk_get C mk_inX1 22 rfl rfl 2 (by decide) mw_195 (v := .ref (aC 3)) rfl dX8_slot_79 ?_
          refine mk_iload_n C 1 dX8_slot_82 rfl ?_
          refine mk_callSi C (c_at l D cI cJ X Y (aC 3) 200 (uC 2) p1) mw_659 mw_402 mw_1 mw_403 mkn_X8_at rfl ⟨Nat.le_of_ble_eq_true rfl, Nat.le_of_ble_eq_true rfl⟩ (mk_Fr.at (q := 25) rfl) (Nat.le_of_ble_eq_true rfl) dX8_slot_83 rfl ?_
          have e0 := Option.some.inj hf
          exact mk_iret C hr hlk e0 rfl dX8_slot_86
        · replace hf := (if_neg c6).symm.trans hf
          by_cases c7 : p2 = 3
          · replace hf := (if_pos c7).symm.trans hf
            refine mk_tableIn C 87 c7 dX8_slot_15 (by decide) (by decide) rfl (by decide) ?_
            refine mk_aload_n C 0 dX8_slot_87 rfl ?_
            refine mk_get C mk_inX8 0 rfl rfl 5 (by decide) mw_347 (v := .ref (aC 0)) rfl dX8_slot_88 ?_
            refine mk_get C mk_inX1 22 rfl rfl 3 (by decide) mw_198 (v := .ref (aC 4)) rfl dX8_slot_91 ?_
            refine mk_iload_n C 1 dX8_slot_94 rfl ?_
            refine mk_callSi C (c_at l D cI cJ X Y (aC 4) 200 (uC 3) p1) mw_659 mw_402 mw_1 mw_403 mkn_X8_at rfl ⟨Nat.le_of_ble_eq_true rfl, Nat.le_of_ble_eq_true rfl⟩ (mk_Fr.at (q := 26) rfl) (Nat.le_of_ble_eq_true rfl) dX8_slot_95 rfl ?_
            have e0 := Option.some.inj hf
            exact mk_iret C hr hlk e0 rfl dX8_slot_98
          · replace hf := (if_neg c7).symm.trans hf
            by_cases c8 : p2 = 4
            · replace hf := (if_pos c8).symm.trans hf
              refine mk_tableIn C 99 c8 dX8_slot_15 (by decide) (by decide) rfl (by decide) ?_
              refine mk_aload_n C 0 dX8_slot_99 rfl ?_
              refine mk_get C mk_inX8 0 rfl rfl 5 (by decide) mw_347 (v := .ref (aC 0)) rfl dX8_slot_100 ?_
              refine mk_get C mk_inX1 22 rfl rfl 4 (by decide) mw_201 (v := .ref (aC 5)) rfl dX8_slot_103 ?_
              refine mk_iload_n C 1 dX8_slot_106 rfl ?_
              refine mk_callSi C (c_at l D cI cJ X Y (aC 5) 200 (uC 4) p1) mw_659 mw_402 mw_1 mw_403 mkn_X8_at rfl ⟨Nat.le_of_ble_eq_true rfl, Nat.le_of_ble_eq_true rfl⟩ (mk_Fr.at (q := 27) rfl) (Nat.le_of_ble_eq_true rfl) dX8_slot_107 rfl ?_
              have e0 := Option.some.inj hf
              exact mk_iret C hr hlk e0 rfl dX8_slot_110
            · replace hf := (if_neg c8).symm.trans hf
              refine mk_tableOut C 111 dX8_slot_15 (by have e0 := mk_ne c4 (k := 0) (by decide); have e1 := mk_ne c5 (k := 1) (by decide); have e2 := mk_ne c6 (k := 2) (by decide); have e3 := mk_ne c7 (k := 3) (by decide); have e4 := mk_ne c8 (k := 4) (by decide); omega) (by decide) ?_
              refine mk_bipush C (v := (-2)) dX8_slot_111 (by decide) ?_
              have e0 := Option.some.inj hf
              exact mk_iret C hr hlk e0 rfl dX8_slot_113
  · replace hf := (if_pos c3).symm.trans hf
    refine mk_bipush C (v := (-2)) dX8_slot_11 (by decide) ?_
    have e0 := Option.some.inj hf
    exact mk_iret C hr hlk e0 rfl dX8_slot_13
set_option maxHeartbeats 40000000 in
set_option maxRecDepth 100000 in
theorem c_Z_sends (l : Launch) (D : va_G) (cI cJ : ClassId) (X Y : Nat → Nat) (aZ aR aT aD aY aP aS aC aO aA aM : Nat → Nat) (uQ : Nat) (uR : Nat → Nat → Int32) (uT : Nat → Nat → Int32) (uD : Nat → Nat → Int32) (uY : Nat → Nat → Int32) (uP : Nat → Nat → Int32) (uS : Nat → Nat → Int32) (uC : Nat → Nat → Int32) (uO : Nat → Nat → Int32) (uA : Nat → Nat → Int32) (uM : Nat → Nat → Int64) (p1 : Int32) (p2 : Int32) (r : Int32) (hf : f_Z_sends uP uC p1 p2 = some r) : mk_Met l yX8_sends cX8_sends 3 (some .int) ({ frames := 1, cells := 0, slots := 0, locals := 21 }) D [(cI, .int), (cJ, .long)] X Y [.ref (aZ 0), .int p1, .int p2] (wChan aZ aR aT aD aY aP aC aO aA aM ++ (wReader aR aT aD uR ++ (wTape aT cI uT ++ (wPlan aD cI uD ++ (wPlay aY aP aS (mk_crs aC aO uQ) cI uY ++ (wPlan aP cI uP ++ (wStack aS cI uS ++ (wCourse aC cI uC ++ (wCourse aO cI uO ++ (wActs aA cI uA ++ (wMeans aM cJ uM))))))))))) (wChan aZ aR aT aD aY aP aC aO aA aM ++ (wReader aR aT aD uR ++ (wTape aT cI uT ++ (wPlan aD cI uD ++ (wPlay aY aP aS (mk_crs aC aO uQ) cI uY ++ (wPlan aP cI uP ++ (wStack aS cI uS ++ (wCourse aC cI uC ++ (wCourse aO cI uO ++ (wActs aA cI uA ++ (wMeans aM cJ uM))))))))))) (some (.int r)) 0 0 := by
  refine mk_start (own := RX8) (by decide) rfl (Nat.le_of_ble_eq_true rfl) ?_
  intro sz p e s m args below meth c A C hr hlk hnm
  replace C : mk_Cx p s m args c cX8_sends 3 RX8 D [(cI, .int), (cJ, .long)] X Y A := C
  show mk_Go p l e (headSpec (mk_ws yX8_sends cX8_sends 3 (some .int)) ({ frames := 1, cells := 0, slots := 0, locals := 21 })).room s m args below meth c D A 3 0 0 (MQ below (mk_Q (some (.int r)) D (wChan aZ aR aT aD aY aP aC aO aA aM ++ (wReader aR aT aD uR ++ (wTape aT cI uT ++ (wPlan aD cI uD ++ (wPlay aY aP aS (mk_crs aC aO uQ) cI uY ++ (wPlan aP cI uP ++ (wStack aS cI uS ++ (wCourse aC cI uC ++ (wCourse aO cI uO ++ (wActs aA cI uA ++ (wMeans aM cJ uM))))))))))) A) args s 0 0 A) 0 (wChan aZ aR aT aD aY aP aC aO aA aM ++ (wReader aR aT aD uR ++ (wTape aT cI uT ++ (wPlan aD cI uD ++ (wPlay aY aP aS (mk_crs aC aO uQ) cI uY ++ (wPlan aP cI uP ++ (wStack aS cI uS ++ (wCourse aC cI uC ++ (wCourse aO cI uO ++ (wActs aA cI uA ++ (wMeans aM cJ uM))))))))))) [(0, .ref (aZ 0)), (1, .int p1), (2, .int p2)] []
  unfold f_Z_sends at hf
  refine mk_aload_n C 0 dX8_sends_0 rfl ?_
  refine mk_get C mk_inX8 0 rfl rfl 4 (by decide) mw_346 (v := .ref (aP 0)) rfl dX8_sends_1 ?_
  refine mk_iload_n C 1 dX8_sends_4 rfl ?_
  obtain ⟨r1, h2, hf⟩ := b1_some hf
  refine mk_callVi C (c_P_hasSlot l D cI cJ X Y aP uP p1 r1 h2) mw_668 mw_669 mw_670 mw_4 mw_671 mkn_X3_hasSlot rfl ⟨Nat.le_of_ble_eq_true rfl, Nat.le_of_ble_eq_true rfl⟩ 12 rfl rfl rfl (fr_Z_P cI cJ aZ aR aT aD aY aP aS aC aO aA aM uQ uR uT uD uY uP uS uC uO uA uM uP) (Nat.le_of_ble_eq_true rfl) dX8_sends_5 rfl ?_
  refine mk_if_eq C 22 dX8_sends_8 (by decide) (fun c3 => ?_) (fun c3 => ?_)
  · replace hf := (if_pos c3).symm.trans hf
    refine mk_bipush C (v := (-2)) dX8_sends_22 (by decide) ?_
    have e0 := Option.some.inj hf
    exact mk_iret C hr hlk e0 rfl dX8_sends_24
  · replace hf := (if_neg c3).symm.trans hf
    refine mk_aload_n C 0 dX8_sends_11 rfl ?_
    refine mk_get C mk_inX8 0 rfl rfl 4 (by decide) mw_346 (v := .ref (aP 0)) rfl dX8_sends_12 ?_
    refine mk_iload_n C 2 dX8_sends_15 rfl ?_
    obtain ⟨r4, h5, hf⟩ := b1_some hf
    refine mk_callVi C (c_P_hasSender l D cI cJ X Y aP uP p2 r4 h5) mw_655 mw_656 mw_657 mw_4 mw_658 mkn_X3_hasSender rfl ⟨Nat.le_of_ble_eq_true rfl, Nat.le_of_ble_eq_true rfl⟩ 12 rfl rfl rfl (fr_Z_P cI cJ aZ aR aT aD aY aP aS aC aO aA aM uQ uR uT uD uY uP uS uC uO uA uM uP) (Nat.le_of_ble_eq_true rfl) dX8_sends_16 rfl ?_
    refine mk_if_ne C 25 dX8_sends_19 (by decide) (fun c6 => ?_) (fun c6 => ?_)
    · replace hf := (if_neg c6).symm.trans hf
      refine mk_aload_n C 0 dX8_sends_25 rfl ?_
      refine mk_get C mk_inX8 0 rfl rfl 5 (by decide) mw_347 (v := .ref (aC 0)) rfl dX8_sends_26 ?_
      refine mk_get C mk_inX1 22 rfl rfl 0 (by decide) mw_189 (v := .ref (aC 1)) rfl dX8_sends_29 ?_
      refine mk_iload_n C 1 dX8_sends_32 rfl ?_
      refine mk_callSi C (c_at l D cI cJ X Y (aC 1) 200 (uC 0) p1) mw_659 mw_402 mw_1 mw_403 mkn_X8_at rfl ⟨Nat.le_of_ble_eq_true rfl, Nat.le_of_ble_eq_true rfl⟩ (mk_Fr.at (q := 23) rfl) (Nat.le_of_ble_eq_true rfl) dX8_sends_33 rfl ?_
      refine mk_iload_n C 2 dX8_sends_36 rfl ?_
      refine mk_ishr C dX8_sends_37 ?_
      refine mk_iconst C (v := 1) dX8_sends_38 (by decide) ?_
      refine mk_iand C dX8_sends_39 ?_
      have e0 := Option.some.inj hf
      exact mk_iret C hr hlk e0 rfl dX8_sends_40
    · replace hf := (if_pos c6).symm.trans hf
      refine mk_bipush C (v := (-2)) dX8_sends_22 (by decide) ?_
      have e0 := Option.some.inj hf
      exact mk_iret C hr hlk e0 rfl dX8_sends_24
set_option maxHeartbeats 40000000 in
set_option maxRecDepth 100000 in
theorem c_Z_delivered (l : Launch) (D : va_G) (cI cJ : ClassId) (X Y : Nat → Nat) (aZ aR aT aD aY aP aS aC aO aA aM : Nat → Nat) (uQ : Nat) (uR : Nat → Nat → Int32) (uT : Nat → Nat → Int32) (uD : Nat → Nat → Int32) (uY : Nat → Nat → Int32) (uP : Nat → Nat → Int32) (uS : Nat → Nat → Int32) (uC : Nat → Nat → Int32) (uO : Nat → Nat → Int32) (uA : Nat → Nat → Int32) (uM : Nat → Nat → Int64) (p1 : Int32) (r : Int32) (hf : f_Z_delivered uP uC p1 = some r) : mk_Met l yX8_delivered cX8_delivered 2 (some .int) ({ frames := 1, cells := 0, slots := 0, locals := 21 }) D [(cI, .int), (cJ, .long)] X Y [.ref (aZ 0), .int p1] (wChan aZ aR aT aD aY aP aC aO aA aM ++ (wReader aR aT aD uR ++ (wTape aT cI uT ++ (wPlan aD cI uD ++ (wPlay aY aP aS (mk_crs aC aO uQ) cI uY ++ (wPlan aP cI uP ++ (wStack aS cI uS ++ (wCourse aC cI uC ++ (wCourse aO cI uO ++ (wActs aA cI uA ++ (wMeans aM cJ uM))))))))))) (wChan aZ aR aT aD aY aP aC aO aA aM ++ (wReader aR aT aD uR ++ (wTape aT cI uT ++ (wPlan aD cI uD ++ (wPlay aY aP aS (mk_crs aC aO uQ) cI uY ++ (wPlan aP cI uP ++ (wStack aS cI uS ++ (wCourse aC cI uC ++ (wCourse aO cI uO ++ (wActs aA cI uA ++ (wMeans aM cJ uM))))))))))) (some (.int r)) 0 0 := by
  refine mk_start (own := RX8) (by decide) rfl (Nat.le_of_ble_eq_true rfl) ?_
  intro sz p e s m args below meth c A C hr hlk hnm
  replace C : mk_Cx p s m args c cX8_delivered 2 RX8 D [(cI, .int), (cJ, .long)] X Y A := C
  show mk_Go p l e (headSpec (mk_ws yX8_delivered cX8_delivered 2 (some .int)) ({ frames := 1, cells := 0, slots := 0, locals := 21 })).room s m args below meth c D A 2 0 0 (MQ below (mk_Q (some (.int r)) D (wChan aZ aR aT aD aY aP aC aO aA aM ++ (wReader aR aT aD uR ++ (wTape aT cI uT ++ (wPlan aD cI uD ++ (wPlay aY aP aS (mk_crs aC aO uQ) cI uY ++ (wPlan aP cI uP ++ (wStack aS cI uS ++ (wCourse aC cI uC ++ (wCourse aO cI uO ++ (wActs aA cI uA ++ (wMeans aM cJ uM))))))))))) A) args s 0 0 A) 0 (wChan aZ aR aT aD aY aP aC aO aA aM ++ (wReader aR aT aD uR ++ (wTape aT cI uT ++ (wPlan aD cI uD ++ (wPlay aY aP aS (mk_crs aC aO uQ) cI uY ++ (wPlan aP cI uP ++ (wStack aS cI uS ++ (wCourse aC cI uC ++ (wCourse aO cI uO ++ (wActs aA cI uA ++ (wMeans aM cJ uM))))))))))) [(0, .ref (aZ 0)), (1, .int p1)] []
  unfold f_Z_delivered at hf
  refine mk_aload_n C 0 dX8_delivered_0 rfl ?_
  refine mk_get C mk_inX8 0 rfl rfl 4 (by decide) mw_346 (v := .ref (aP 0)) rfl dX8_delivered_1 ?_
  refine mk_iload_n C 1 dX8_delivered_4 rfl ?_
  obtain ⟨r1, h2, hf⟩ := b1_some hf
  refine mk_callVi C (c_P_hasSender l D cI cJ X Y aP uP p1 r1 h2) mw_655 mw_656 mw_657 mw_4 mw_658 mkn_X3_hasSender rfl ⟨Nat.le_of_ble_eq_true rfl, Nat.le_of_ble_eq_true rfl⟩ 12 rfl rfl rfl (fr_Z_P cI cJ aZ aR aT aD aY aP aS aC aO aA aM uQ uR uT uD uY uP uS uC uO uA uM uP) (Nat.le_of_ble_eq_true rfl) dX8_delivered_5 rfl ?_
  refine mk_if_eq C 25 dX8_delivered_8 (by decide) (fun c3 => ?_) (fun c3 => ?_)
  · replace hf := (if_pos c3).symm.trans hf
    refine mk_bipush C (v := (-2)) dX8_delivered_25 (by decide) ?_
    have e0 := Option.some.inj hf
    exact mk_iret C hr hlk e0 rfl dX8_delivered_27
  · replace hf := (if_neg c3).symm.trans hf
    refine mk_aload_n C 0 dX8_delivered_11 rfl ?_
    refine mk_get C mk_inX8 0 rfl rfl 5 (by decide) mw_347 (v := .ref (aC 0)) rfl dX8_delivered_12 ?_
    refine mk_get C mk_inX1 22 rfl rfl 5 (by decide) mw_203 (v := .ref (aC 6)) rfl dX8_delivered_15 ?_
    refine mk_iload_n C 1 dX8_delivered_18 rfl ?_
    refine mk_callSi C (c_at l D cI cJ X Y (aC 6) 10 (uC 5) p1) mw_659 mw_402 mw_1 mw_403 mkn_X8_at rfl ⟨Nat.le_of_ble_eq_true rfl, Nat.le_of_ble_eq_true rfl⟩ (mk_Fr.at (q := 28) rfl) (Nat.le_of_ble_eq_true rfl) dX8_delivered_19 rfl ?_
    refine mk_goto C 27 dX8_delivered_22 (by decide) ?_
    have e0 := Option.some.inj hf
    exact mk_iret C hr hlk e0 rfl dX8_delivered_27
set_option maxHeartbeats 40000000 in
set_option maxRecDepth 100000 in
theorem c_Z_tries (l : Launch) (D : va_G) (cI cJ : ClassId) (X Y : Nat → Nat) (aZ aR aT aD aY aP aS aC aO aA aM : Nat → Nat) (uQ : Nat) (uR : Nat → Nat → Int32) (uT : Nat → Nat → Int32) (uD : Nat → Nat → Int32) (uY : Nat → Nat → Int32) (uP : Nat → Nat → Int32) (uS : Nat → Nat → Int32) (uC : Nat → Nat → Int32) (uO : Nat → Nat → Int32) (uA : Nat → Nat → Int32) (uM : Nat → Nat → Int64) (p1 : Int32) (r : Int32) (hf : f_Z_tries uP uC p1 = some r) : mk_Met l yX8_tries cX8_tries 2 (some .int) ({ frames := 1, cells := 0, slots := 0, locals := 21 }) D [(cI, .int), (cJ, .long)] X Y [.ref (aZ 0), .int p1] (wChan aZ aR aT aD aY aP aC aO aA aM ++ (wReader aR aT aD uR ++ (wTape aT cI uT ++ (wPlan aD cI uD ++ (wPlay aY aP aS (mk_crs aC aO uQ) cI uY ++ (wPlan aP cI uP ++ (wStack aS cI uS ++ (wCourse aC cI uC ++ (wCourse aO cI uO ++ (wActs aA cI uA ++ (wMeans aM cJ uM))))))))))) (wChan aZ aR aT aD aY aP aC aO aA aM ++ (wReader aR aT aD uR ++ (wTape aT cI uT ++ (wPlan aD cI uD ++ (wPlay aY aP aS (mk_crs aC aO uQ) cI uY ++ (wPlan aP cI uP ++ (wStack aS cI uS ++ (wCourse aC cI uC ++ (wCourse aO cI uO ++ (wActs aA cI uA ++ (wMeans aM cJ uM))))))))))) (some (.int r)) 0 0 := by
  refine mk_start (own := RX8) (by decide) rfl (Nat.le_of_ble_eq_true rfl) ?_
  intro sz p e s m args below meth c A C hr hlk hnm
  replace C : mk_Cx p s m args c cX8_tries 2 RX8 D [(cI, .int), (cJ, .long)] X Y A := C
  show mk_Go p l e (headSpec (mk_ws yX8_tries cX8_tries 2 (some .int)) ({ frames := 1, cells := 0, slots := 0, locals := 21 })).room s m args below meth c D A 2 0 0 (MQ below (mk_Q (some (.int r)) D (wChan aZ aR aT aD aY aP aC aO aA aM ++ (wReader aR aT aD uR ++ (wTape aT cI uT ++ (wPlan aD cI uD ++ (wPlay aY aP aS (mk_crs aC aO uQ) cI uY ++ (wPlan aP cI uP ++ (wStack aS cI uS ++ (wCourse aC cI uC ++ (wCourse aO cI uO ++ (wActs aA cI uA ++ (wMeans aM cJ uM))))))))))) A) args s 0 0 A) 0 (wChan aZ aR aT aD aY aP aC aO aA aM ++ (wReader aR aT aD uR ++ (wTape aT cI uT ++ (wPlan aD cI uD ++ (wPlay aY aP aS (mk_crs aC aO uQ) cI uY ++ (wPlan aP cI uP ++ (wStack aS cI uS ++ (wCourse aC cI uC ++ (wCourse aO cI uO ++ (wActs aA cI uA ++ (wMeans aM cJ uM))))))))))) [(0, .ref (aZ 0)), (1, .int p1)] []
  unfold f_Z_tries at hf
  refine mk_aload_n C 0 dX8_tries_0 rfl ?_
  refine mk_get C mk_inX8 0 rfl rfl 4 (by decide) mw_346 (v := .ref (aP 0)) rfl dX8_tries_1 ?_
  refine mk_iload_n C 1 dX8_tries_4 rfl ?_
  obtain ⟨r1, h2, hf⟩ := b1_some hf
  refine mk_callVi C (c_P_hasSender l D cI cJ X Y aP uP p1 r1 h2) mw_655 mw_656 mw_657 mw_4 mw_658 mkn_X3_hasSender rfl ⟨Nat.le_of_ble_eq_true rfl, Nat.le_of_ble_eq_true rfl⟩ 12 rfl rfl rfl (fr_Z_P cI cJ aZ aR aT aD aY aP aS aC aO aA aM uQ uR uT uD uY uP uS uC uO uA uM uP) (Nat.le_of_ble_eq_true rfl) dX8_tries_5 rfl ?_
  refine mk_if_eq C 25 dX8_tries_8 (by decide) (fun c3 => ?_) (fun c3 => ?_)
  · replace hf := (if_pos c3).symm.trans hf
    refine mk_bipush C (v := (-2)) dX8_tries_25 (by decide) ?_
    have e0 := Option.some.inj hf
    exact mk_iret C hr hlk e0 rfl dX8_tries_27
  · replace hf := (if_neg c3).symm.trans hf
    refine mk_aload_n C 0 dX8_tries_11 rfl ?_
    refine mk_get C mk_inX8 0 rfl rfl 5 (by decide) mw_347 (v := .ref (aC 0)) rfl dX8_tries_12 ?_
    refine mk_get C mk_inX1 22 rfl rfl 6 (by decide) mw_205 (v := .ref (aC 7)) rfl dX8_tries_15 ?_
    refine mk_iload_n C 1 dX8_tries_18 rfl ?_
    refine mk_callSi C (c_at l D cI cJ X Y (aC 7) 10 (uC 6) p1) mw_659 mw_402 mw_1 mw_403 mkn_X8_at rfl ⟨Nat.le_of_ble_eq_true rfl, Nat.le_of_ble_eq_true rfl⟩ (mk_Fr.at (q := 29) rfl) (Nat.le_of_ble_eq_true rfl) dX8_tries_19 rfl ?_
    refine mk_goto C 27 dX8_tries_22 (by decide) ?_
    have e0 := Option.some.inj hf
    exact mk_iret C hr hlk e0 rfl dX8_tries_27
set_option maxHeartbeats 40000000 in
set_option maxRecDepth 100000 in
theorem c_Z_taken (l : Launch) (D : va_G) (cI cJ : ClassId) (X Y : Nat → Nat) (aZ aR aT aD aY aP aS aC aO aA aM : Nat → Nat) (uQ : Nat) (uR : Nat → Nat → Int32) (uT : Nat → Nat → Int32) (uD : Nat → Nat → Int32) (uY : Nat → Nat → Int32) (uP : Nat → Nat → Int32) (uS : Nat → Nat → Int32) (uC : Nat → Nat → Int32) (uO : Nat → Nat → Int32) (uA : Nat → Nat → Int32) (uM : Nat → Nat → Int64) (p1 : Int32) (r : Int32) (hf : f_Z_taken uP uC p1 = some r) : mk_Met l yX8_taken cX8_taken 2 (some .int) ({ frames := 1, cells := 0, slots := 0, locals := 21 }) D [(cI, .int), (cJ, .long)] X Y [.ref (aZ 0), .int p1] (wChan aZ aR aT aD aY aP aC aO aA aM ++ (wReader aR aT aD uR ++ (wTape aT cI uT ++ (wPlan aD cI uD ++ (wPlay aY aP aS (mk_crs aC aO uQ) cI uY ++ (wPlan aP cI uP ++ (wStack aS cI uS ++ (wCourse aC cI uC ++ (wCourse aO cI uO ++ (wActs aA cI uA ++ (wMeans aM cJ uM))))))))))) (wChan aZ aR aT aD aY aP aC aO aA aM ++ (wReader aR aT aD uR ++ (wTape aT cI uT ++ (wPlan aD cI uD ++ (wPlay aY aP aS (mk_crs aC aO uQ) cI uY ++ (wPlan aP cI uP ++ (wStack aS cI uS ++ (wCourse aC cI uC ++ (wCourse aO cI uO ++ (wActs aA cI uA ++ (wMeans aM cJ uM))))))))))) (some (.int r)) 0 0 := by
  refine mk_start (own := RX8) (by decide) rfl (Nat.le_of_ble_eq_true rfl) ?_
  intro sz p e s m args below meth c A C hr hlk hnm
  replace C : mk_Cx p s m args c cX8_taken 2 RX8 D [(cI, .int), (cJ, .long)] X Y A := C
  show mk_Go p l e (headSpec (mk_ws yX8_taken cX8_taken 2 (some .int)) ({ frames := 1, cells := 0, slots := 0, locals := 21 })).room s m args below meth c D A 2 0 0 (MQ below (mk_Q (some (.int r)) D (wChan aZ aR aT aD aY aP aC aO aA aM ++ (wReader aR aT aD uR ++ (wTape aT cI uT ++ (wPlan aD cI uD ++ (wPlay aY aP aS (mk_crs aC aO uQ) cI uY ++ (wPlan aP cI uP ++ (wStack aS cI uS ++ (wCourse aC cI uC ++ (wCourse aO cI uO ++ (wActs aA cI uA ++ (wMeans aM cJ uM))))))))))) A) args s 0 0 A) 0 (wChan aZ aR aT aD aY aP aC aO aA aM ++ (wReader aR aT aD uR ++ (wTape aT cI uT ++ (wPlan aD cI uD ++ (wPlay aY aP aS (mk_crs aC aO uQ) cI uY ++ (wPlan aP cI uP ++ (wStack aS cI uS ++ (wCourse aC cI uC ++ (wCourse aO cI uO ++ (wActs aA cI uA ++ (wMeans aM cJ uM))))))))))) [(0, .ref (aZ 0)), (1, .int p1)] []
  unfold f_Z_taken at hf
  refine mk_aload_n C 0 dX8_taken_0 rfl ?_
  refine mk_get C mk_inX8 0 rfl rfl 4 (by decide) mw_346 (v := .ref (aP 0)) rfl dX8_taken_1 ?_
  refine mk_iload_n C 1 dX8_taken_4 rfl ?_
  obtain ⟨r1, h2, hf⟩ := b1_some hf
  refine mk_callVi C (c_P_hasSender l D cI cJ X Y aP uP p1 r1 h2) mw_655 mw_656 mw_657 mw_4 mw_658 mkn_X3_hasSender rfl ⟨Nat.le_of_ble_eq_true rfl, Nat.le_of_ble_eq_true rfl⟩ 12 rfl rfl rfl (fr_Z_P cI cJ aZ aR aT aD aY aP aS aC aO aA aM uQ uR uT uD uY uP uS uC uO uA uM uP) (Nat.le_of_ble_eq_true rfl) dX8_taken_5 rfl ?_
  refine mk_if_eq C 25 dX8_taken_8 (by decide) (fun c3 => ?_) (fun c3 => ?_)
  · replace hf := (if_pos c3).symm.trans hf
    refine mk_bipush C (v := (-2)) dX8_taken_25 (by decide) ?_
    have e0 := Option.some.inj hf
    exact mk_iret C hr hlk e0 rfl dX8_taken_27
  · replace hf := (if_neg c3).symm.trans hf
    refine mk_aload_n C 0 dX8_taken_11 rfl ?_
    refine mk_get C mk_inX8 0 rfl rfl 5 (by decide) mw_347 (v := .ref (aC 0)) rfl dX8_taken_12 ?_
    refine mk_get C mk_inX1 22 rfl rfl 7 (by decide) mw_209 (v := .ref (aC 8)) rfl dX8_taken_15 ?_
    refine mk_iload_n C 1 dX8_taken_18 rfl ?_
    refine mk_callSi C (c_at l D cI cJ X Y (aC 8) 10 (uC 7) p1) mw_659 mw_402 mw_1 mw_403 mkn_X8_at rfl ⟨Nat.le_of_ble_eq_true rfl, Nat.le_of_ble_eq_true rfl⟩ (mk_Fr.at (q := 30) rfl) (Nat.le_of_ble_eq_true rfl) dX8_taken_19 rfl ?_
    refine mk_goto C 27 dX8_taken_22 (by decide) ?_
    have e0 := Option.some.inj hf
    exact mk_iret C hr hlk e0 rfl dX8_taken_27
set_option maxHeartbeats 40000000 in
set_option maxRecDepth 100000 in
theorem c_Z_order (l : Launch) (D : va_G) (cI cJ : ClassId) (X Y : Nat → Nat) (aZ aR aT aD aY aP aS aC aO aA aM : Nat → Nat) (uQ : Nat) (uR : Nat → Nat → Int32) (uT : Nat → Nat → Int32) (uD : Nat → Nat → Int32) (uY : Nat → Nat → Int32) (uP : Nat → Nat → Int32) (uS : Nat → Nat → Int32) (uC : Nat → Nat → Int32) (uO : Nat → Nat → Int32) (uA : Nat → Nat → Int32) (uM : Nat → Nat → Int64) (p1 : Int32) (r : Int32) (hf : f_Z_order uP uC p1 = some r) : mk_Met l yX8_order cX8_order 2 (some .int) ({ frames := 1, cells := 0, slots := 0, locals := 21 }) D [(cI, .int), (cJ, .long)] X Y [.ref (aZ 0), .int p1] (wChan aZ aR aT aD aY aP aC aO aA aM ++ (wReader aR aT aD uR ++ (wTape aT cI uT ++ (wPlan aD cI uD ++ (wPlay aY aP aS (mk_crs aC aO uQ) cI uY ++ (wPlan aP cI uP ++ (wStack aS cI uS ++ (wCourse aC cI uC ++ (wCourse aO cI uO ++ (wActs aA cI uA ++ (wMeans aM cJ uM))))))))))) (wChan aZ aR aT aD aY aP aC aO aA aM ++ (wReader aR aT aD uR ++ (wTape aT cI uT ++ (wPlan aD cI uD ++ (wPlay aY aP aS (mk_crs aC aO uQ) cI uY ++ (wPlan aP cI uP ++ (wStack aS cI uS ++ (wCourse aC cI uC ++ (wCourse aO cI uO ++ (wActs aA cI uA ++ (wMeans aM cJ uM))))))))))) (some (.int r)) 0 0 := by
  refine mk_start (own := RX8) (by decide) rfl (Nat.le_of_ble_eq_true rfl) ?_
  intro sz p e s m args below meth c A C hr hlk hnm
  replace C : mk_Cx p s m args c cX8_order 2 RX8 D [(cI, .int), (cJ, .long)] X Y A := C
  show mk_Go p l e (headSpec (mk_ws yX8_order cX8_order 2 (some .int)) ({ frames := 1, cells := 0, slots := 0, locals := 21 })).room s m args below meth c D A 2 0 0 (MQ below (mk_Q (some (.int r)) D (wChan aZ aR aT aD aY aP aC aO aA aM ++ (wReader aR aT aD uR ++ (wTape aT cI uT ++ (wPlan aD cI uD ++ (wPlay aY aP aS (mk_crs aC aO uQ) cI uY ++ (wPlan aP cI uP ++ (wStack aS cI uS ++ (wCourse aC cI uC ++ (wCourse aO cI uO ++ (wActs aA cI uA ++ (wMeans aM cJ uM))))))))))) A) args s 0 0 A) 0 (wChan aZ aR aT aD aY aP aC aO aA aM ++ (wReader aR aT aD uR ++ (wTape aT cI uT ++ (wPlan aD cI uD ++ (wPlay aY aP aS (mk_crs aC aO uQ) cI uY ++ (wPlan aP cI uP ++ (wStack aS cI uS ++ (wCourse aC cI uC ++ (wCourse aO cI uO ++ (wActs aA cI uA ++ (wMeans aM cJ uM))))))))))) [(0, .ref (aZ 0)), (1, .int p1)] []
  unfold f_Z_order at hf
  refine mk_iload_n C 1 dX8_order_0 rfl ?_
  refine mk_if_lt C 14 dX8_order_1 (by decide) (fun c1 => ?_) (fun c1 => ?_)
  · replace hf := (if_pos c1).symm.trans hf
    refine mk_bipush C (v := (-2)) dX8_order_14 (by decide) ?_
    have e0 := Option.some.inj hf
    exact mk_iret C hr hlk e0 rfl dX8_order_16
  · replace hf := (if_neg c1).symm.trans hf
    refine mk_aload_n C 0 dX8_order_4 rfl ?_
    refine mk_get C mk_inX8 0 rfl rfl 4 (by decide) mw_346 (v := .ref (aP 0)) rfl dX8_order_5 ?_
    obtain ⟨r2, h3, hf⟩ := b1_some hf
    refine mk_callVi C (c_P_stands l D cI cJ X Y aP uP r2 h3) mw_693 mw_694 mw_695 mw_4 mw_696 mkn_X3_stands rfl ⟨Nat.le_of_ble_eq_true rfl, Nat.le_of_ble_eq_true rfl⟩ 12 rfl rfl rfl (fr_Z_P cI cJ aZ aR aT aD aY aP aS aC aO aA aM uQ uR uT uD uY uP uS uC uO uA uM uP) (Nat.le_of_ble_eq_true rfl) dX8_order_8 rfl ?_
    refine mk_if_ne C 17 dX8_order_11 (by decide) (fun c4 => ?_) (fun c4 => ?_)
    · replace hf := (if_neg c4).symm.trans hf
      refine mk_iload_n C 1 dX8_order_17 rfl ?_
      refine mk_aload_n C 0 dX8_order_18 rfl ?_
      refine mk_get C mk_inX8 0 rfl rfl 5 (by decide) mw_347 (v := .ref (aC 0)) rfl dX8_order_19 ?_
      refine mk_get C mk_inX1 22 rfl rfl 9 (by decide) mw_214 (v := .int (uC 9 0)) rfl dX8_order_22 ?_
      refine mk_icmp_ge C 42 dX8_order_25 (by decide) (fun c5 => ?_) (fun c5 => ?_)
      · replace hf := (if_pos c5).symm.trans hf
        refine mk_iconst C (v := (-1)) dX8_order_42 (by decide) ?_
        have e0 := Option.some.inj hf
        exact mk_iret C hr hlk e0 rfl dX8_order_43
      · replace hf := (if_neg c5).symm.trans hf
        refine mk_aload_n C 0 dX8_order_28 rfl ?_
        refine mk_get C mk_inX8 0 rfl rfl 5 (by decide) mw_347 (v := .ref (aC 0)) rfl dX8_order_29 ?_
        refine mk_get C mk_inX1 22 rfl rfl 8 (by decide) mw_211 (v := .ref (aC 9)) rfl dX8_order_32 ?_
        refine mk_iload_n C 1 dX8_order_35 rfl ?_
        refine mk_callSi C (c_at l D cI cJ X Y (aC 9) 10 (uC 8) p1) mw_659 mw_402 mw_1 mw_403 mkn_X8_at rfl ⟨Nat.le_of_ble_eq_true rfl, Nat.le_of_ble_eq_true rfl⟩ (mk_Fr.at (q := 31) rfl) (Nat.le_of_ble_eq_true rfl) dX8_order_36 rfl ?_
        refine mk_goto C 43 dX8_order_39 (by decide) ?_
        have e0 := Option.some.inj hf
        exact mk_iret C hr hlk e0 rfl dX8_order_43
    · replace hf := (if_pos c4).symm.trans hf
      refine mk_bipush C (v := (-2)) dX8_order_14 (by decide) ?_
      have e0 := Option.some.inj hf
      exact mk_iret C hr hlk e0 rfl dX8_order_16
set_option maxHeartbeats 40000000 in
set_option maxRecDepth 100000 in
theorem c_Z_all (l : Launch) (D : va_G) (cI cJ : ClassId) (X Y : Nat → Nat) (aZ aR aT aD aY aP aS aC aO aA aM : Nat → Nat) (uQ : Nat) (uR : Nat → Nat → Int32) (uT : Nat → Nat → Int32) (uD : Nat → Nat → Int32) (uY : Nat → Nat → Int32) (uP : Nat → Nat → Int32) (uS : Nat → Nat → Int32) (uC : Nat → Nat → Int32) (uO : Nat → Nat → Int32) (uA : Nat → Nat → Int32) (uM : Nat → Nat → Int64) (r : Int32) (hf : f_Z_all uP uC = some r) : mk_Met l yX8_all cX8_all 1 (some .int) ({ frames := 1, cells := 0, slots := 0, locals := 20 }) D [(cI, .int), (cJ, .long)] X Y [.ref (aZ 0)] (wChan aZ aR aT aD aY aP aC aO aA aM ++ (wReader aR aT aD uR ++ (wTape aT cI uT ++ (wPlan aD cI uD ++ (wPlay aY aP aS (mk_crs aC aO uQ) cI uY ++ (wPlan aP cI uP ++ (wStack aS cI uS ++ (wCourse aC cI uC ++ (wCourse aO cI uO ++ (wActs aA cI uA ++ (wMeans aM cJ uM))))))))))) (wChan aZ aR aT aD aY aP aC aO aA aM ++ (wReader aR aT aD uR ++ (wTape aT cI uT ++ (wPlan aD cI uD ++ (wPlay aY aP aS (mk_crs aC aO uQ) cI uY ++ (wPlan aP cI uP ++ (wStack aS cI uS ++ (wCourse aC cI uC ++ (wCourse aO cI uO ++ (wActs aA cI uA ++ (wMeans aM cJ uM))))))))))) (some (.int r)) 0 0 := by
  refine mk_start (own := RX8) (by decide) rfl (Nat.le_of_ble_eq_true rfl) ?_
  intro sz p e s m args below meth c A C hr hlk hnm
  replace C : mk_Cx p s m args c cX8_all 1 RX8 D [(cI, .int), (cJ, .long)] X Y A := C
  show mk_Go p l e (headSpec (mk_ws yX8_all cX8_all 1 (some .int)) ({ frames := 1, cells := 0, slots := 0, locals := 20 })).room s m args below meth c D A 1 0 0 (MQ below (mk_Q (some (.int r)) D (wChan aZ aR aT aD aY aP aC aO aA aM ++ (wReader aR aT aD uR ++ (wTape aT cI uT ++ (wPlan aD cI uD ++ (wPlay aY aP aS (mk_crs aC aO uQ) cI uY ++ (wPlan aP cI uP ++ (wStack aS cI uS ++ (wCourse aC cI uC ++ (wCourse aO cI uO ++ (wActs aA cI uA ++ (wMeans aM cJ uM))))))))))) A) args s 0 0 A) 0 (wChan aZ aR aT aD aY aP aC aO aA aM ++ (wReader aR aT aD uR ++ (wTape aT cI uT ++ (wPlan aD cI uD ++ (wPlay aY aP aS (mk_crs aC aO uQ) cI uY ++ (wPlan aP cI uP ++ (wStack aS cI uS ++ (wCourse aC cI uC ++ (wCourse aO cI uO ++ (wActs aA cI uA ++ (wMeans aM cJ uM))))))))))) [(0, .ref (aZ 0))] []
  unfold f_Z_all at hf
  refine mk_aload_n C 0 dX8_all_0 rfl ?_
  refine mk_get C mk_inX8 0 rfl rfl 4 (by decide) mw_346 (v := .ref (aP 0)) rfl dX8_all_1 ?_
  obtain ⟨r1, h2, hf⟩ := b1_some hf
  refine mk_callVi C (c_P_stands l D cI cJ X Y aP uP r1 h2) mw_693 mw_694 mw_695 mw_4 mw_696 mkn_X3_stands rfl ⟨Nat.le_of_ble_eq_true rfl, Nat.le_of_ble_eq_true rfl⟩ 12 rfl rfl rfl (fr_Z_P cI cJ aZ aR aT aD aY aP aS aC aO aA aM uQ uR uT uD uY uP uS uC uO uA uM uP) (Nat.le_of_ble_eq_true rfl) dX8_all_4 rfl ?_
  refine mk_if_eq C 20 dX8_all_7 (by decide) (fun c3 => ?_) (fun c3 => ?_)
  · replace hf := (if_pos c3).symm.trans hf
    refine mk_bipush C (v := (-2)) dX8_all_20 (by decide) ?_
    have e0 := Option.some.inj hf
    exact mk_iret C hr hlk e0 rfl dX8_all_22
  · replace hf := (if_neg c3).symm.trans hf
    refine mk_aload_n C 0 dX8_all_10 rfl ?_
    refine mk_get C mk_inX8 0 rfl rfl 5 (by decide) mw_347 (v := .ref (aC 0)) rfl dX8_all_11 ?_
    refine mk_get C mk_inX1 22 rfl rfl 9 (by decide) mw_214 (v := .int (uC 9 0)) rfl dX8_all_14 ?_
    refine mk_goto C 22 dX8_all_17 (by decide) ?_
    have e0 := Option.some.inj hf
    exact mk_iret C hr hlk e0 rfl dX8_all_22
set_option maxHeartbeats 40000000 in
set_option maxRecDepth 100000 in
theorem c_Z_done (l : Launch) (D : va_G) (cI cJ : ClassId) (X Y : Nat → Nat) (aZ aR aT aD aY aP aS aC aO aA aM : Nat → Nat) (uQ : Nat) (uR : Nat → Nat → Int32) (uT : Nat → Nat → Int32) (uD : Nat → Nat → Int32) (uY : Nat → Nat → Int32) (uP : Nat → Nat → Int32) (uS : Nat → Nat → Int32) (uC : Nat → Nat → Int32) (uO : Nat → Nat → Int32) (uA : Nat → Nat → Int32) (uM : Nat → Nat → Int64) (r : Int32) (hf : f_Z_done uP uC = some r) : mk_Met l yX8_done cX8_done 1 (some .int) ({ frames := 2, cells := 0, slots := 0, locals := 42 }) D [(cI, .int), (cJ, .long)] X Y [.ref (aZ 0)] (wChan aZ aR aT aD aY aP aC aO aA aM ++ (wReader aR aT aD uR ++ (wTape aT cI uT ++ (wPlan aD cI uD ++ (wPlay aY aP aS (mk_crs aC aO uQ) cI uY ++ (wPlan aP cI uP ++ (wStack aS cI uS ++ (wCourse aC cI uC ++ (wCourse aO cI uO ++ (wActs aA cI uA ++ (wMeans aM cJ uM))))))))))) (wChan aZ aR aT aD aY aP aC aO aA aM ++ (wReader aR aT aD uR ++ (wTape aT cI uT ++ (wPlan aD cI uD ++ (wPlay aY aP aS (mk_crs aC aO uQ) cI uY ++ (wPlan aP cI uP ++ (wStack aS cI uS ++ (wCourse aC cI uC ++ (wCourse aO cI uO ++ (wActs aA cI uA ++ (wMeans aM cJ uM))))))))))) (some (.int r)) 0 0 := by
  refine mk_start (own := RX8) (by decide) rfl (Nat.le_of_ble_eq_true rfl) ?_
  intro sz p e s m args below meth c A C hr hlk hnm
  replace C : mk_Cx p s m args c cX8_done 1 RX8 D [(cI, .int), (cJ, .long)] X Y A := C
  show mk_Go p l e (headSpec (mk_ws yX8_done cX8_done 1 (some .int)) ({ frames := 2, cells := 0, slots := 0, locals := 42 })).room s m args below meth c D A 1 0 0 (MQ below (mk_Q (some (.int r)) D (wChan aZ aR aT aD aY aP aC aO aA aM ++ (wReader aR aT aD uR ++ (wTape aT cI uT ++ (wPlan aD cI uD ++ (wPlay aY aP aS (mk_crs aC aO uQ) cI uY ++ (wPlan aP cI uP ++ (wStack aS cI uS ++ (wCourse aC cI uC ++ (wCourse aO cI uO ++ (wActs aA cI uA ++ (wMeans aM cJ uM))))))))))) A) args s 0 0 A) 0 (wChan aZ aR aT aD aY aP aC aO aA aM ++ (wReader aR aT aD uR ++ (wTape aT cI uT ++ (wPlan aD cI uD ++ (wPlay aY aP aS (mk_crs aC aO uQ) cI uY ++ (wPlan aP cI uP ++ (wStack aS cI uS ++ (wCourse aC cI uC ++ (wCourse aO cI uO ++ (wActs aA cI uA ++ (wMeans aM cJ uM))))))))))) [(0, .ref (aZ 0))] []
  unfold f_Z_done at hf
  refine mk_aload_n C 0 dX8_done_0 rfl ?_
  refine mk_get C mk_inX8 0 rfl rfl 4 (by decide) mw_346 (v := .ref (aP 0)) rfl dX8_done_1 ?_
  obtain ⟨r1, h2, hf⟩ := b1_some hf
  refine mk_callVi C (c_P_stands l D cI cJ X Y aP uP r1 h2) mw_693 mw_694 mw_695 mw_4 mw_696 mkn_X3_stands rfl ⟨Nat.le_of_ble_eq_true rfl, Nat.le_of_ble_eq_true rfl⟩ 12 rfl rfl rfl (fr_Z_P cI cJ aZ aR aT aD aY aP aS aC aO aA aM uQ uR uT uD uY uP uS uC uO uA uM uP) (Nat.le_of_ble_eq_true rfl) dX8_done_4 rfl ?_
  refine mk_if_eq C 27 dX8_done_7 (by decide) (fun c3 => ?_) (fun c3 => ?_)
  · replace hf := (if_pos c3).symm.trans hf
    refine mk_bipush C (v := (-2)) dX8_done_27 (by decide) ?_
    have e0 := Option.some.inj hf
    exact mk_iret C hr hlk e0 rfl dX8_done_29
  · replace hf := (if_neg c3).symm.trans hf
    refine mk_aload_n C 0 dX8_done_10 rfl ?_
    refine mk_get C mk_inX8 0 rfl rfl 5 (by decide) mw_347 (v := .ref (aC 0)) rfl dX8_done_11 ?_
    refine mk_aload_n C 0 dX8_done_14 rfl ?_
    refine mk_get C mk_inX8 0 rfl rfl 4 (by decide) mw_346 (v := .ref (aP 0)) rfl dX8_done_15 ?_
    refine mk_get C mk_inX3 12 rfl rfl 5 (by decide) mw_78 (v := .int (uP 5 0)) rfl dX8_done_18 ?_
    obtain ⟨r4, h5, hf⟩ := b1_some hf
    refine mk_callVi C (c_C_lastSlot l D cI cJ X Y aC uC (uP 5 0) r4 h5) mw_705 mw_706 mw_707 mw_7 mw_708 mkn_X1_lastSlot rfl ⟨Nat.le_of_ble_eq_true rfl, Nat.le_of_ble_eq_true rfl⟩ 22 rfl rfl rfl (fr_Z_C cI cJ aZ aR aT aD aY aP aS aC aO aA aM uQ uR uT uD uY uP uS uC uO uA uM uC) (Nat.le_of_ble_eq_true rfl) dX8_done_21 rfl ?_
    refine mk_goto C 29 dX8_done_24 (by decide) ?_
    have e0 := Option.some.inj hf
    exact mk_iret C hr hlk e0 rfl dX8_done_29
set_option maxHeartbeats 40000000 in
set_option maxRecDepth 100000 in
theorem c_Z_heard (l : Launch) (D : va_G) (cI cJ : ClassId) (X Y : Nat → Nat) (aZ aR aT aD aY aP aS aC aO aA aM : Nat → Nat) (uQ : Nat) (uR : Nat → Nat → Int32) (uT : Nat → Nat → Int32) (uD : Nat → Nat → Int32) (uY : Nat → Nat → Int32) (uP : Nat → Nat → Int32) (uS : Nat → Nat → Int32) (uC : Nat → Nat → Int32) (uO : Nat → Nat → Int32) (uA : Nat → Nat → Int32) (uM : Nat → Nat → Int64) (p1 : Int32) (r : Int32) (hf : f_Z_heard uP uC p1 = some r) : mk_Met l yX8_heard cX8_heard 2 (some .int) ({ frames := 2, cells := 0, slots := 0, locals := 45 }) D [(cI, .int), (cJ, .long)] X Y [.ref (aZ 0), .int p1] (wChan aZ aR aT aD aY aP aC aO aA aM ++ (wReader aR aT aD uR ++ (wTape aT cI uT ++ (wPlan aD cI uD ++ (wPlay aY aP aS (mk_crs aC aO uQ) cI uY ++ (wPlan aP cI uP ++ (wStack aS cI uS ++ (wCourse aC cI uC ++ (wCourse aO cI uO ++ (wActs aA cI uA ++ (wMeans aM cJ uM))))))))))) (wChan aZ aR aT aD aY aP aC aO aA aM ++ (wReader aR aT aD uR ++ (wTape aT cI uT ++ (wPlan aD cI uD ++ (wPlay aY aP aS (mk_crs aC aO uQ) cI uY ++ (wPlan aP cI uP ++ (wStack aS cI uS ++ (wCourse aC cI uC ++ (wCourse aO cI uO ++ (wActs aA cI uA ++ (wMeans aM cJ uM))))))))))) (some (.int r)) 0 0 := by
  refine mk_start (own := RX8) (by decide) rfl (Nat.le_of_ble_eq_true rfl) ?_
  intro sz p e s m args below meth c A C hr hlk hnm
  replace C : mk_Cx p s m args c cX8_heard 2 RX8 D [(cI, .int), (cJ, .long)] X Y A := C
  show mk_Go p l e (headSpec (mk_ws yX8_heard cX8_heard 2 (some .int)) ({ frames := 2, cells := 0, slots := 0, locals := 45 })).room s m args below meth c D A 2 0 0 (MQ below (mk_Q (some (.int r)) D (wChan aZ aR aT aD aY aP aC aO aA aM ++ (wReader aR aT aD uR ++ (wTape aT cI uT ++ (wPlan aD cI uD ++ (wPlay aY aP aS (mk_crs aC aO uQ) cI uY ++ (wPlan aP cI uP ++ (wStack aS cI uS ++ (wCourse aC cI uC ++ (wCourse aO cI uO ++ (wActs aA cI uA ++ (wMeans aM cJ uM))))))))))) A) args s 0 0 A) 0 (wChan aZ aR aT aD aY aP aC aO aA aM ++ (wReader aR aT aD uR ++ (wTape aT cI uT ++ (wPlan aD cI uD ++ (wPlay aY aP aS (mk_crs aC aO uQ) cI uY ++ (wPlan aP cI uP ++ (wStack aS cI uS ++ (wCourse aC cI uC ++ (wCourse aO cI uO ++ (wActs aA cI uA ++ (wMeans aM cJ uM))))))))))) [(0, .ref (aZ 0)), (1, .int p1)] []
  unfold f_Z_heard at hf
  refine mk_iload_n C 1 dX8_heard_0 rfl ?_
  refine mk_if_lt C 19 dX8_heard_1 (by decide) (fun c1 => ?_) (fun c1 => ?_)
  · replace hf := (if_pos c1).symm.trans hf
    refine mk_bipush C (v := (-2)) dX8_heard_19 (by decide) ?_
    have e0 := Option.some.inj hf
    exact mk_iret C hr hlk e0 rfl dX8_heard_21
  · replace hf := (if_neg c1).symm.trans hf
    refine mk_iload_n C 1 dX8_heard_4 rfl ?_
    refine mk_iconst C (v := 2) dX8_heard_5 (by decide) ?_
    refine mk_icmp_gt C 19 dX8_heard_6 (by decide) (fun c2 => ?_) (fun c2 => ?_)
    · replace hf := (if_pos c2).symm.trans hf
      refine mk_bipush C (v := (-2)) dX8_heard_19 (by decide) ?_
      have e0 := Option.some.inj hf
      exact mk_iret C hr hlk e0 rfl dX8_heard_21
    · replace hf := (if_neg c2).symm.trans hf
      refine mk_aload_n C 0 dX8_heard_9 rfl ?_
      refine mk_get C mk_inX8 0 rfl rfl 4 (by decide) mw_346 (v := .ref (aP 0)) rfl dX8_heard_10 ?_
      obtain ⟨r3, h4, hf⟩ := b1_some hf
      refine mk_callVi C (c_P_stands l D cI cJ X Y aP uP r3 h4) mw_693 mw_694 mw_695 mw_4 mw_696 mkn_X3_stands rfl ⟨Nat.le_of_ble_eq_true rfl, Nat.le_of_ble_eq_true rfl⟩ 12 rfl rfl rfl (fr_Z_P cI cJ aZ aR aT aD aY aP aS aC aO aA aM uQ uR uT uD uY uP uS uC uO uA uM uP) (Nat.le_of_ble_eq_true rfl) dX8_heard_13 rfl ?_
      refine mk_if_ne C 22 dX8_heard_16 (by decide) (fun c5 => ?_) (fun c5 => ?_)
      · replace hf := (if_neg c5).symm.trans hf
        refine mk_aload_n C 0 dX8_heard_22 rfl ?_
        refine mk_get C mk_inX8 0 rfl rfl 5 (by decide) mw_347 (v := .ref (aC 0)) rfl dX8_heard_23 ?_
        refine mk_iload_n C 1 dX8_heard_26 rfl ?_
        refine mk_aload_n C 0 dX8_heard_27 rfl ?_
        refine mk_get C mk_inX8 0 rfl rfl 4 (by decide) mw_346 (v := .ref (aP 0)) rfl dX8_heard_28 ?_
        refine mk_get C mk_inX3 12 rfl rfl 1 (by decide) mw_62 (v := .int (uP 1 0)) rfl dX8_heard_31 ?_
        obtain ⟨r6, h7, hf⟩ := b1_some hf
        refine mk_callVi C (c_C_slotsHeard l D cI cJ X Y aC uC p1 (uP 1 0) r6 h7) mw_714 mw_715 mw_716 mw_7 mw_717 mkn_X1_slotsHeard rfl ⟨Nat.le_of_ble_eq_true rfl, Nat.le_of_ble_eq_true rfl⟩ 22 rfl rfl rfl (fr_Z_C cI cJ aZ aR aT aD aY aP aS aC aO aA aM uQ uR uT uD uY uP uS uC uO uA uM uC) (Nat.le_of_ble_eq_true rfl) dX8_heard_34 rfl ?_
        have e0 := Option.some.inj hf
        exact mk_iret C hr hlk e0 rfl dX8_heard_37
      · replace hf := (if_pos c5).symm.trans hf
        refine mk_bipush C (v := (-2)) dX8_heard_19 (by decide) ?_
        have e0 := Option.some.inj hf
        exact mk_iret C hr hlk e0 rfl dX8_heard_21
set_option maxHeartbeats 40000000 in
set_option maxRecDepth 100000 in
theorem c_Z_collided (l : Launch) (D : va_G) (cI cJ : ClassId) (X Y : Nat → Nat) (aZ aR aT aD aY aP aS aC aO aA aM : Nat → Nat) (uQ : Nat) (uR : Nat → Nat → Int32) (uT : Nat → Nat → Int32) (uD : Nat → Nat → Int32) (uY : Nat → Nat → Int32) (uP : Nat → Nat → Int32) (uS : Nat → Nat → Int32) (uC : Nat → Nat → Int32) (uO : Nat → Nat → Int32) (uA : Nat → Nat → Int32) (uM : Nat → Nat → Int64) (r : Int32) (hf : f_Z_collided uP uC = some r) : mk_Met l yX8_collided cX8_collided 1 (some .int) ({ frames := 2, cells := 0, slots := 0, locals := 44 }) D [(cI, .int), (cJ, .long)] X Y [.ref (aZ 0)] (wChan aZ aR aT aD aY aP aC aO aA aM ++ (wReader aR aT aD uR ++ (wTape aT cI uT ++ (wPlan aD cI uD ++ (wPlay aY aP aS (mk_crs aC aO uQ) cI uY ++ (wPlan aP cI uP ++ (wStack aS cI uS ++ (wCourse aC cI uC ++ (wCourse aO cI uO ++ (wActs aA cI uA ++ (wMeans aM cJ uM))))))))))) (wChan aZ aR aT aD aY aP aC aO aA aM ++ (wReader aR aT aD uR ++ (wTape aT cI uT ++ (wPlan aD cI uD ++ (wPlay aY aP aS (mk_crs aC aO uQ) cI uY ++ (wPlan aP cI uP ++ (wStack aS cI uS ++ (wCourse aC cI uC ++ (wCourse aO cI uO ++ (wActs aA cI uA ++ (wMeans aM cJ uM))))))))))) (some (.int r)) 0 0 := by
  refine mk_start (own := RX8) (by decide) rfl (Nat.le_of_ble_eq_true rfl) ?_
  intro sz p e s m args below meth c A C hr hlk hnm
  replace C : mk_Cx p s m args c cX8_collided 1 RX8 D [(cI, .int), (cJ, .long)] X Y A := C
  show mk_Go p l e (headSpec (mk_ws yX8_collided cX8_collided 1 (some .int)) ({ frames := 2, cells := 0, slots := 0, locals := 44 })).room s m args below meth c D A 1 0 0 (MQ below (mk_Q (some (.int r)) D (wChan aZ aR aT aD aY aP aC aO aA aM ++ (wReader aR aT aD uR ++ (wTape aT cI uT ++ (wPlan aD cI uD ++ (wPlay aY aP aS (mk_crs aC aO uQ) cI uY ++ (wPlan aP cI uP ++ (wStack aS cI uS ++ (wCourse aC cI uC ++ (wCourse aO cI uO ++ (wActs aA cI uA ++ (wMeans aM cJ uM))))))))))) A) args s 0 0 A) 0 (wChan aZ aR aT aD aY aP aC aO aA aM ++ (wReader aR aT aD uR ++ (wTape aT cI uT ++ (wPlan aD cI uD ++ (wPlay aY aP aS (mk_crs aC aO uQ) cI uY ++ (wPlan aP cI uP ++ (wStack aS cI uS ++ (wCourse aC cI uC ++ (wCourse aO cI uO ++ (wActs aA cI uA ++ (wMeans aM cJ uM))))))))))) [(0, .ref (aZ 0))] []
  unfold f_Z_collided at hf
  refine mk_aload_n C 0 dX8_collided_0 rfl ?_
  refine mk_get C mk_inX8 0 rfl rfl 4 (by decide) mw_346 (v := .ref (aP 0)) rfl dX8_collided_1 ?_
  obtain ⟨r1, h2, hf⟩ := b1_some hf
  refine mk_callVi C (c_P_stands l D cI cJ X Y aP uP r1 h2) mw_693 mw_694 mw_695 mw_4 mw_696 mkn_X3_stands rfl ⟨Nat.le_of_ble_eq_true rfl, Nat.le_of_ble_eq_true rfl⟩ 12 rfl rfl rfl (fr_Z_P cI cJ aZ aR aT aD aY aP aS aC aO aA aM uQ uR uT uD uY uP uS uC uO uA uM uP) (Nat.le_of_ble_eq_true rfl) dX8_collided_4 rfl ?_
  refine mk_if_eq C 27 dX8_collided_7 (by decide) (fun c3 => ?_) (fun c3 => ?_)
  · replace hf := (if_pos c3).symm.trans hf
    refine mk_bipush C (v := (-2)) dX8_collided_27 (by decide) ?_
    have e0 := Option.some.inj hf
    exact mk_iret C hr hlk e0 rfl dX8_collided_29
  · replace hf := (if_neg c3).symm.trans hf
    refine mk_aload_n C 0 dX8_collided_10 rfl ?_
    refine mk_get C mk_inX8 0 rfl rfl 5 (by decide) mw_347 (v := .ref (aC 0)) rfl dX8_collided_11 ?_
    refine mk_aload_n C 0 dX8_collided_14 rfl ?_
    refine mk_get C mk_inX8 0 rfl rfl 4 (by decide) mw_346 (v := .ref (aP 0)) rfl dX8_collided_15 ?_
    refine mk_get C mk_inX3 12 rfl rfl 1 (by decide) mw_62 (v := .int (uP 1 0)) rfl dX8_collided_18 ?_
    obtain ⟨r4, h5, hf⟩ := b1_some hf
    refine mk_callVi C (c_C_collisions l D cI cJ X Y aC uC (uP 1 0) r4 h5) mw_722 mw_723 mw_724 mw_7 mw_725 mkn_X1_collisions rfl ⟨Nat.le_of_ble_eq_true rfl, Nat.le_of_ble_eq_true rfl⟩ 22 rfl rfl rfl (fr_Z_C cI cJ aZ aR aT aD aY aP aS aC aO aA aM uQ uR uT uD uY uP uS uC uO uA uM uC) (Nat.le_of_ble_eq_true rfl) dX8_collided_21 rfl ?_
    refine mk_goto C 29 dX8_collided_24 (by decide) ?_
    have e0 := Option.some.inj hf
    exact mk_iret C hr hlk e0 rfl dX8_collided_29
set_option maxHeartbeats 40000000 in
set_option maxRecDepth 100000 in
theorem c_Z_skips (l : Launch) (D : va_G) (cI cJ : ClassId) (X Y : Nat → Nat) (aZ aR aT aD aY aP aS aC aO aA aM : Nat → Nat) (uQ : Nat) (uR : Nat → Nat → Int32) (uT : Nat → Nat → Int32) (uD : Nat → Nat → Int32) (uY : Nat → Nat → Int32) (uP : Nat → Nat → Int32) (uS : Nat → Nat → Int32) (uC : Nat → Nat → Int32) (uO : Nat → Nat → Int32) (uA : Nat → Nat → Int32) (uM : Nat → Nat → Int64) (r : Int32) (hf : f_Z_skips uP uC = some r) : mk_Met l yX8_skips cX8_skips 1 (some .int) ({ frames := 2, cells := 0, slots := 0, locals := 44 }) D [(cI, .int), (cJ, .long)] X Y [.ref (aZ 0)] (wChan aZ aR aT aD aY aP aC aO aA aM ++ (wReader aR aT aD uR ++ (wTape aT cI uT ++ (wPlan aD cI uD ++ (wPlay aY aP aS (mk_crs aC aO uQ) cI uY ++ (wPlan aP cI uP ++ (wStack aS cI uS ++ (wCourse aC cI uC ++ (wCourse aO cI uO ++ (wActs aA cI uA ++ (wMeans aM cJ uM))))))))))) (wChan aZ aR aT aD aY aP aC aO aA aM ++ (wReader aR aT aD uR ++ (wTape aT cI uT ++ (wPlan aD cI uD ++ (wPlay aY aP aS (mk_crs aC aO uQ) cI uY ++ (wPlan aP cI uP ++ (wStack aS cI uS ++ (wCourse aC cI uC ++ (wCourse aO cI uO ++ (wActs aA cI uA ++ (wMeans aM cJ uM))))))))))) (some (.int r)) 0 0 := by
  refine mk_start (own := RX8) (by decide) rfl (Nat.le_of_ble_eq_true rfl) ?_
  intro sz p e s m args below meth c A C hr hlk hnm
  replace C : mk_Cx p s m args c cX8_skips 1 RX8 D [(cI, .int), (cJ, .long)] X Y A := C
  show mk_Go p l e (headSpec (mk_ws yX8_skips cX8_skips 1 (some .int)) ({ frames := 2, cells := 0, slots := 0, locals := 44 })).room s m args below meth c D A 1 0 0 (MQ below (mk_Q (some (.int r)) D (wChan aZ aR aT aD aY aP aC aO aA aM ++ (wReader aR aT aD uR ++ (wTape aT cI uT ++ (wPlan aD cI uD ++ (wPlay aY aP aS (mk_crs aC aO uQ) cI uY ++ (wPlan aP cI uP ++ (wStack aS cI uS ++ (wCourse aC cI uC ++ (wCourse aO cI uO ++ (wActs aA cI uA ++ (wMeans aM cJ uM))))))))))) A) args s 0 0 A) 0 (wChan aZ aR aT aD aY aP aC aO aA aM ++ (wReader aR aT aD uR ++ (wTape aT cI uT ++ (wPlan aD cI uD ++ (wPlay aY aP aS (mk_crs aC aO uQ) cI uY ++ (wPlan aP cI uP ++ (wStack aS cI uS ++ (wCourse aC cI uC ++ (wCourse aO cI uO ++ (wActs aA cI uA ++ (wMeans aM cJ uM))))))))))) [(0, .ref (aZ 0))] []
  unfold f_Z_skips at hf
  refine mk_aload_n C 0 dX8_skips_0 rfl ?_
  refine mk_get C mk_inX8 0 rfl rfl 4 (by decide) mw_346 (v := .ref (aP 0)) rfl dX8_skips_1 ?_
  obtain ⟨r1, h2, hf⟩ := b1_some hf
  refine mk_callVi C (c_P_stands l D cI cJ X Y aP uP r1 h2) mw_693 mw_694 mw_695 mw_4 mw_696 mkn_X3_stands rfl ⟨Nat.le_of_ble_eq_true rfl, Nat.le_of_ble_eq_true rfl⟩ 12 rfl rfl rfl (fr_Z_P cI cJ aZ aR aT aD aY aP aS aC aO aA aM uQ uR uT uD uY uP uS uC uO uA uM uP) (Nat.le_of_ble_eq_true rfl) dX8_skips_4 rfl ?_
  refine mk_if_eq C 27 dX8_skips_7 (by decide) (fun c3 => ?_) (fun c3 => ?_)
  · replace hf := (if_pos c3).symm.trans hf
    refine mk_bipush C (v := (-2)) dX8_skips_27 (by decide) ?_
    have e0 := Option.some.inj hf
    exact mk_iret C hr hlk e0 rfl dX8_skips_29
  · replace hf := (if_neg c3).symm.trans hf
    refine mk_aload_n C 0 dX8_skips_10 rfl ?_
    refine mk_get C mk_inX8 0 rfl rfl 5 (by decide) mw_347 (v := .ref (aC 0)) rfl dX8_skips_11 ?_
    refine mk_aload_n C 0 dX8_skips_14 rfl ?_
    refine mk_get C mk_inX8 0 rfl rfl 4 (by decide) mw_346 (v := .ref (aP 0)) rfl dX8_skips_15 ?_
    refine mk_get C mk_inX3 12 rfl rfl 1 (by decide) mw_62 (v := .int (uP 1 0)) rfl dX8_skips_18 ?_
    obtain ⟨r4, h5, hf⟩ := b1_some hf
    refine mk_callVi C (c_C_skipsMade l D cI cJ X Y aC uC (uP 1 0) r4 h5) mw_731 mw_732 mw_733 mw_7 mw_734 mkn_X1_skipsMade rfl ⟨Nat.le_of_ble_eq_true rfl, Nat.le_of_ble_eq_true rfl⟩ 22 rfl rfl rfl (fr_Z_C cI cJ aZ aR aT aD aY aP aS aC aO aA aM uQ uR uT uD uY uP uS uC uO uA uM uC) (Nat.le_of_ble_eq_true rfl) dX8_skips_21 rfl ?_
    refine mk_goto C 29 dX8_skips_24 (by decide) ?_
    have e0 := Option.some.inj hf
    exact mk_iret C hr hlk e0 rfl dX8_skips_29
set_option maxHeartbeats 40000000 in
set_option maxRecDepth 100000 in
theorem c_Z_deepest (l : Launch) (D : va_G) (cI cJ : ClassId) (X Y : Nat → Nat) (aZ aR aT aD aY aP aS aC aO aA aM : Nat → Nat) (uQ : Nat) (uR : Nat → Nat → Int32) (uT : Nat → Nat → Int32) (uD : Nat → Nat → Int32) (uY : Nat → Nat → Int32) (uP : Nat → Nat → Int32) (uS : Nat → Nat → Int32) (uC : Nat → Nat → Int32) (uO : Nat → Nat → Int32) (uA : Nat → Nat → Int32) (uM : Nat → Nat → Int64) (r : Int32) (hf : f_Z_deepest uP uC = some r) : mk_Met l yX8_deepest cX8_deepest 1 (some .int) ({ frames := 2, cells := 0, slots := 0, locals := 46 }) D [(cI, .int), (cJ, .long)] X Y [.ref (aZ 0)] (wChan aZ aR aT aD aY aP aC aO aA aM ++ (wReader aR aT aD uR ++ (wTape aT cI uT ++ (wPlan aD cI uD ++ (wPlay aY aP aS (mk_crs aC aO uQ) cI uY ++ (wPlan aP cI uP ++ (wStack aS cI uS ++ (wCourse aC cI uC ++ (wCourse aO cI uO ++ (wActs aA cI uA ++ (wMeans aM cJ uM))))))))))) (wChan aZ aR aT aD aY aP aC aO aA aM ++ (wReader aR aT aD uR ++ (wTape aT cI uT ++ (wPlan aD cI uD ++ (wPlay aY aP aS (mk_crs aC aO uQ) cI uY ++ (wPlan aP cI uP ++ (wStack aS cI uS ++ (wCourse aC cI uC ++ (wCourse aO cI uO ++ (wActs aA cI uA ++ (wMeans aM cJ uM))))))))))) (some (.int r)) 0 0 := by
  refine mk_start (own := RX8) (by decide) rfl (Nat.le_of_ble_eq_true rfl) ?_
  intro sz p e s m args below meth c A C hr hlk hnm
  replace C : mk_Cx p s m args c cX8_deepest 1 RX8 D [(cI, .int), (cJ, .long)] X Y A := C
  show mk_Go p l e (headSpec (mk_ws yX8_deepest cX8_deepest 1 (some .int)) ({ frames := 2, cells := 0, slots := 0, locals := 46 })).room s m args below meth c D A 1 0 0 (MQ below (mk_Q (some (.int r)) D (wChan aZ aR aT aD aY aP aC aO aA aM ++ (wReader aR aT aD uR ++ (wTape aT cI uT ++ (wPlan aD cI uD ++ (wPlay aY aP aS (mk_crs aC aO uQ) cI uY ++ (wPlan aP cI uP ++ (wStack aS cI uS ++ (wCourse aC cI uC ++ (wCourse aO cI uO ++ (wActs aA cI uA ++ (wMeans aM cJ uM))))))))))) A) args s 0 0 A) 0 (wChan aZ aR aT aD aY aP aC aO aA aM ++ (wReader aR aT aD uR ++ (wTape aT cI uT ++ (wPlan aD cI uD ++ (wPlay aY aP aS (mk_crs aC aO uQ) cI uY ++ (wPlan aP cI uP ++ (wStack aS cI uS ++ (wCourse aC cI uC ++ (wCourse aO cI uO ++ (wActs aA cI uA ++ (wMeans aM cJ uM))))))))))) [(0, .ref (aZ 0))] []
  unfold f_Z_deepest at hf
  refine mk_aload_n C 0 dX8_deepest_0 rfl ?_
  refine mk_get C mk_inX8 0 rfl rfl 4 (by decide) mw_346 (v := .ref (aP 0)) rfl dX8_deepest_1 ?_
  obtain ⟨r1, h2, hf⟩ := b1_some hf
  refine mk_callVi C (c_P_stands l D cI cJ X Y aP uP r1 h2) mw_693 mw_694 mw_695 mw_4 mw_696 mkn_X3_stands rfl ⟨Nat.le_of_ble_eq_true rfl, Nat.le_of_ble_eq_true rfl⟩ 12 rfl rfl rfl (fr_Z_P cI cJ aZ aR aT aD aY aP aS aC aO aA aM uQ uR uT uD uY uP uS uC uO uA uM uP) (Nat.le_of_ble_eq_true rfl) dX8_deepest_4 rfl ?_
  refine mk_if_eq C 27 dX8_deepest_7 (by decide) (fun c3 => ?_) (fun c3 => ?_)
  · replace hf := (if_pos c3).symm.trans hf
    refine mk_bipush C (v := (-2)) dX8_deepest_27 (by decide) ?_
    have e0 := Option.some.inj hf
    exact mk_iret C hr hlk e0 rfl dX8_deepest_29
  · replace hf := (if_neg c3).symm.trans hf
    refine mk_aload_n C 0 dX8_deepest_10 rfl ?_
    refine mk_get C mk_inX8 0 rfl rfl 5 (by decide) mw_347 (v := .ref (aC 0)) rfl dX8_deepest_11 ?_
    refine mk_aload_n C 0 dX8_deepest_14 rfl ?_
    refine mk_get C mk_inX8 0 rfl rfl 4 (by decide) mw_346 (v := .ref (aP 0)) rfl dX8_deepest_15 ?_
    refine mk_get C mk_inX3 12 rfl rfl 1 (by decide) mw_62 (v := .int (uP 1 0)) rfl dX8_deepest_18 ?_
    obtain ⟨r4, h5, hf⟩ := b1_some hf
    refine mk_callVi C (c_C_greatestDepth l D cI cJ X Y aC uC (uP 1 0) r4 h5) mw_739 mw_740 mw_741 mw_7 mw_742 mkn_X1_greatestDepth rfl ⟨Nat.le_of_ble_eq_true rfl, Nat.le_of_ble_eq_true rfl⟩ 22 rfl rfl rfl (fr_Z_C cI cJ aZ aR aT aD aY aP aS aC aO aA aM uQ uR uT uD uY uP uS uC uO uA uM uC) (Nat.le_of_ble_eq_true rfl) dX8_deepest_21 rfl ?_
    refine mk_goto C 29 dX8_deepest_24 (by decide) ?_
    have e0 := Option.some.inj hf
    exact mk_iret C hr hlk e0 rfl dX8_deepest_29
set_option maxHeartbeats 40000000 in
set_option maxRecDepth 100000 in
theorem c_Z_epochs (l : Launch) (D : va_G) (cI cJ : ClassId) (X Y : Nat → Nat) (aZ aR aT aD aY aP aS aC aO aA aM : Nat → Nat) (uQ : Nat) (uR : Nat → Nat → Int32) (uT : Nat → Nat → Int32) (uD : Nat → Nat → Int32) (uY : Nat → Nat → Int32) (uP : Nat → Nat → Int32) (uS : Nat → Nat → Int32) (uC : Nat → Nat → Int32) (uO : Nat → Nat → Int32) (uA : Nat → Nat → Int32) (uM : Nat → Nat → Int64) (r : Int32) (hf : f_Z_epochs uP uC = some r) : mk_Met l yX8_epochs cX8_epochs 1 (some .int) ({ frames := 1, cells := 0, slots := 0, locals := 20 }) D [(cI, .int), (cJ, .long)] X Y [.ref (aZ 0)] (wChan aZ aR aT aD aY aP aC aO aA aM ++ (wReader aR aT aD uR ++ (wTape aT cI uT ++ (wPlan aD cI uD ++ (wPlay aY aP aS (mk_crs aC aO uQ) cI uY ++ (wPlan aP cI uP ++ (wStack aS cI uS ++ (wCourse aC cI uC ++ (wCourse aO cI uO ++ (wActs aA cI uA ++ (wMeans aM cJ uM))))))))))) (wChan aZ aR aT aD aY aP aC aO aA aM ++ (wReader aR aT aD uR ++ (wTape aT cI uT ++ (wPlan aD cI uD ++ (wPlay aY aP aS (mk_crs aC aO uQ) cI uY ++ (wPlan aP cI uP ++ (wStack aS cI uS ++ (wCourse aC cI uC ++ (wCourse aO cI uO ++ (wActs aA cI uA ++ (wMeans aM cJ uM))))))))))) (some (.int r)) 0 0 := by
  refine mk_start (own := RX8) (by decide) rfl (Nat.le_of_ble_eq_true rfl) ?_
  intro sz p e s m args below meth c A C hr hlk hnm
  replace C : mk_Cx p s m args c cX8_epochs 1 RX8 D [(cI, .int), (cJ, .long)] X Y A := C
  show mk_Go p l e (headSpec (mk_ws yX8_epochs cX8_epochs 1 (some .int)) ({ frames := 1, cells := 0, slots := 0, locals := 20 })).room s m args below meth c D A 1 0 0 (MQ below (mk_Q (some (.int r)) D (wChan aZ aR aT aD aY aP aC aO aA aM ++ (wReader aR aT aD uR ++ (wTape aT cI uT ++ (wPlan aD cI uD ++ (wPlay aY aP aS (mk_crs aC aO uQ) cI uY ++ (wPlan aP cI uP ++ (wStack aS cI uS ++ (wCourse aC cI uC ++ (wCourse aO cI uO ++ (wActs aA cI uA ++ (wMeans aM cJ uM))))))))))) A) args s 0 0 A) 0 (wChan aZ aR aT aD aY aP aC aO aA aM ++ (wReader aR aT aD uR ++ (wTape aT cI uT ++ (wPlan aD cI uD ++ (wPlay aY aP aS (mk_crs aC aO uQ) cI uY ++ (wPlan aP cI uP ++ (wStack aS cI uS ++ (wCourse aC cI uC ++ (wCourse aO cI uO ++ (wActs aA cI uA ++ (wMeans aM cJ uM))))))))))) [(0, .ref (aZ 0))] []
  unfold f_Z_epochs at hf
  refine mk_aload_n C 0 dX8_epochs_0 rfl ?_
  refine mk_get C mk_inX8 0 rfl rfl 4 (by decide) mw_346 (v := .ref (aP 0)) rfl dX8_epochs_1 ?_
  obtain ⟨r1, h2, hf⟩ := b1_some hf
  refine mk_callVi C (c_P_stands l D cI cJ X Y aP uP r1 h2) mw_693 mw_694 mw_695 mw_4 mw_696 mkn_X3_stands rfl ⟨Nat.le_of_ble_eq_true rfl, Nat.le_of_ble_eq_true rfl⟩ 12 rfl rfl rfl (fr_Z_P cI cJ aZ aR aT aD aY aP aS aC aO aA aM uQ uR uT uD uY uP uS uC uO uA uM uP) (Nat.le_of_ble_eq_true rfl) dX8_epochs_4 rfl ?_
  refine mk_if_eq C 20 dX8_epochs_7 (by decide) (fun c3 => ?_) (fun c3 => ?_)
  · replace hf := (if_pos c3).symm.trans hf
    refine mk_bipush C (v := (-2)) dX8_epochs_20 (by decide) ?_
    have e0 := Option.some.inj hf
    exact mk_iret C hr hlk e0 rfl dX8_epochs_22
  · replace hf := (if_neg c3).symm.trans hf
    refine mk_aload_n C 0 dX8_epochs_10 rfl ?_
    refine mk_get C mk_inX8 0 rfl rfl 5 (by decide) mw_347 (v := .ref (aC 0)) rfl dX8_epochs_11 ?_
    refine mk_get C mk_inX1 22 rfl rfl 13 (by decide) mw_224 (v := .int (uC 13 0)) rfl dX8_epochs_14 ?_
    refine mk_goto C 22 dX8_epochs_17 (by decide) ?_
    have e0 := Option.some.inj hf
    exact mk_iret C hr hlk e0 rfl dX8_epochs_22
set_option maxHeartbeats 40000000 in
set_option maxRecDepth 100000 in
theorem c_Z_epoch (l : Launch) (D : va_G) (cI cJ : ClassId) (X Y : Nat → Nat) (aZ aR aT aD aY aP aS aC aO aA aM : Nat → Nat) (uQ : Nat) (uR : Nat → Nat → Int32) (uT : Nat → Nat → Int32) (uD : Nat → Nat → Int32) (uY : Nat → Nat → Int32) (uP : Nat → Nat → Int32) (uS : Nat → Nat → Int32) (uC : Nat → Nat → Int32) (uO : Nat → Nat → Int32) (uA : Nat → Nat → Int32) (uM : Nat → Nat → Int64) (p1 : Int32) (p2 : Int32) (r : Int32) (hf : f_Z_epoch uP uC p1 p2 = some r) : mk_Met l yX8_epoch cX8_epoch 3 (some .int) ({ frames := 1, cells := 0, slots := 0, locals := 21 }) D [(cI, .int), (cJ, .long)] X Y [.ref (aZ 0), .int p1, .int p2] (wChan aZ aR aT aD aY aP aC aO aA aM ++ (wReader aR aT aD uR ++ (wTape aT cI uT ++ (wPlan aD cI uD ++ (wPlay aY aP aS (mk_crs aC aO uQ) cI uY ++ (wPlan aP cI uP ++ (wStack aS cI uS ++ (wCourse aC cI uC ++ (wCourse aO cI uO ++ (wActs aA cI uA ++ (wMeans aM cJ uM))))))))))) (wChan aZ aR aT aD aY aP aC aO aA aM ++ (wReader aR aT aD uR ++ (wTape aT cI uT ++ (wPlan aD cI uD ++ (wPlay aY aP aS (mk_crs aC aO uQ) cI uY ++ (wPlan aP cI uP ++ (wStack aS cI uS ++ (wCourse aC cI uC ++ (wCourse aO cI uO ++ (wActs aA cI uA ++ (wMeans aM cJ uM))))))))))) (some (.int r)) 0 0 := by
  refine mk_start (own := RX8) (by decide) rfl (Nat.le_of_ble_eq_true rfl) ?_
  intro sz p e s m args below meth c A C hr hlk hnm
  replace C : mk_Cx p s m args c cX8_epoch 3 RX8 D [(cI, .int), (cJ, .long)] X Y A := C
  show mk_Go p l e (headSpec (mk_ws yX8_epoch cX8_epoch 3 (some .int)) ({ frames := 1, cells := 0, slots := 0, locals := 21 })).room s m args below meth c D A 3 0 0 (MQ below (mk_Q (some (.int r)) D (wChan aZ aR aT aD aY aP aC aO aA aM ++ (wReader aR aT aD uR ++ (wTape aT cI uT ++ (wPlan aD cI uD ++ (wPlay aY aP aS (mk_crs aC aO uQ) cI uY ++ (wPlan aP cI uP ++ (wStack aS cI uS ++ (wCourse aC cI uC ++ (wCourse aO cI uO ++ (wActs aA cI uA ++ (wMeans aM cJ uM))))))))))) A) args s 0 0 A) 0 (wChan aZ aR aT aD aY aP aC aO aA aM ++ (wReader aR aT aD uR ++ (wTape aT cI uT ++ (wPlan aD cI uD ++ (wPlay aY aP aS (mk_crs aC aO uQ) cI uY ++ (wPlan aP cI uP ++ (wStack aS cI uS ++ (wCourse aC cI uC ++ (wCourse aO cI uO ++ (wActs aA cI uA ++ (wMeans aM cJ uM))))))))))) [(0, .ref (aZ 0)), (1, .int p1), (2, .int p2)] []
  unfold f_Z_epoch at hf
  refine mk_iload_n C 1 dX8_epoch_0 rfl ?_
  refine mk_if_lt C 23 dX8_epoch_1 (by decide) (fun c1 => ?_) (fun c1 => ?_)
  · replace hf := (if_pos c1).symm.trans hf
    refine mk_bipush C (v := (-2)) dX8_epoch_23 (by decide) ?_
    have e0 := Option.some.inj hf
    exact mk_iret C hr hlk e0 rfl dX8_epoch_25
  · replace hf := (if_neg c1).symm.trans hf
    refine mk_iload_n C 2 dX8_epoch_4 rfl ?_
    refine mk_if_lt C 23 dX8_epoch_5 (by decide) (fun c2 => ?_) (fun c2 => ?_)
    · replace hf := (if_pos c2).symm.trans hf
      refine mk_bipush C (v := (-2)) dX8_epoch_23 (by decide) ?_
      have e0 := Option.some.inj hf
      exact mk_iret C hr hlk e0 rfl dX8_epoch_25
    · replace hf := (if_neg c2).symm.trans hf
      refine mk_iload_n C 2 dX8_epoch_8 rfl ?_
      refine mk_iconst C (v := 2) dX8_epoch_9 (by decide) ?_
      refine mk_icmp_gt C 23 dX8_epoch_10 (by decide) (fun c3 => ?_) (fun c3 => ?_)
      · replace hf := (if_pos c3).symm.trans hf
        refine mk_bipush C (v := (-2)) dX8_epoch_23 (by decide) ?_
        have e0 := Option.some.inj hf
        exact mk_iret C hr hlk e0 rfl dX8_epoch_25
      · replace hf := (if_neg c3).symm.trans hf
        refine mk_aload_n C 0 dX8_epoch_13 rfl ?_
        refine mk_get C mk_inX8 0 rfl rfl 4 (by decide) mw_346 (v := .ref (aP 0)) rfl dX8_epoch_14 ?_
        obtain ⟨r4, h5, hf⟩ := b1_some hf
        refine mk_callVi C (c_P_stands l D cI cJ X Y aP uP r4 h5) mw_693 mw_694 mw_695 mw_4 mw_696 mkn_X3_stands rfl ⟨Nat.le_of_ble_eq_true rfl, Nat.le_of_ble_eq_true rfl⟩ 12 rfl rfl rfl (fr_Z_P cI cJ aZ aR aT aD aY aP aS aC aO aA aM uQ uR uT uD uY uP uS uC uO uA uM uP) (Nat.le_of_ble_eq_true rfl) dX8_epoch_17 rfl ?_
        refine mk_if_ne C 26 dX8_epoch_20 (by decide) (fun c6 => ?_) (fun c6 => ?_)
        · replace hf := (if_neg c6).symm.trans hf
          refine mk_iload_n C 1 dX8_epoch_26 rfl ?_
          refine mk_aload_n C 0 dX8_epoch_27 rfl ?_
          refine mk_get C mk_inX8 0 rfl rfl 5 (by decide) mw_347 (v := .ref (aC 0)) rfl dX8_epoch_28 ?_
          refine mk_get C mk_inX1 22 rfl rfl 13 (by decide) mw_224 (v := .int (uC 13 0)) rfl dX8_epoch_31 ?_
          refine mk_icmp_lt C 39 dX8_epoch_34 (by decide) (fun c7 => ?_) (fun c7 => ?_)
          · replace hf := (if_pos c7).symm.trans hf
            refine mk_iload_n C 2 dX8_epoch_39 rfl ?_
            by_cases c8 : p2 = 0
            · replace hf := (if_pos c8).symm.trans hf
              refine mk_lookup C (off := 28) 68 dX8_epoch_40 (by decide) (by rw [c8]; first | done | rfl) (by decide) ?_
              refine mk_aload_n C 0 dX8_epoch_68 rfl ?_
              refine mk_get C mk_inX8 0 rfl rfl 5 (by decide) mw_347 (v := .ref (aC 0)) rfl dX8_epoch_69 ?_
              refine mk_get C mk_inX1 22 rfl rfl 10 (by decide) mw_216 (v := .ref (aC 11)) rfl dX8_epoch_72 ?_
              refine mk_iload_n C 1 dX8_epoch_75 rfl ?_
              refine mk_callSi C (c_at l D cI cJ X Y (aC 11) 200 (uC 10) p1) mw_659 mw_402 mw_1 mw_403 mkn_X8_at rfl ⟨Nat.le_of_ble_eq_true rfl, Nat.le_of_ble_eq_true rfl⟩ (mk_Fr.at (q := 32) rfl) (Nat.le_of_ble_eq_true rfl) dX8_epoch_76 rfl ?_
              have e0 := Option.some.inj hf
              exact mk_iret C hr hlk e0 rfl dX8_epoch_79
            · replace hf := (if_neg c8).symm.trans hf
              by_cases c9 : p2 = 1
              · replace hf := (if_pos c9).symm.trans hf
                refine mk_lookup C (off := 40) 80 dX8_epoch_40 (by decide) (by rw [c9]; first | done | rfl) (by decide) ?_
                refine mk_aload_n C 0 dX8_epoch_80 rfl ?_
                refine mk_get C mk_inX8 0 rfl rfl 5 (by decide) mw_347 (v := .ref (aC 0)) rfl dX8_epoch_81 ?_
                refine mk_get C mk_inX1 22 rfl rfl 11 (by decide) mw_219 (v := .ref (aC 12)) rfl dX8_epoch_84 ?_
                refine mk_iload_n C 1 dX8_epoch_87 rfl ?_
                refine mk_callSi C (c_at l D cI cJ X Y (aC 12) 200 (uC 11) p1) mw_659 mw_402 mw_1 mw_403 mkn_X8_at rfl ⟨Nat.le_of_ble_eq_true rfl, Nat.le_of_ble_eq_true rfl⟩ (mk_Fr.at (q := 33) rfl) (Nat.le_of_ble_eq_true rfl) dX8_epoch_88 rfl ?_
                have e0 := Option.some.inj hf
                exact mk_iret C hr hlk e0 rfl dX8_epoch_91
              · replace hf := (if_neg c9).symm.trans hf
                refine mk_lookup C (off := 52) 92 dX8_epoch_40 (by decide) (by rw [lv_osw c8 (by decide), lv_osw c9 (by decide)]; first | done | rfl) (by decide) ?_
                refine mk_aload_n C 0 dX8_epoch_92 rfl ?_
                refine mk_get C mk_inX8 0 rfl rfl 5 (by decide) mw_347 (v := .ref (aC 0)) rfl dX8_epoch_93 ?_
                refine mk_get C mk_inX1 22 rfl rfl 12 (by decide) mw_221 (v := .ref (aC 13)) rfl dX8_epoch_96 ?_
                refine mk_iload_n C 1 dX8_epoch_99 rfl ?_
                refine mk_callSi C (c_at l D cI cJ X Y (aC 13) 200 (uC 12) p1) mw_659 mw_402 mw_1 mw_403 mkn_X8_at rfl ⟨Nat.le_of_ble_eq_true rfl, Nat.le_of_ble_eq_true rfl⟩ (mk_Fr.at (q := 34) rfl) (Nat.le_of_ble_eq_true rfl) dX8_epoch_100 rfl ?_
                have e0 := Option.some.inj hf
                exact mk_iret C hr hlk e0 rfl dX8_epoch_103
          · replace hf := (if_neg c7).symm.trans hf
            refine mk_iconst C (v := (-1)) dX8_epoch_37 (by decide) ?_
            have e0 := Option.some.inj hf
            exact mk_iret C hr hlk e0 rfl dX8_epoch_38
        · replace hf := (if_pos c6).symm.trans hf
          refine mk_bipush C (v := (-2)) dX8_epoch_23 (by decide) ?_
          have e0 := Option.some.inj hf
          exact mk_iret C hr hlk e0 rfl dX8_epoch_25
set_option maxHeartbeats 40000000 in
set_option maxRecDepth 100000 in
theorem c_Z_behind (l : Launch) (D : va_G) (cI cJ : ClassId) (X Y : Nat → Nat) (aZ aR aT aD aY aP aS aC aO aA aM : Nat → Nat) (uQ : Nat) (uR : Nat → Nat → Int32) (uT : Nat → Nat → Int32) (uD : Nat → Nat → Int32) (uY : Nat → Nat → Int32) (uP : Nat → Nat → Int32) (uS : Nat → Nat → Int32) (uC : Nat → Nat → Int32) (uO : Nat → Nat → Int32) (uA : Nat → Nat → Int32) (uM : Nat → Nat → Int64) (p1 : Int32) (r : Int32) (hf : f_Z_behind uP uC p1 = some r) : mk_Met l yX8_behind cX8_behind 7 (some .int) ({ frames := 1, cells := 0, slots := 0, locals := 21 }) D [(cI, .int), (cJ, .long)] X Y [.ref (aZ 0), .int p1] (wChan aZ aR aT aD aY aP aC aO aA aM ++ (wReader aR aT aD uR ++ (wTape aT cI uT ++ (wPlan aD cI uD ++ (wPlay aY aP aS (mk_crs aC aO uQ) cI uY ++ (wPlan aP cI uP ++ (wStack aS cI uS ++ (wCourse aC cI uC ++ (wCourse aO cI uO ++ (wActs aA cI uA ++ (wMeans aM cJ uM))))))))))) (wChan aZ aR aT aD aY aP aC aO aA aM ++ (wReader aR aT aD uR ++ (wTape aT cI uT ++ (wPlan aD cI uD ++ (wPlay aY aP aS (mk_crs aC aO uQ) cI uY ++ (wPlan aP cI uP ++ (wStack aS cI uS ++ (wCourse aC cI uC ++ (wCourse aO cI uO ++ (wActs aA cI uA ++ (wMeans aM cJ uM))))))))))) (some (.int r)) 0 0 := by
  refine mk_start (own := RX8) (by decide) rfl (Nat.le_of_ble_eq_true rfl) ?_
  intro sz p e s m args below meth c A C hr hlk hnm
  replace C : mk_Cx p s m args c cX8_behind 7 RX8 D [(cI, .int), (cJ, .long)] X Y A := C
  have wL61 : ∀ (n : Nat) (v3 : Int32) (v4 : Int32) (v5 : Int32), f_Z_behind_61 uP uC p1 n v3 v4 v5 = some r → mk_Go p l e (headSpec (mk_ws yX8_behind cX8_behind 7 (some .int)) ({ frames := 1, cells := 0, slots := 0, locals := 21 })).room s m args below meth c D A 7 0 0 (MQ below (mk_Q (some (.int r)) D (wChan aZ aR aT aD aY aP aC aO aA aM ++ (wReader aR aT aD uR ++ (wTape aT cI uT ++ (wPlan aD cI uD ++ (wPlay aY aP aS (mk_crs aC aO uQ) cI uY ++ (wPlan aP cI uP ++ (wStack aS cI uS ++ (wCourse aC cI uC ++ (wCourse aO cI uO ++ (wActs aA cI uA ++ (wMeans aM cJ uM))))))))))) A) args s 0 0 A) 61 (wChan aZ aR aT aD aY aP aC aO aA aM ++ (wReader aR aT aD uR ++ (wTape aT cI uT ++ (wPlan aD cI uD ++ (wPlay aY aP aS (mk_crs aC aO uQ) cI uY ++ (wPlan aP cI uP ++ (wStack aS cI uS ++ (wCourse aC cI uC ++ (wCourse aO cI uO ++ (wActs aA cI uA ++ (wMeans aM cJ uM))))))))))) [(0, .ref (aZ 0)), (1, .int p1), (3, .int v3), (4, .int v4), (5, .int v5)] [] := by
    intro  n
    induction n with
    | zero => intro v3 v4 v5 hf; exact nomatch (show (none : Option (Int32)) = some _ from hf)
    | succ n ih =>
      intro v3 v4 v5 hf
      rw [f_Z_behind_61] at hf
      refine mk_iload C 4 dX8_behind_61 rfl ?_
      refine mk_iload_n C 2 dX8_behind_63 rfl ?_
      refine mk_icmp_gt C 102 dX8_behind_64 (by decide) (fun c1 => ?_) (fun c1 => ?_)
      · replace hf := (if_pos c1).symm.trans hf
        refine mk_iload C 3 dX8_behind_102 rfl ?_
        have e0 := Option.some.inj hf
        exact mk_iret C hr hlk e0 rfl dX8_behind_104
      · replace hf := (if_neg c1).symm.trans hf
        refine mk_aload_n C 0 dX8_behind_67 rfl ?_
        refine mk_get C mk_inX8 0 rfl rfl 5 (by decide) mw_347 (v := .ref (aC 0)) rfl dX8_behind_68 ?_
        refine mk_get C mk_inX1 22 rfl rfl 2 (by decide) mw_195 (v := .ref (aC 3)) rfl dX8_behind_71 ?_
        refine mk_iload C 4 dX8_behind_74 rfl ?_
        refine mk_callSi C (c_at l D cI cJ X Y (aC 3) 200 (uC 2) v5) mw_659 mw_402 mw_1 mw_403 mkn_X8_at rfl ⟨Nat.le_of_ble_eq_true rfl, Nat.le_of_ble_eq_true rfl⟩ (mk_Fr.at (q := 25) rfl) (Nat.le_of_ble_eq_true rfl) dX8_behind_76 rfl ?_
        refine mk_istore C (lv' := [(6, .int (mkAt 200 (uC 2) v5)), (0, .ref (aZ 0)), (1, .int p1), (3, .int v3), (4, .int v4), (5, .int v5)]) dX8_behind_79 (by decide) rfl ?_
        refine mk_iload C 0 dX8_behind_81 rfl ?_
        refine mk_iconst C (v := (-1)) dX8_behind_83 (by decide) ?_
        refine mk_icmp_eq C 96 dX8_behind_84 (by decide) (fun c2 => ?_) (fun c2 => ?_)
        · replace hf := (if_pos c2).symm.trans hf
          refine mk_iinc C (v := (v5 + 1)) (lv' := [(5, .int (v5 + 1)), (6, .int (mkAt 200 (uC 2) v5)), (0, .ref (aZ 0)), (1, .int p1), (3, .int v3), (4, .int v4)]) 5 dX8_behind_96 rfl rfl (by decide) rfl ?_
          refine mk_goto C 61 dX8_behind_99 (by decide) ?_
          exact mk_lvsub [2, 3, 4, 5, 0] rfl (ih _ _ _ hf)
        · replace hf := (if_neg c2).symm.trans hf
          refine mk_iload C 0 dX8_behind_87 rfl ?_
          refine mk_iload_n C 2 dX8_behind_89 rfl ?_
          refine mk_icmp_eq C 96 dX8_behind_90 (by decide) (fun c3 => ?_) (fun c3 => ?_)
          · replace hf := (if_pos c3).symm.trans hf
            refine mk_iinc C (v := (v5 + 1)) (lv' := [(5, .int (v5 + 1)), (6, .int (mkAt 200 (uC 2) v5)), (0, .ref (aZ 0)), (1, .int p1), (3, .int v3), (4, .int v4)]) 5 dX8_behind_96 rfl rfl (by decide) rfl ?_
            refine mk_goto C 61 dX8_behind_99 (by decide) ?_
            exact mk_lvsub [2, 3, 4, 5, 0] rfl (ih _ _ _ hf)
          · replace hf := (if_neg c3).symm.trans hf
            refine mk_iinc C (v := (v4 + 1)) (lv' := [(4, .int (v4 + 1)), (6, .int (mkAt 200 (uC 2) v5)), (0, .ref (aZ 0)), (1, .int p1), (3, .int v3), (5, .int v5)]) 4 dX8_behind_93 rfl rfl (by decide) rfl ?_
            refine mk_iinc C (v := (v5 + 1)) (lv' := [(5, .int (v5 + 1)), (4, .int (v4 + 1)), (6, .int (mkAt 200 (uC 2) v5)), (0, .ref (aZ 0)), (1, .int p1), (3, .int v3)]) 5 dX8_behind_96 rfl rfl (by decide) rfl ?_
            refine mk_goto C 61 dX8_behind_99 (by decide) ?_
            exact mk_lvsub [3, 4, 5, 1, 0] rfl (ih _ _ _ hf)
  have wL44 : ∀ (t0 : Int32), f_Z_behind_44 uP uC p1 t0 = some r → mk_Go p l e (headSpec (mk_ws yX8_behind cX8_behind 7 (some .int)) ({ frames := 1, cells := 0, slots := 0, locals := 21 })).room s m args below meth c D A 7 0 0 (MQ below (mk_Q (some (.int r)) D (wChan aZ aR aT aD aY aP aC aO aA aM ++ (wReader aR aT aD uR ++ (wTape aT cI uT ++ (wPlan aD cI uD ++ (wPlay aY aP aS (mk_crs aC aO uQ) cI uY ++ (wPlan aP cI uP ++ (wStack aS cI uS ++ (wCourse aC cI uC ++ (wCourse aO cI uO ++ (wActs aA cI uA ++ (wMeans aM cJ uM))))))))))) A) args s 0 0 A) 44 (wChan aZ aR aT aD aY aP aC aO aA aM ++ (wReader aR aT aD uR ++ (wTape aT cI uT ++ (wPlan aD cI uD ++ (wPlay aY aP aS (mk_crs aC aO uQ) cI uY ++ (wPlan aP cI uP ++ (wStack aS cI uS ++ (wCourse aC cI uC ++ (wCourse aO cI uO ++ (wActs aA cI uA ++ (wMeans aM cJ uM))))))))))) [(0, .ref (aZ 0)), (1, .int p1)] [.int t0] := by
    intro  t0 hf
    unfold f_Z_behind_44 at hf
    refine mk_istore_n C (lv' := [(3, .int t0), (0, .ref (aZ 0)), (1, .int p1)]) dX8_behind_44 (by decide) rfl ?_
    refine mk_iconst C (v := 0) dX8_behind_45 (by decide) ?_
    refine mk_istore C (lv' := [(4, .int 0), (3, .int t0), (0, .ref (aZ 0)), (1, .int p1)]) dX8_behind_46 (by decide) rfl ?_
    refine mk_aload_n C 2 dX8_behind_48 rfl ?_
    refine mk_get C mk_inX8 0 rfl rfl 4 (by decide) mw_346 (v := .ref (aP 0)) rfl dX8_behind_49 ?_
    refine mk_get C mk_inX3 12 rfl rfl 7 (by decide) mw_86 (v := .ref (aP 8)) rfl dX8_behind_52 ?_
    refine mk_iload_n C 3 dX8_behind_55 rfl ?_
    refine mk_callSi C (c_at l D cI cJ X Y (aP 8) 10 (uP 7) p1) mw_659 mw_402 mw_1 mw_403 mkn_X8_at rfl ⟨Nat.le_of_ble_eq_true rfl, Nat.le_of_ble_eq_true rfl⟩ (mk_Fr.at (q := 13) rfl) (Nat.le_of_ble_eq_true rfl) dX8_behind_56 rfl ?_
    refine mk_istore C (lv' := [(5, .int (mkAt 10 (uP 7) p1)), (4, .int 0), (3, .int t0), (0, .ref (aZ 0)), (1, .int p1)]) dX8_behind_59 (by decide) rfl ?_
    exact mk_lvsub [3, 4, 2, 1, 0] rfl (wL61 600 _ _ _ hf)
  show mk_Go p l e (headSpec (mk_ws yX8_behind cX8_behind 7 (some .int)) ({ frames := 1, cells := 0, slots := 0, locals := 21 })).room s m args below meth c D A 7 0 0 (MQ below (mk_Q (some (.int r)) D (wChan aZ aR aT aD aY aP aC aO aA aM ++ (wReader aR aT aD uR ++ (wTape aT cI uT ++ (wPlan aD cI uD ++ (wPlay aY aP aS (mk_crs aC aO uQ) cI uY ++ (wPlan aP cI uP ++ (wStack aS cI uS ++ (wCourse aC cI uC ++ (wCourse aO cI uO ++ (wActs aA cI uA ++ (wMeans aM cJ uM))))))))))) A) args s 0 0 A) 0 (wChan aZ aR aT aD aY aP aC aO aA aM ++ (wReader aR aT aD uR ++ (wTape aT cI uT ++ (wPlan aD cI uD ++ (wPlay aY aP aS (mk_crs aC aO uQ) cI uY ++ (wPlan aP cI uP ++ (wStack aS cI uS ++ (wCourse aC cI uC ++ (wCourse aO cI uO ++ (wActs aA cI uA ++ (wMeans aM cJ uM))))))))))) [(0, .ref (aZ 0)), (1, .int p1)] []
  unfold f_Z_behind at hf
  refine mk_aload_n C 0 dX8_behind_0 rfl ?_
  refine mk_get C mk_inX8 0 rfl rfl 4 (by decide) mw_346 (v := .ref (aP 0)) rfl dX8_behind_1 ?_
  refine mk_iload_n C 1 dX8_behind_4 rfl ?_
  obtain ⟨r4, h5, hf⟩ := b1_some hf
  refine mk_callVi C (c_P_hasSender l D cI cJ X Y aP uP p1 r4 h5) mw_655 mw_656 mw_657 mw_4 mw_658 mkn_X3_hasSender rfl ⟨Nat.le_of_ble_eq_true rfl, Nat.le_of_ble_eq_true rfl⟩ 12 rfl rfl rfl (fr_Z_P cI cJ aZ aR aT aD aY aP aS aC aO aA aM uQ uR uT uD uY uP uS uC uO uA uM uP) (Nat.le_of_ble_eq_true rfl) dX8_behind_5 rfl ?_
  refine mk_if_ne C 14 dX8_behind_8 (by decide) (fun c6 => ?_) (fun c6 => ?_)
  · replace hf := (if_neg c6).symm.trans hf
    refine mk_aload_n C 0 dX8_behind_14 rfl ?_
    refine mk_get C mk_inX8 0 rfl rfl 5 (by decide) mw_347 (v := .ref (aC 0)) rfl dX8_behind_15 ?_
    refine mk_get C mk_inX1 22 rfl rfl 5 (by decide) mw_203 (v := .ref (aC 6)) rfl dX8_behind_18 ?_
    refine mk_iload_n C 1 dX8_behind_21 rfl ?_
    refine mk_callSi C (c_at l D cI cJ X Y (aC 6) 10 (uC 5) p1) mw_659 mw_402 mw_1 mw_403 mkn_X8_at rfl ⟨Nat.le_of_ble_eq_true rfl, Nat.le_of_ble_eq_true rfl⟩ (mk_Fr.at (q := 28) rfl) (Nat.le_of_ble_eq_true rfl) dX8_behind_22 rfl ?_
    refine mk_istore_n C (lv' := [(2, .int (mkAt 10 (uC 5) p1)), (0, .ref (aZ 0)), (1, .int p1)]) dX8_behind_25 (by decide) rfl ?_
    refine mk_iload_n C 0 dX8_behind_26 rfl ?_
    refine mk_iconst C (v := (-1)) dX8_behind_27 (by decide) ?_
    refine mk_icmp_ne C 43 dX8_behind_28 (by decide) (fun c7 => ?_) (fun c7 => ?_)
    · replace hf := (if_neg c7).symm.trans hf
      refine mk_iload_n C 0 dX8_behind_43 rfl ?_
      exact mk_lvsub [1, 2] rfl (wL44 _ hf)
    · replace hf := (if_pos c7).symm.trans hf
      refine mk_aload_n C 1 dX8_behind_31 rfl ?_
      refine mk_get C mk_inX8 0 rfl rfl 4 (by decide) mw_346 (v := .ref (aP 0)) rfl dX8_behind_32 ?_
      refine mk_get C mk_inX3 12 rfl rfl 1 (by decide) mw_62 (v := .int (uP 1 0)) rfl dX8_behind_35 ?_
      refine mk_iconst C (v := 1) dX8_behind_38 (by decide) ?_
      refine mk_isub C dX8_behind_39 ?_
      refine mk_goto C 44 dX8_behind_40 (by decide) ?_
      exact mk_lvsub [1, 2] rfl (wL44 _ hf)
  · replace hf := (if_pos c6).symm.trans hf
    refine mk_bipush C (v := (-2)) dX8_behind_11 (by decide) ?_
    have e0 := Option.some.inj hf
    exact mk_iret C hr hlk e0 rfl dX8_behind_13
