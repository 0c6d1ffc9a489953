set_option maxHeartbeats 40000000 in
set_option maxRecDepth 100000 in
theorem c_Z_feed (l : Launch) (D : va_G) (cI cJ cB cZ cS : ClassId) (X : Nat → Nat) (Y : mk_Y) (aZ aR aT aD aY aP aS aC aO aA aM : Nat → Nat) (uQ : Nat) (uR : Nat → Nat → Int32) (uT : Nat → Nat → Int32) (uD : Nat → Nat → Int32) (uY : Nat → Nat → Int32) (uP : Nat → Nat → Int32) (uS : Nat → Nat → Int32) (uC : Nat → Nat → Int32) (uO : Nat → Nat → Int32) (uA : Nat → Nat → Int32) (uM : Nat → Nat → Int64) (p1 : Int32) (p2 : Int32) (p3 : Int32) (p4 : Int32) (p5 : Int32) (r : Int32) (wT : Nat → Nat → Int32) (hf : f_Z_feed uT p1 p2 p3 p4 p5 = some (r, wT)) : mk_Met l yX8_feed cX8_feed 6 (some .int) ({ frames := 2, cells := 0, slots := 0, locals := 44 }) D (mk_TY cI cJ cB cZ cS) X Y [.ref (aZ 0), .int p1, .int p2, .int p3, .int p4, .int p5] (wChan aZ aR aT aD aY aP aC aO aA aM ++ (wReader aR aT aD uR ++ (wTape aT cI uT ++ (wPlan aD cI uD ++ (wPlay aY aP aS (mk_crs aC aO uQ) cI uY ++ (wPlan aP cI uP ++ (wStack aS cI uS ++ (wCourse aC cI uC ++ (wCourse aO cI uO ++ (wActs aA cI uA ++ (wMeans aM cJ uM))))))))))) (wChan aZ aR aT aD aY aP aC aO aA aM ++ (wReader aR aT aD uR ++ (wTape aT cI wT ++ (wPlan aD cI uD ++ (wPlay aY aP aS (mk_crs aC aO uQ) cI uY ++ (wPlan aP cI uP ++ (wStack aS cI uS ++ (wCourse aC cI uC ++ (wCourse aO cI uO ++ (wActs aA cI uA ++ (wMeans aM cJ uM))))))))))) (some (.int r)) 0 0 := by
  refine mk_start (own := RX8) (by decide) rfl (Nat.le_of_ble_eq_true rfl) ?_
  intro sz p e s m args below meth c A C hr hlk hnm
  replace C : mk_Cx p s m args c cX8_feed 6 RX8 D (mk_TY cI cJ cB cZ cS) X Y A := C
  show mk_Go p l e (headSpec (mk_ws yX8_feed cX8_feed 6 (some .int)) ({ frames := 2, cells := 0, slots := 0, locals := 44 })).room s m args below meth c D A 6 0 0 (MQ below (mk_Q (some (.int r)) D (wChan aZ aR aT aD aY aP aC aO aA aM ++ (wReader aR aT aD uR ++ (wTape aT cI wT ++ (wPlan aD cI uD ++ (wPlay aY aP aS (mk_crs aC aO uQ) cI uY ++ (wPlan aP cI uP ++ (wStack aS cI uS ++ (wCourse aC cI uC ++ (wCourse aO cI uO ++ (wActs aA cI uA ++ (wMeans aM cJ uM))))))))))) A) args s 0 0 A) 0 (wChan aZ aR aT aD aY aP aC aO aA aM ++ (wReader aR aT aD uR ++ (wTape aT cI uT ++ (wPlan aD cI uD ++ (wPlay aY aP aS (mk_crs aC aO uQ) cI uY ++ (wPlan aP cI uP ++ (wStack aS cI uS ++ (wCourse aC cI uC ++ (wCourse aO cI uO ++ (wActs aA cI uA ++ (wMeans aM cJ uM))))))))))) [(0, .ref (aZ 0)), (1, .int p1), (2, .int p2), (3, .int p3), (4, .int p4), (5, .int p5)] []
  unfold f_Z_feed at hf
  refine mk_aload_n C 0 dX8_feed_0 rfl ?_
  refine mk_get C mk_inX8 0 rfl rfl 1 (by decide) mw_333 (v := .ref (aT 0)) rfl dX8_feed_1 ?_
  refine mk_get C mk_inX7 2 rfl rfl 1 (by decide) mw_45 (v := .int (uT 1 0)) rfl dX8_feed_4 ?_
  refine mk_bipush C (v := 20) dX8_feed_7 (by decide) ?_
  refine mk_iadd C dX8_feed_9 ?_
  refine mk_sipush C (v := 500) dX8_feed_10 (by decide) ?_
  refine mk_icmp_le C 18 dX8_feed_13 (by decide) (fun c1 => ?_) (fun c1 => ?_)
  · replace hf := (if_pos c1).symm.trans hf
    refine mk_aload_n C 0 dX8_feed_18 rfl ?_
    refine mk_get C mk_inX8 0 rfl rfl 1 (by decide) mw_333 (v := .ref (aT 0)) rfl dX8_feed_19 ?_
    refine mk_iload_n C 1 dX8_feed_22 rfl ?_
    obtain ⟨uT_2, h3, hf⟩ := b1_some hf
    refine mk_callVv C (c_T_append l D cI cJ cB cZ cS X Y aT uT p1 uT_2 h3) mw_961 mw_962 mw_963 mw_3 mw_964 mkn_X7_append rfl ⟨Nat.le_of_ble_eq_true rfl, Nat.le_of_ble_eq_true rfl⟩ 2 rfl rfl rfl (fr_Z_T cI cJ aZ aR aT aD aY aP aS aC aO aA aM uQ uR uT uD uY uP uS uC uO uA uM uT_2) (Nat.le_of_ble_eq_true rfl) dX8_feed_23 rfl ?_
    refine mk_aload_n C 0 dX8_feed_26 rfl ?_
    refine mk_get C mk_inX8 0 rfl rfl 1 (by decide) mw_333 (v := .ref (aT 0)) rfl dX8_feed_27 ?_
    refine mk_iload_n C 2 dX8_feed_30 rfl ?_
    obtain ⟨uT_4, h5, hf⟩ := b1_some hf
    refine mk_callVv C (c_T_append l D cI cJ cB cZ cS X Y aT uT_2 p2 uT_4 h5) mw_961 mw_962 mw_963 mw_3 mw_964 mkn_X7_append rfl ⟨Nat.le_of_ble_eq_true rfl, Nat.le_of_ble_eq_true rfl⟩ 2 rfl rfl rfl (fr_Z_T cI cJ aZ aR aT aD aY aP aS aC aO aA aM uQ uR uT_2 uD uY uP uS uC uO uA uM uT_4) (Nat.le_of_ble_eq_true rfl) dX8_feed_31 rfl ?_
    refine mk_aload_n C 0 dX8_feed_34 rfl ?_
    refine mk_get C mk_inX8 0 rfl rfl 1 (by decide) mw_333 (v := .ref (aT 0)) rfl dX8_feed_35 ?_
    refine mk_iload_n C 3 dX8_feed_38 rfl ?_
    obtain ⟨uT_6, h7, hf⟩ := b1_some hf
    refine mk_callVv C (c_T_append l D cI cJ cB cZ cS X Y aT uT_4 p3 uT_6 h7) mw_961 mw_962 mw_963 mw_3 mw_964 mkn_X7_append rfl ⟨Nat.le_of_ble_eq_true rfl, Nat.le_of_ble_eq_true rfl⟩ 2 rfl rfl rfl (fr_Z_T cI cJ aZ aR aT aD aY aP aS aC aO aA aM uQ uR uT_4 uD uY uP uS uC uO uA uM uT_6) (Nat.le_of_ble_eq_true rfl) dX8_feed_39 rfl ?_
    refine mk_aload_n C 0 dX8_feed_42 rfl ?_
    refine mk_get C mk_inX8 0 rfl rfl 1 (by decide) mw_333 (v := .ref (aT 0)) rfl dX8_feed_43 ?_
    refine mk_iload C 4 dX8_feed_46 rfl ?_
    obtain ⟨uT_8, h9, hf⟩ := b1_some hf
    refine mk_callVv C (c_T_append l D cI cJ cB cZ cS X Y aT uT_6 p4 uT_8 h9) mw_961 mw_962 mw_963 mw_3 mw_964 mkn_X7_append rfl ⟨Nat.le_of_ble_eq_true rfl, Nat.le_of_ble_eq_true rfl⟩ 2 rfl rfl rfl (fr_Z_T cI cJ aZ aR aT aD aY aP aS aC aO aA aM uQ uR uT_6 uD uY uP uS uC uO uA uM uT_8) (Nat.le_of_ble_eq_true rfl) dX8_feed_48 rfl ?_
    refine mk_aload_n C 0 dX8_feed_51 rfl ?_
    refine mk_get C mk_inX8 0 rfl rfl 1 (by decide) mw_333 (v := .ref (aT 0)) rfl dX8_feed_52 ?_
    refine mk_iload C 5 dX8_feed_55 rfl ?_
    obtain ⟨uT_10, h11, hf⟩ := b1_some hf
    refine mk_callVv C (c_T_append l D cI cJ cB cZ cS X Y aT uT_8 p5 uT_10 h11) mw_961 mw_962 mw_963 mw_3 mw_964 mkn_X7_append rfl ⟨Nat.le_of_ble_eq_true rfl, Nat.le_of_ble_eq_true rfl⟩ 2 rfl rfl rfl (fr_Z_T cI cJ aZ aR aT aD aY aP aS aC aO aA aM uQ uR uT_8 uD uY uP uS uC uO uA uM uT_10) (Nat.le_of_ble_eq_true rfl) dX8_feed_57 rfl ?_
    refine mk_aload_n C 0 dX8_feed_60 rfl ?_
    refine mk_get C mk_inX8 0 rfl rfl 1 (by decide) mw_333 (v := .ref (aT 0)) rfl dX8_feed_61 ?_
    refine mk_get C mk_inX7 2 rfl rfl 1 (by decide) mw_45 (v := .int (uT_10 1 0)) rfl dX8_feed_64 ?_
    have e := Option.some.inj hf
    obtain ⟨e0, e1⟩ := Prod.mk.inj e
    exact mk_iret C hr hlk e0 (by rw [← e1]) dX8_feed_67
  · replace hf := (if_neg c1).symm.trans hf
    refine mk_iconst C (v := (-1)) dX8_feed_16 (by decide) ?_
    have e := Option.some.inj hf
    obtain ⟨e0, e1⟩ := Prod.mk.inj e
    exact mk_iret C hr hlk e0 (by rw [← e1]) dX8_feed_17
set_option maxHeartbeats 40000000 in
set_option maxRecDepth 100000 in
theorem c_Z_end (l : Launch) (D : va_G) (cI cJ cB cZ cS : ClassId) (X : Nat → Nat) (Y : mk_Y) (aZ aR aT aD aY aP aS aC aO aA aM : Nat → Nat) (uQ : Nat) (uR : Nat → Nat → Int32) (uT : Nat → Nat → Int32) (uD : Nat → Nat → Int32) (uY : Nat → Nat → Int32) (uP : Nat → Nat → Int32) (uS : Nat → Nat → Int32) (uC : Nat → Nat → Int32) (uO : Nat → Nat → Int32) (uA : Nat → Nat → Int32) (uM : Nat → Nat → Int64) (p1 : Int32) (r : Int32) (wT : Nat → Nat → Int32) (hf : f_Z_end uT p1 = some (r, wT)) : mk_Met l yX8_end cX8_end 2 (some .int) ({ frames := 0, cells := 0, slots := 0, locals := 0 }) D (mk_TY cI cJ cB cZ cS) X Y [.ref (aZ 0), .int p1] (wChan aZ aR aT aD aY aP aC aO aA aM ++ (wReader aR aT aD uR ++ (wTape aT cI uT ++ (wPlan aD cI uD ++ (wPlay aY aP aS (mk_crs aC aO uQ) cI uY ++ (wPlan aP cI uP ++ (wStack aS cI uS ++ (wCourse aC cI uC ++ (wCourse aO cI uO ++ (wActs aA cI uA ++ (wMeans aM cJ uM))))))))))) (wChan aZ aR aT aD aY aP aC aO aA aM ++ (wReader aR aT aD uR ++ (wTape aT cI wT ++ (wPlan aD cI uD ++ (wPlay aY aP aS (mk_crs aC aO uQ) cI uY ++ (wPlan aP cI uP ++ (wStack aS cI uS ++ (wCourse aC cI uC ++ (wCourse aO cI uO ++ (wActs aA cI uA ++ (wMeans aM cJ uM))))))))))) (some (.int r)) 0 0 := by
  refine mk_start (own := RX8) (by decide) rfl (Nat.le_of_ble_eq_true rfl) ?_
  intro sz p e s m args below meth c A C hr hlk hnm
  replace C : mk_Cx p s m args c cX8_end 2 RX8 D (mk_TY cI cJ cB cZ cS) X Y A := C
  show mk_Go p l e (headSpec (mk_ws yX8_end cX8_end 2 (some .int)) ({ frames := 0, cells := 0, slots := 0, locals := 0 })).room s m args below meth c D A 2 0 0 (MQ below (mk_Q (some (.int r)) D (wChan aZ aR aT aD aY aP aC aO aA aM ++ (wReader aR aT aD uR ++ (wTape aT cI wT ++ (wPlan aD cI uD ++ (wPlay aY aP aS (mk_crs aC aO uQ) cI uY ++ (wPlan aP cI uP ++ (wStack aS cI uS ++ (wCourse aC cI uC ++ (wCourse aO cI uO ++ (wActs aA cI uA ++ (wMeans aM cJ uM))))))))))) A) args s 0 0 A) 0 (wChan aZ aR aT aD aY aP aC aO aA aM ++ (wReader aR aT aD uR ++ (wTape aT cI uT ++ (wPlan aD cI uD ++ (wPlay aY aP aS (mk_crs aC aO uQ) cI uY ++ (wPlan aP cI uP ++ (wStack aS cI uS ++ (wCourse aC cI uC ++ (wCourse aO cI uO ++ (wActs aA cI uA ++ (wMeans aM cJ uM))))))))))) [(0, .ref (aZ 0)), (1, .int p1)] []
  unfold f_Z_end at hf
  refine mk_iload_n C 1 dX8_end_0 rfl ?_
  refine mk_if_lt C 15 dX8_end_1 (by decide) (fun c1 => ?_) (fun c1 => ?_)
  · replace hf := (if_pos c1).symm.trans hf
    refine mk_iconst C (v := (-1)) dX8_end_15 (by decide) ?_
    have e := Option.some.inj hf
    obtain ⟨e0, e1⟩ := Prod.mk.inj e
    exact mk_iret C hr hlk e0 (by rw [← e1]) dX8_end_16
  · replace hf := (if_neg c1).symm.trans hf
    refine mk_iload_n C 1 dX8_end_4 rfl ?_
    refine mk_aload_n C 0 dX8_end_5 rfl ?_
    refine mk_get C mk_inX8 0 rfl rfl 1 (by decide) mw_333 (v := .ref (aT 0)) rfl dX8_end_6 ?_
    refine mk_get C mk_inX7 2 rfl rfl 1 (by decide) mw_45 (v := .int (uT 1 0)) rfl dX8_end_9 ?_
    refine mk_icmp_le C 17 dX8_end_12 (by decide) (fun c2 => ?_) (fun c2 => ?_)
    · replace hf := (if_pos c2).symm.trans hf
      refine mk_aload_n C 0 dX8_end_17 rfl ?_
      refine mk_get C mk_inX8 0 rfl rfl 1 (by decide) mw_333 (v := .ref (aT 0)) rfl dX8_end_18 ?_
      refine mk_iload_n C 1 dX8_end_21 rfl ?_
      refine mk_put C mk_inX7 tyX7 tyX7_ok nmX7 2 rfl rfl 1 (by decide) mw_45 rfl rfl rfl (Nat.le_of_ble_eq_true rfl) (ws' := (wChan aZ aR aT aD aY aP aC aO aA aM ++ (wReader aR aT aD uR ++ (wTape aT cI (upF 1 p1 uT) ++ (wPlan aD cI uD ++ (wPlay aY aP aS (mk_crs aC aO uQ) cI uY ++ (wPlan aP cI uP ++ (wStack aS cI uS ++ (wCourse aC cI uC ++ (wCourse aO cI uO ++ (wActs aA cI uA ++ (wMeans aM cJ uM)))))))))))) (st_ZRTDYPSCOAM_T_1 cI cJ aZ aR aT aD aY aP aS aC aO aA aM uQ uR uT uD uY uP uS uC uO uA uM p1) dX8_end_22 ?_
      refine mk_iload_n C 1 dX8_end_25 rfl ?_
      have e := Option.some.inj hf
      obtain ⟨e0, e1⟩ := Prod.mk.inj e
      exact mk_iret C hr hlk e0 (by rw [← e1]) dX8_end_26
    · replace hf := (if_neg c2).symm.trans hf
      refine mk_iconst C (v := (-1)) dX8_end_15 (by decide) ?_
      have e := Option.some.inj hf
      obtain ⟨e0, e1⟩ := Prod.mk.inj e
      exact mk_iret C hr hlk e0 (by rw [← e1]) dX8_end_16
set_option maxHeartbeats 40000000 in
set_option maxRecDepth 100000 in
theorem c_Z_channel (l : Launch) (D : va_G) (cI cJ cB cZ cS : ClassId) (X : Nat → Nat) (Y : mk_Y) (aZ aR aT aD aY aP aS aC aO aA aM : Nat → Nat) (uQ : Nat) (uR : Nat → Nat → Int32) (uT : Nat → Nat → Int32) (uD : Nat → Nat → Int32) (uY : Nat → Nat → Int32) (uP : Nat → Nat → Int32) (uS : Nat → Nat → Int32) (uC : Nat → Nat → Int32) (uO : Nat → Nat → Int32) (uA : Nat → Nat → Int32) (uM : Nat → Nat → Int64) (r : Int32) (wQ : Nat) (wR : Nat → Nat → Int32) (wT : Nat → Nat → Int32) (wD : Nat → Nat → Int32) (wY : Nat → Nat → Int32) (wP : Nat → Nat → Int32) (wS : Nat → Nat → Int32) (wC : Nat → Nat → Int32) (wA : Nat → Nat → Int32) (hf : f_Z_channel uQ uR uT uD uY uP uS uC uA = some (r, wQ, wR, wT, wD, wY, wP, wS, wC, wA)) : mk_Met l yX8_channel cX8_channel 2 (some .int) ({ frames := 11, cells := 0, slots := 0, locals := 286 }) D (mk_TY cI cJ cB cZ cS) X Y [.ref (aZ 0)] (wChan aZ aR aT aD aY aP aC aO aA aM ++ (wReader aR aT aD uR ++ (wTape aT cI uT ++ (wPlan aD cI uD ++ (wPlay aY aP aS (mk_crs aC aO uQ) cI uY ++ (wPlan aP cI uP ++ (wStack aS cI uS ++ (wCourse aC cI uC ++ (wCourse aO cI uO ++ (wActs aA cI uA ++ (wMeans aM cJ uM))))))))))) (wChan aZ aR aT aD aY aP aC aO aA aM ++ (wReader aR aT aD wR ++ (wTape aT cI wT ++ (wPlan aD cI wD ++ (wPlay aY aP aS (mk_crs aC aO wQ) cI wY ++ (wPlan aP cI wP ++ (wStack aS cI wS ++ (wCourse aC cI wC ++ (wCourse aO cI uO ++ (wActs aA cI wA ++ (wMeans aM cJ uM))))))))))) (some (.int r)) 0 0 := by
  refine mk_start (own := RX8) (by decide) rfl (Nat.le_of_ble_eq_true rfl) ?_
  intro sz p e s m args below meth c A C hr hlk hnm
  replace C : mk_Cx p s m args c cX8_channel 2 RX8 D (mk_TY cI cJ cB cZ cS) X Y A := C
  show mk_Go p l e (headSpec (mk_ws yX8_channel cX8_channel 2 (some .int)) ({ frames := 11, cells := 0, slots := 0, locals := 286 })).room s m args below meth c D A 2 0 0 (MQ below (mk_Q (some (.int r)) D (wChan aZ aR aT aD aY aP aC aO aA aM ++ (wReader aR aT aD wR ++ (wTape aT cI wT ++ (wPlan aD cI wD ++ (wPlay aY aP aS (mk_crs aC aO wQ) cI wY ++ (wPlan aP cI wP ++ (wStack aS cI wS ++ (wCourse aC cI wC ++ (wCourse aO cI uO ++ (wActs aA cI wA ++ (wMeans aM cJ uM))))))))))) A) args s 0 0 A) 0 (wChan aZ aR aT aD aY aP aC aO aA aM ++ (wReader aR aT aD uR ++ (wTape aT cI uT ++ (wPlan aD cI uD ++ (wPlay aY aP aS (mk_crs aC aO uQ) cI uY ++ (wPlan aP cI uP ++ (wStack aS cI uS ++ (wCourse aC cI uC ++ (wCourse aO cI uO ++ (wActs aA cI uA ++ (wMeans aM cJ uM))))))))))) [(0, .ref (aZ 0))] []
  unfold f_Z_channel at hf
  refine mk_aload_n C 0 dX8_channel_0 rfl ?_
  refine mk_get C mk_inX8 0 rfl rfl 0 (by decide) mw_332 (v := .ref (aR 0)) rfl dX8_channel_1 ?_
  obtain ⟨r1, uR_2, uD_3, h4, hf⟩ := b3_some hf
  refine mk_callVi C (c_R_read l D cI cJ cB cZ cS X Y aR aT aD uR uT uD r1 uR_2 uD_3 h4) mw_364 mw_365 mw_366 mw_2 mw_367 mkn_X5_read rfl ⟨Nat.le_of_ble_eq_true rfl, Nat.le_of_ble_eq_true rfl⟩ 1 rfl rfl rfl (fr_Z_RTD cI cJ aZ aR aT aD aY aP aS aC aO aA aM uQ uR uT uD uY uP uS uC uO uA uM uR_2 uT uD_3) (Nat.le_of_ble_eq_true rfl) dX8_channel_4 rfl ?_
  refine mk_istore_n C (lv' := [(1, .int r1), (0, .ref (aZ 0))]) dX8_channel_7 (by decide) rfl ?_
  refine mk_aload_n C 1 dX8_channel_8 rfl ?_
  refine mk_get C mk_inX8 0 rfl rfl 1 (by decide) mw_333 (v := .ref (aT 0)) rfl dX8_channel_9 ?_
  refine mk_iconst C (v := 0) dX8_channel_12 (by decide) ?_
  refine mk_put C mk_inX7 tyX7 tyX7_ok nmX7 2 rfl rfl 1 (by decide) mw_45 rfl rfl rfl (Nat.le_of_ble_eq_true rfl) (ws' := (wChan aZ aR aT aD aY aP aC aO aA aM ++ (wReader aR aT aD uR_2 ++ (wTape aT cI (upF 1 0 uT) ++ (wPlan aD cI uD_3 ++ (wPlay aY aP aS (mk_crs aC aO uQ) cI uY ++ (wPlan aP cI uP ++ (wStack aS cI uS ++ (wCourse aC cI uC ++ (wCourse aO cI uO ++ (wActs aA cI uA ++ (wMeans aM cJ uM)))))))))))) (st_ZRTDYPSCOAM_T_1 cI cJ aZ aR aT aD aY aP aS aC aO aA aM uQ uR_2 uT uD_3 uY uP uS uC uO uA uM 0) dX8_channel_13 ?_
  refine mk_iload_n C 0 dX8_channel_16 rfl ?_
  refine mk_if_ne C 23 dX8_channel_17 (by decide) (fun c5 => ?_) (fun c5 => ?_)
  · replace hf := (if_neg c5).symm.trans hf
    refine mk_aload_n C 1 dX8_channel_23 rfl ?_
    refine mk_get C mk_inX8 0 rfl rfl 4 (by decide) mw_336 (v := .ref (aP 0)) rfl dX8_channel_24 ?_
    refine mk_aload_n C 1 dX8_channel_27 rfl ?_
    refine mk_get C mk_inX8 0 rfl rfl 2 (by decide) mw_334 (v := .ref (aD 0)) rfl dX8_channel_28 ?_
    obtain ⟨uP_6, h7, hf⟩ := b1_some hf
    refine mk_callVv C (c_P_become l D cI cJ cB cZ cS X Y aP aD uP uD_3 uP_6 h7) mw_507 mw_508 mw_509 mw_4 mw_510 mkn_X3_become rfl ⟨Nat.le_of_ble_eq_true rfl, Nat.le_of_ble_eq_true rfl⟩ 12 rfl rfl rfl (fr_Z_PD cI cJ aZ aR aT aD aY aP aS aC aO aA aM uQ uR_2 (upF 1 0 uT) uD_3 uY uP uS uC uO uA uM uP_6 uD_3) (Nat.le_of_ble_eq_true rfl) dX8_channel_31 rfl ?_
    refine mk_aload_n C 1 dX8_channel_34 rfl ?_
    refine mk_get C mk_inX8 0 rfl rfl 7 (by decide) mw_339 (v := .ref (aA 0)) rfl dX8_channel_35 ?_
    refine mk_iconst C (v := 0) dX8_channel_38 (by decide) ?_
    refine mk_put C mk_inX0 tyX0 tyX0_ok nmX0 48 rfl rfl 2 (by decide) mw_303 rfl rfl rfl (Nat.le_of_ble_eq_true rfl) (ws' := (wChan aZ aR aT aD aY aP aC aO aA aM ++ (wReader aR aT aD uR_2 ++ (wTape aT cI (upF 1 0 uT) ++ (wPlan aD cI uD_3 ++ (wPlay aY aP aS (mk_crs aC aO uQ) cI uY ++ (wPlan aP cI uP_6 ++ (wStack aS cI uS ++ (wCourse aC cI uC ++ (wCourse aO cI uO ++ (wActs aA cI (upF 2 0 uA) ++ (wMeans aM cJ uM)))))))))))) (st_ZRTDYPSCOAM_A_2 cI cJ aZ aR aT aD aY aP aS aC aO aA aM uQ uR_2 (upF 1 0 uT) uD_3 uY uP_6 uS uC uO uA uM 0) dX8_channel_39 ?_
    refine mk_aload_n C 1 dX8_channel_42 rfl ?_
    refine mk_get C mk_inX8 0 rfl rfl 3 (by decide) mw_335 (v := .ref (aY 0)) rfl dX8_channel_43 ?_
    refine mk_aload_n C 1 dX8_channel_46 rfl ?_
    refine mk_get C mk_inX8 0 rfl rfl 5 (by decide) mw_337 (v := .ref (aC 0)) rfl dX8_channel_47 ?_
    refine mk_aload_n C 1 dX8_channel_50 rfl ?_
    refine mk_get C mk_inX8 0 rfl rfl 4 (by decide) mw_336 (v := .ref (aP 0)) rfl dX8_channel_51 ?_
    refine mk_get C mk_inX3 12 rfl rfl 0 (by decide) mw_63 (v := .int (uP_6 0 0)) rfl dX8_channel_54 ?_
    refine mk_iconst C (v := (-1)) dX8_channel_57 (by decide) ?_
    refine mk_iconst C (v := (-1)) dX8_channel_58 (by decide) ?_
    obtain ⟨r8, uY_9, uS_10, uC_11, h12, hf⟩ := b4_some hf
    refine mk_callVi C (c_Y_run l D cI cJ cB cZ cS X Y aY aP aS aC (mk_crs aC aO uQ) uY uP_6 uS uC (uP_6 0 0) (-1) (-1) r8 uY_9 uS_10 uC_11 h12) mw_514 mw_515 mw_516 mw_5 mw_517 mkn_X4_run rfl ⟨Nat.le_of_ble_eq_true rfl, Nat.le_of_ble_eq_true rfl⟩ 10 rfl rfl rfl (fr_Z_YPSC_run cI cJ aZ aR aT aD aY aP aS aC aO aA aM uQ uR_2 (upF 1 0 uT) uD_3 uY uP_6 uS uC uO (upF 2 0 uA) uM uY_9 uP_6 uS_10 uC_11) (Nat.le_of_ble_eq_true rfl) dX8_channel_59 rfl ?_
    refine mk_pop C dX8_channel_62 rfl ?_
    refine mk_aload_n C 1 dX8_channel_63 rfl ?_
    refine mk_get C mk_inX8 0 rfl rfl 4 (by decide) mw_336 (v := .ref (aP 0)) rfl dX8_channel_64 ?_
    refine mk_get C mk_inX3 12 rfl rfl 4 (by decide) mw_78 (v := .int (uP_6 4 0)) rfl dX8_channel_67 ?_
    have e := Option.some.inj hf
    simp only [Prod.mk.injEq] at e
    obtain ⟨e0, e1, e2, e3, e4, e5, e6, e7, e8, e9⟩ := e
    exact mk_iret C hr hlk e0 (by rw [← e1, ← e2, ← e3, ← e4, ← e5, ← e6, ← e7, ← e8, ← e9]) dX8_channel_70
  · replace hf := (if_pos c5).symm.trans hf
    refine mk_bipush C (v := (-4)) dX8_channel_20 (by decide) ?_
    have e := Option.some.inj hf
    simp only [Prod.mk.injEq] at e
    obtain ⟨e0, e1, e2, e3, e4, e5, e6, e7, e8, e9⟩ := e
    exact mk_iret C hr hlk e0 (by rw [← e1, ← e2, ← e3, ← e4, ← e5, ← e6, ← e7, ← e8, ← e9]) dX8_channel_22
set_option maxHeartbeats 40000000 in
set_option maxRecDepth 100000 in
theorem c_Z_count (l : Launch) (D : va_G) (cI cJ cB cZ cS : ClassId) (X : Nat → Nat) (Y : mk_Y) (aZ aR aT aD aY aP aS aC aO aA aM : Nat → Nat) (uQ : Nat) (uR : Nat → Nat → Int32) (uT : Nat → Nat → Int32) (uD : Nat → Nat → Int32) (uY : Nat → Nat → Int32) (uP : Nat → Nat → Int32) (uS : Nat → Nat → Int32) (uC : Nat → Nat → Int32) (uO : Nat → Nat → Int32) (uA : Nat → Nat → Int32) (uM : Nat → Nat → Int64) (p1 : Int32) (r : Int32) (hf : f_Z_count uT uP uA p1 = some r) : mk_Met l yX8_count cX8_count 2 (some .int) ({ frames := 0, cells := 0, slots := 0, locals := 0 }) D (mk_TY cI cJ cB cZ cS) X Y [.ref (aZ 0), .int p1] (wChan aZ aR aT aD aY aP aC aO aA aM ++ (wReader aR aT aD uR ++ (wTape aT cI uT ++ (wPlan aD cI uD ++ (wPlay aY aP aS (mk_crs aC aO uQ) cI uY ++ (wPlan aP cI uP ++ (wStack aS cI uS ++ (wCourse aC cI uC ++ (wCourse aO cI uO ++ (wActs aA cI uA ++ (wMeans aM cJ uM))))))))))) (wChan aZ aR aT aD aY aP aC aO aA aM ++ (wReader aR aT aD uR ++ (wTape aT cI uT ++ (wPlan aD cI uD ++ (wPlay aY aP aS (mk_crs aC aO uQ) cI uY ++ (wPlan aP cI uP ++ (wStack aS cI uS ++ (wCourse aC cI uC ++ (wCourse aO cI uO ++ (wActs aA cI uA ++ (wMeans aM cJ uM))))))))))) (some (.int r)) 0 0 := by
  refine mk_start (own := RX8) (by decide) rfl (Nat.le_of_ble_eq_true rfl) ?_
  intro sz p e s m args below meth c A C hr hlk hnm
  replace C : mk_Cx p s m args c cX8_count 2 RX8 D (mk_TY cI cJ cB cZ cS) X Y A := C
  show mk_Go p l e (headSpec (mk_ws yX8_count cX8_count 2 (some .int)) ({ frames := 0, cells := 0, slots := 0, locals := 0 })).room s m args below meth c D A 2 0 0 (MQ below (mk_Q (some (.int r)) D (wChan aZ aR aT aD aY aP aC aO aA aM ++ (wReader aR aT aD uR ++ (wTape aT cI uT ++ (wPlan aD cI uD ++ (wPlay aY aP aS (mk_crs aC aO uQ) cI uY ++ (wPlan aP cI uP ++ (wStack aS cI uS ++ (wCourse aC cI uC ++ (wCourse aO cI uO ++ (wActs aA cI uA ++ (wMeans aM cJ uM))))))))))) A) args s 0 0 A) 0 (wChan aZ aR aT aD aY aP aC aO aA aM ++ (wReader aR aT aD uR ++ (wTape aT cI uT ++ (wPlan aD cI uD ++ (wPlay aY aP aS (mk_crs aC aO uQ) cI uY ++ (wPlan aP cI uP ++ (wStack aS cI uS ++ (wCourse aC cI uC ++ (wCourse aO cI uO ++ (wActs aA cI uA ++ (wMeans aM cJ uM))))))))))) [(0, .ref (aZ 0)), (1, .int p1)] []
  unfold f_Z_count at hf
  refine mk_iload_n C 1 dX8_count_0 rfl ?_
  by_cases c1 : p1 = 0
  · replace hf := (if_pos c1).symm.trans hf
    refine mk_tableIn C 52 c1 dX8_count_1 (by decide) (by decide) rfl (by decide) ?_
    refine mk_aload_n C 0 dX8_count_52 rfl ?_
    refine mk_get C mk_inX8 0 rfl rfl 4 (by decide) mw_336 (v := .ref (aP 0)) rfl dX8_count_53 ?_
    refine mk_get C mk_inX3 12 rfl rfl 0 (by decide) mw_63 (v := .int (uP 0 0)) rfl dX8_count_56 ?_
    have e0 := Option.some.inj hf
    exact mk_iret C hr hlk e0 rfl dX8_count_59
  · replace hf := (if_neg c1).symm.trans hf
    by_cases c2 : p1 = 1
    · replace hf := (if_pos c2).symm.trans hf
      refine mk_tableIn C 60 c2 dX8_count_1 (by decide) (by decide) rfl (by decide) ?_
      refine mk_aload_n C 0 dX8_count_60 rfl ?_
      refine mk_get C mk_inX8 0 rfl rfl 4 (by decide) mw_336 (v := .ref (aP 0)) rfl dX8_count_61 ?_
      refine mk_get C mk_inX3 12 rfl rfl 1 (by decide) mw_67 (v := .int (uP 1 0)) rfl dX8_count_64 ?_
      have e0 := Option.some.inj hf
      exact mk_iret C hr hlk e0 rfl dX8_count_67
    · replace hf := (if_neg c2).symm.trans hf
      by_cases c3 : p1 = 2
      · replace hf := (if_pos c3).symm.trans hf
        refine mk_tableIn C 68 c3 dX8_count_1 (by decide) (by decide) rfl (by decide) ?_
        refine mk_aload_n C 0 dX8_count_68 rfl ?_
        refine mk_get C mk_inX8 0 rfl rfl 4 (by decide) mw_336 (v := .ref (aP 0)) rfl dX8_count_69 ?_
        refine mk_get C mk_inX3 12 rfl rfl 2 (by decide) mw_71 (v := .int (uP 2 0)) rfl dX8_count_72 ?_
        have e0 := Option.some.inj hf
        exact mk_iret C hr hlk e0 rfl dX8_count_75
      · replace hf := (if_neg c3).symm.trans hf
        by_cases c4 : p1 = 3
        · replace hf := (if_pos c4).symm.trans hf
          refine mk_tableIn C 76 c4 dX8_count_1 (by decide) (by decide) rfl (by decide) ?_
          refine mk_aload_n C 0 dX8_count_76 rfl ?_
          refine mk_get C mk_inX8 0 rfl rfl 4 (by decide) mw_336 (v := .ref (aP 0)) rfl dX8_count_77 ?_
          refine mk_get C mk_inX3 12 rfl rfl 3 (by decide) mw_75 (v := .int (uP 3 0)) rfl dX8_count_80 ?_
          have e0 := Option.some.inj hf
          exact mk_iret C hr hlk e0 rfl dX8_count_83
        · replace hf := (if_neg c4).symm.trans hf
          by_cases c5 : p1 = 4
          · replace hf := (if_pos c5).symm.trans hf
            refine mk_tableIn C 84 c5 dX8_count_1 (by decide) (by decide) rfl (by decide) ?_
            refine mk_aload_n C 0 dX8_count_84 rfl ?_
            refine mk_get C mk_inX8 0 rfl rfl 4 (by decide) mw_336 (v := .ref (aP 0)) rfl dX8_count_85 ?_
            refine mk_get C mk_inX3 12 rfl rfl 5 (by decide) mw_83 (v := .int (uP 5 0)) rfl dX8_count_88 ?_
            have e0 := Option.some.inj hf
            exact mk_iret C hr hlk e0 rfl dX8_count_91
          · replace hf := (if_neg c5).symm.trans hf
            by_cases c6 : p1 = 5
            · replace hf := (if_pos c6).symm.trans hf
              refine mk_tableIn C 92 c6 dX8_count_1 (by decide) (by decide) rfl (by decide) ?_
              refine mk_aload_n C 0 dX8_count_92 rfl ?_
              refine mk_get C mk_inX8 0 rfl rfl 4 (by decide) mw_336 (v := .ref (aP 0)) rfl dX8_count_93 ?_
              refine mk_get C mk_inX3 12 rfl rfl 6 (by decide) mw_87 (v := .int (uP 6 0)) rfl dX8_count_96 ?_
              have e0 := Option.some.inj hf
              exact mk_iret C hr hlk e0 rfl dX8_count_99
            · replace hf := (if_neg c6).symm.trans hf
              by_cases c7 : p1 = 6
              · replace hf := (if_pos c7).symm.trans hf
                refine mk_tableIn C 100 c7 dX8_count_1 (by decide) (by decide) rfl (by decide) ?_
                refine mk_aload_n C 0 dX8_count_100 rfl ?_
                refine mk_get C mk_inX8 0 rfl rfl 7 (by decide) mw_339 (v := .ref (aA 0)) rfl dX8_count_101 ?_
                refine mk_get C mk_inX0 48 rfl rfl 2 (by decide) mw_303 (v := .int (uA 2 0)) rfl dX8_count_104 ?_
                have e0 := Option.some.inj hf
                exact mk_iret C hr hlk e0 rfl dX8_count_107
              · replace hf := (if_neg c7).symm.trans hf
                by_cases c8 : p1 = 7
                · replace hf := (if_pos c8).symm.trans hf
                  refine mk_tableIn C 108 c8 dX8_count_1 (by decide) (by decide) rfl (by decide) ?_
                  refine mk_aload_n C 0 dX8_count_108 rfl ?_
                  refine mk_get C mk_inX8 0 rfl rfl 4 (by decide) mw_336 (v := .ref (aP 0)) rfl dX8_count_109 ?_
                  refine mk_get C mk_inX3 12 rfl rfl 4 (by decide) mw_78 (v := .int (uP 4 0)) rfl dX8_count_112 ?_
                  have e0 := Option.some.inj hf
                  exact mk_iret C hr hlk e0 rfl dX8_count_115
                · replace hf := (if_neg c8).symm.trans hf
                  by_cases c9 : p1 = 8
                  · replace hf := (if_pos c9).symm.trans hf
                    refine mk_tableIn C 116 c9 dX8_count_1 (by decide) (by decide) rfl (by decide) ?_
                    refine mk_aload_n C 0 dX8_count_116 rfl ?_
                    refine mk_get C mk_inX8 0 rfl rfl 1 (by decide) mw_333 (v := .ref (aT 0)) rfl dX8_count_117 ?_
                    refine mk_get C mk_inX7 2 rfl rfl 1 (by decide) mw_45 (v := .int (uT 1 0)) rfl dX8_count_120 ?_
                    have e0 := Option.some.inj hf
                    exact mk_iret C hr hlk e0 rfl dX8_count_123
                  · replace hf := (if_neg c9).symm.trans hf
                    refine mk_tableOut C 124 dX8_count_1 (by have e0 := mk_ne c1 (k := 0) (by decide); have e1 := mk_ne c2 (k := 1) (by decide); have e2 := mk_ne c3 (k := 2) (by decide); have e3 := mk_ne c4 (k := 3) (by decide); have e4 := mk_ne c5 (k := 4) (by decide); have e5 := mk_ne c6 (k := 5) (by decide); have e6 := mk_ne c7 (k := 6) (by decide); have e7 := mk_ne c8 (k := 7) (by decide); have e8 := mk_ne c9 (k := 8) (by decide); omega) (by decide) ?_
                    refine mk_iconst C (v := (-1)) dX8_count_124 (by decide) ?_
                    have e0 := Option.some.inj hf
                    exact mk_iret C hr hlk e0 rfl dX8_count_125
set_option maxHeartbeats 40000000 in
set_option maxRecDepth 100000 in
theorem c_Z_slot (l : Launch) (D : va_G) (cI cJ cB cZ cS : ClassId) (X : Nat → Nat) (Y : mk_Y) (aZ aR aT aD aY aP aS aC aO aA aM : Nat → Nat) (uQ : Nat) (uR : Nat → Nat → Int32) (uT : Nat → Nat → Int32) (uD : Nat → Nat → Int32) (uY : Nat → Nat → Int32) (uP : Nat → Nat → Int32) (uS : Nat → Nat → Int32) (uC : Nat → Nat → Int32) (uO : Nat → Nat → Int32) (uA : Nat → Nat → Int32) (uM : Nat → Nat → Int64) (p1 : Int32) (p2 : Int32) (r : Int32) (hf : f_Z_slot uP uC p1 p2 = some r) : mk_Met l yX8_slot cX8_slot 3 (some .int) ({ frames := 1, cells := 0, slots := 0, locals := 21 }) D (mk_TY cI cJ cB cZ cS) X Y [.ref (aZ 0), .int p1, .int p2] (wChan aZ aR aT aD aY aP aC aO aA aM ++ (wReader aR aT aD uR ++ (wTape aT cI uT ++ (wPlan aD cI uD ++ (wPlay aY aP aS (mk_crs aC aO uQ) cI uY ++ (wPlan aP cI uP ++ (wStack aS cI uS ++ (wCourse aC cI uC ++ (wCourse aO cI uO ++ (wActs aA cI uA ++ (wMeans aM cJ uM))))))))))) (wChan aZ aR aT aD aY aP aC aO aA aM ++ (wReader aR aT aD uR ++ (wTape aT cI uT ++ (wPlan aD cI uD ++ (wPlay aY aP aS (mk_crs aC aO uQ) cI uY ++ (wPlan aP cI uP ++ (wStack aS cI uS ++ (wCourse aC cI uC ++ (wCourse aO cI uO ++ (wActs aA cI uA ++ (wMeans aM cJ uM))))))))))) (some (.int r)) 0 0 := by
  refine mk_start (own := RX8) (by decide) rfl (Nat.le_of_ble_eq_true rfl) ?_
  intro sz p e s m args below meth c A C hr hlk hnm
  replace C : mk_Cx p s m args c cX8_slot 3 RX8 D (mk_TY cI cJ cB cZ cS) X Y A := C
  show mk_Go p l e (headSpec (mk_ws yX8_slot cX8_slot 3 (some .int)) ({ frames := 1, cells := 0, slots := 0, locals := 21 })).room s m args below meth c D A 3 0 0 (MQ below (mk_Q (some (.int r)) D (wChan aZ aR aT aD aY aP aC aO aA aM ++ (wReader aR aT aD uR ++ (wTape aT cI uT ++ (wPlan aD cI uD ++ (wPlay aY aP aS (mk_crs aC aO uQ) cI uY ++ (wPlan aP cI uP ++ (wStack aS cI uS ++ (wCourse aC cI uC ++ (wCourse aO cI uO ++ (wActs aA cI uA ++ (wMeans aM cJ uM))))))))))) A) args s 0 0 A) 0 (wChan aZ aR aT aD aY aP aC aO aA aM ++ (wReader aR aT aD uR ++ (wTape aT cI uT ++ (wPlan aD cI uD ++ (wPlay aY aP aS (mk_crs aC aO uQ) cI uY ++ (wPlan aP cI uP ++ (wStack aS cI uS ++ (wCourse aC cI uC ++ (wCourse aO cI uO ++ (wActs aA cI uA ++ (wMeans aM cJ uM))))))))))) [(0, .ref (aZ 0)), (1, .int p1), (2, .int p2)] []
  unfold f_Z_slot at hf
  refine mk_aload_n C 0 dX8_slot_0 rfl ?_
  refine mk_get C mk_inX8 0 rfl rfl 4 (by decide) mw_336 (v := .ref (aP 0)) rfl dX8_slot_1 ?_
  refine mk_iload_n C 1 dX8_slot_4 rfl ?_
  obtain ⟨r1, h2, hf⟩ := b1_some hf
  refine mk_callVi C (c_P_hasSlot l D cI cJ cB cZ cS X Y aP uP p1 r1 h2) mw_977 mw_978 mw_979 mw_4 mw_980 mkn_X3_hasSlot rfl ⟨Nat.le_of_ble_eq_true rfl, Nat.le_of_ble_eq_true rfl⟩ 12 rfl rfl rfl (fr_Z_P cI cJ aZ aR aT aD aY aP aS aC aO aA aM uQ uR uT uD uY uP uS uC uO uA uM uP) (Nat.le_of_ble_eq_true rfl) dX8_slot_5 rfl ?_
  refine mk_if_ne C 14 dX8_slot_8 (by decide) (fun c3 => ?_) (fun c3 => ?_)
  · replace hf := (if_neg c3).symm.trans hf
    refine mk_iload_n C 2 dX8_slot_14 rfl ?_
    by_cases c4 : p2 = 0
    · replace hf := (if_pos c4).symm.trans hf
      refine mk_tableIn C 48 c4 dX8_slot_15 (by decide) (by decide) rfl (by decide) ?_
      refine mk_aload_n C 0 dX8_slot_48 rfl ?_
      refine mk_get C mk_inX8 0 rfl rfl 5 (by decide) mw_337 (v := .ref (aC 0)) rfl dX8_slot_49 ?_
      refine mk_get C mk_inX1 22 rfl rfl 0 (by decide) mw_188 (v := .ref (aC 1)) rfl dX8_slot_52 ?_
      refine mk_iload_n C 1 dX8_slot_55 rfl ?_
      refine mk_callSi C (c_at l D cI cJ cB cZ cS X Y (aC 1) 200 (uC 0) p1) mw_985 mw_377 mw_1 mw_378 mkn_X8_at rfl ⟨Nat.le_of_ble_eq_true rfl, Nat.le_of_ble_eq_true rfl⟩ (mk_Fr.at (q := 23) rfl) (Nat.le_of_ble_eq_true rfl) dX8_slot_56 rfl ?_
      refine mk_callSi C (c_bits l D cI cJ cB cZ cS X Y (mkAt 200 (uC 0) p1)) mw_995 mw_540 mw_22 mw_541 mkn_J6_bitCount_0f7a4 rfl ⟨Nat.le_of_ble_eq_true rfl, Nat.le_of_ble_eq_true rfl⟩ (mk_Fr.nil _) (Nat.le_of_ble_eq_true rfl) dX8_slot_59 rfl ?_
      have e0 := Option.some.inj hf
      exact mk_iret C hr hlk e0 rfl dX8_slot_62
    · replace hf := (if_neg c4).symm.trans hf
      by_cases c5 : p2 = 1
      · replace hf := (if_pos c5).symm.trans hf
        refine mk_tableIn C 63 c5 dX8_slot_15 (by decide) (by decide) rfl (by decide) ?_
        refine mk_aload_n C 0 dX8_slot_63 rfl ?_
        refine mk_get C mk_inX8 0 rfl rfl 5 (by decide) mw_337 (v := .ref (aC 0)) rfl dX8_slot_64 ?_
        refine mk_get C mk_inX1 22 rfl rfl 1 (by decide) mw_191 (v := .ref (aC 2)) rfl dX8_slot_67 ?_
        refine mk_iload_n C 1 dX8_slot_70 rfl ?_
        refine mk_callSi C (c_at l D cI cJ cB cZ cS X Y (aC 2) 200 (uC 1) p1) mw_985 mw_377 mw_1 mw_378 mkn_X8_at rfl ⟨Nat.le_of_ble_eq_true rfl, Nat.le_of_ble_eq_true rfl⟩ (mk_Fr.at (q := 24) rfl) (Nat.le_of_ble_eq_true rfl) dX8_slot_71 rfl ?_
        have e0 := Option.some.inj hf
        exact mk_iret C hr hlk e0 rfl dX8_slot_74
      · replace hf := (if_neg c5).symm.trans hf
        by_cases c6 : p2 = 2
        · replace hf := (if_pos c6).symm.trans hf
          refine mk_tableIn C 75 c6 dX8_slot_15 (by decide) (by decide) rfl (by decide) ?_
          refine mk_aload_n C 0 dX8_slot_75 rfl ?_
          refine mk_get C mk_inX8 0 rfl rfl 5 (by decide) mw_337 (v := .ref (aC 0)) rfl dX8_slot_76 ?_
          refine mk_get C mk_inX1 22 rfl rfl 2 (by decide) mw_194 (v := .ref (aC 3)) rfl dX8_slot_79 ?_
          refine mk_iload_n C 1 dX8_slot_82 rfl ?_
          refine mk_callSi C (c_at l D cI cJ cB cZ cS X Y (aC 3) 200 (uC 2) p1) mw_985 mw_377 mw_1 mw_378 mkn_X8_at rfl ⟨Nat.le_of_ble_eq_true rfl, Nat.le_of_ble_eq_true rfl⟩ (mk_Fr.at (q := 25) rfl) (Nat.le_of_ble_eq_true rfl) dX8_slot_83 rfl ?_
          have e0 := Option.some.inj hf
          exact mk_iret C hr hlk e0 rfl dX8_slot_86
        · replace hf := (if_neg c6).symm.trans hf
          by_cases c7 : p2 = 3
          · replace hf := (if_pos c7).symm.trans hf
            refine mk_tableIn C 87 c7 dX8_slot_15 (by decide) (by decide) rfl (by decide) ?_
            refine mk_aload_n C 0 dX8_slot_87 rfl ?_
            refine mk_get C mk_inX8 0 rfl rfl 5 (by decide) mw_337 (v := .ref (aC 0)) rfl dX8_slot_88 ?_
            refine mk_get C mk_inX1 22 rfl rfl 3 (by decide) mw_197 (v := .ref (aC 4)) rfl dX8_slot_91 ?_
            refine mk_iload_n C 1 dX8_slot_94 rfl ?_
            refine mk_callSi C (c_at l D cI cJ cB cZ cS X Y (aC 4) 200 (uC 3) p1) mw_985 mw_377 mw_1 mw_378 mkn_X8_at rfl ⟨Nat.le_of_ble_eq_true rfl, Nat.le_of_ble_eq_true rfl⟩ (mk_Fr.at (q := 26) rfl) (Nat.le_of_ble_eq_true rfl) dX8_slot_95 rfl ?_
            have e0 := Option.some.inj hf
            exact mk_iret C hr hlk e0 rfl dX8_slot_98
          · replace hf := (if_neg c7).symm.trans hf
            by_cases c8 : p2 = 4
            · replace hf := (if_pos c8).symm.trans hf
              refine mk_tableIn C 99 c8 dX8_slot_15 (by decide) (by decide) rfl (by decide) ?_
              refine mk_aload_n C 0 dX8_slot_99 rfl ?_
              refine mk_get C mk_inX8 0 rfl rfl 5 (by decide) mw_337 (v := .ref (aC 0)) rfl dX8_slot_100 ?_
              refine mk_get C mk_inX1 22 rfl rfl 4 (by decide) mw_200 (v := .ref (aC 5)) rfl dX8_slot_103 ?_
              refine mk_iload_n C 1 dX8_slot_106 rfl ?_
              refine mk_callSi C (c_at l D cI cJ cB cZ cS X Y (aC 5) 200 (uC 4) p1) mw_985 mw_377 mw_1 mw_378 mkn_X8_at rfl ⟨Nat.le_of_ble_eq_true rfl, Nat.le_of_ble_eq_true rfl⟩ (mk_Fr.at (q := 27) rfl) (Nat.le_of_ble_eq_true rfl) dX8_slot_107 rfl ?_
              have e0 := Option.some.inj hf
              exact mk_iret C hr hlk e0 rfl dX8_slot_110
            · replace hf := (if_neg c8).symm.trans hf
              refine mk_tableOut C 111 dX8_slot_15 (by have e0 := mk_ne c4 (k := 0) (by decide); have e1 := mk_ne c5 (k := 1) (by decide); have e2 := mk_ne c6 (k := 2) (by decide); have e3 := mk_ne c7 (k := 3) (by decide); have e4 := mk_ne c8 (k := 4) (by decide); omega) (by decide) ?_
              refine mk_bipush C (v := (-2)) dX8_slot_111 (by decide) ?_
              have e0 := Option.some.inj hf
              exact mk_iret C hr hlk e0 rfl dX8_slot_113
  · replace hf := (if_pos c3).symm.trans hf
    refine mk_bipush C (v := (-2)) dX8_slot_11 (by decide) ?_
    have e0 := Option.some.inj hf
    exact mk_iret C hr hlk e0 rfl dX8_slot_13
set_option maxHeartbeats 40000000 in
set_option maxRecDepth 100000 in
theorem c_Z_sends (l : Launch) (D : va_G) (cI cJ cB cZ cS : ClassId) (X : Nat → Nat) (Y : mk_Y) (aZ aR aT aD aY aP aS aC aO aA aM : Nat → Nat) (uQ : Nat) (uR : Nat → Nat → Int32) (uT : Nat → Nat → Int32) (uD : Nat → Nat → Int32) (uY : Nat → Nat → Int32) (uP : Nat → Nat → Int32) (uS : Nat → Nat → Int32) (uC : Nat → Nat → Int32) (uO : Nat → Nat → Int32) (uA : Nat → Nat → Int32) (uM : Nat → Nat → Int64) (p1 : Int32) (p2 : Int32) (r : Int32) (hf : f_Z_sends uP uC p1 p2 = some r) : mk_Met l yX8_sends cX8_sends 3 (some .int) ({ frames := 1, cells := 0, slots := 0, locals := 21 }) D (mk_TY cI cJ cB cZ cS) X Y [.ref (aZ 0), .int p1, .int p2] (wChan aZ aR aT aD aY aP aC aO aA aM ++ (wReader aR aT aD uR ++ (wTape aT cI uT ++ (wPlan aD cI uD ++ (wPlay aY aP aS (mk_crs aC aO uQ) cI uY ++ (wPlan aP cI uP ++ (wStack aS cI uS ++ (wCourse aC cI uC ++ (wCourse aO cI uO ++ (wActs aA cI uA ++ (wMeans aM cJ uM))))))))))) (wChan aZ aR aT aD aY aP aC aO aA aM ++ (wReader aR aT aD uR ++ (wTape aT cI uT ++ (wPlan aD cI uD ++ (wPlay aY aP aS (mk_crs aC aO uQ) cI uY ++ (wPlan aP cI uP ++ (wStack aS cI uS ++ (wCourse aC cI uC ++ (wCourse aO cI uO ++ (wActs aA cI uA ++ (wMeans aM cJ uM))))))))))) (some (.int r)) 0 0 := by
  refine mk_start (own := RX8) (by decide) rfl (Nat.le_of_ble_eq_true rfl) ?_
  intro sz p e s m args below meth c A C hr hlk hnm
  replace C : mk_Cx p s m args c cX8_sends 3 RX8 D (mk_TY cI cJ cB cZ cS) X Y A := C
  show mk_Go p l e (headSpec (mk_ws yX8_sends cX8_sends 3 (some .int)) ({ frames := 1, cells := 0, slots := 0, locals := 21 })).room s m args below meth c D A 3 0 0 (MQ below (mk_Q (some (.int r)) D (wChan aZ aR aT aD aY aP aC aO aA aM ++ (wReader aR aT aD uR ++ (wTape aT cI uT ++ (wPlan aD cI uD ++ (wPlay aY aP aS (mk_crs aC aO uQ) cI uY ++ (wPlan aP cI uP ++ (wStack aS cI uS ++ (wCourse aC cI uC ++ (wCourse aO cI uO ++ (wActs aA cI uA ++ (wMeans aM cJ uM))))))))))) A) args s 0 0 A) 0 (wChan aZ aR aT aD aY aP aC aO aA aM ++ (wReader aR aT aD uR ++ (wTape aT cI uT ++ (wPlan aD cI uD ++ (wPlay aY aP aS (mk_crs aC aO uQ) cI uY ++ (wPlan aP cI uP ++ (wStack aS cI uS ++ (wCourse aC cI uC ++ (wCourse aO cI uO ++ (wActs aA cI uA ++ (wMeans aM cJ uM))))))))))) [(0, .ref (aZ 0)), (1, .int p1), (2, .int p2)] []
  unfold f_Z_sends at hf
  refine mk_aload_n C 0 dX8_sends_0 rfl ?_
  refine mk_get C mk_inX8 0 rfl rfl 4 (by decide) mw_336 (v := .ref (aP 0)) rfl dX8_sends_1 ?_
  refine mk_iload_n C 1 dX8_sends_4 rfl ?_
  obtain ⟨r1, h2, hf⟩ := b1_some hf
  refine mk_callVi C (c_P_hasSlot l D cI cJ cB cZ cS X Y aP uP p1 r1 h2) mw_977 mw_978 mw_979 mw_4 mw_980 mkn_X3_hasSlot rfl ⟨Nat.le_of_ble_eq_true rfl, Nat.le_of_ble_eq_true rfl⟩ 12 rfl rfl rfl (fr_Z_P cI cJ aZ aR aT aD aY aP aS aC aO aA aM uQ uR uT uD uY uP uS uC uO uA uM uP) (Nat.le_of_ble_eq_true rfl) dX8_sends_5 rfl ?_
  refine mk_if_eq C 22 dX8_sends_8 (by decide) (fun c3 => ?_) (fun c3 => ?_)
  · replace hf := (if_pos c3).symm.trans hf
    refine mk_bipush C (v := (-2)) dX8_sends_22 (by decide) ?_
    have e0 := Option.some.inj hf
    exact mk_iret C hr hlk e0 rfl dX8_sends_24
  · replace hf := (if_neg c3).symm.trans hf
    refine mk_aload_n C 0 dX8_sends_11 rfl ?_
    refine mk_get C mk_inX8 0 rfl rfl 4 (by decide) mw_336 (v := .ref (aP 0)) rfl dX8_sends_12 ?_
    refine mk_iload_n C 2 dX8_sends_15 rfl ?_
    obtain ⟨r4, h5, hf⟩ := b1_some hf
    refine mk_callVi C (c_P_hasSender l D cI cJ cB cZ cS X Y aP uP p2 r4 h5) mw_981 mw_982 mw_983 mw_4 mw_984 mkn_X3_hasSender rfl ⟨Nat.le_of_ble_eq_true rfl, Nat.le_of_ble_eq_true rfl⟩ 12 rfl rfl rfl (fr_Z_P cI cJ aZ aR aT aD aY aP aS aC aO aA aM uQ uR uT uD uY uP uS uC uO uA uM uP) (Nat.le_of_ble_eq_true rfl) dX8_sends_16 rfl ?_
    refine mk_if_ne C 25 dX8_sends_19 (by decide) (fun c6 => ?_) (fun c6 => ?_)
    · replace hf := (if_neg c6).symm.trans hf
      refine mk_aload_n C 0 dX8_sends_25 rfl ?_
      refine mk_get C mk_inX8 0 rfl rfl 5 (by decide) mw_337 (v := .ref (aC 0)) rfl dX8_sends_26 ?_
      refine mk_get C mk_inX1 22 rfl rfl 0 (by decide) mw_188 (v := .ref (aC 1)) rfl dX8_sends_29 ?_
      refine mk_iload_n C 1 dX8_sends_32 rfl ?_
      refine mk_callSi C (c_at l D cI cJ cB cZ cS X Y (aC 1) 200 (uC 0) p1) mw_985 mw_377 mw_1 mw_378 mkn_X8_at rfl ⟨Nat.le_of_ble_eq_true rfl, Nat.le_of_ble_eq_true rfl⟩ (mk_Fr.at (q := 23) rfl) (Nat.le_of_ble_eq_true rfl) dX8_sends_33 rfl ?_
      refine mk_iload_n C 2 dX8_sends_36 rfl ?_
      refine mk_ishr C dX8_sends_37 ?_
      refine mk_iconst C (v := 1) dX8_sends_38 (by decide) ?_
      refine mk_iand C dX8_sends_39 ?_
      have e0 := Option.some.inj hf
      exact mk_iret C hr hlk e0 rfl dX8_sends_40
    · replace hf := (if_pos c6).symm.trans hf
      refine mk_bipush C (v := (-2)) dX8_sends_22 (by decide) ?_
      have e0 := Option.some.inj hf
      exact mk_iret C hr hlk e0 rfl dX8_sends_24
set_option maxHeartbeats 40000000 in
set_option maxRecDepth 100000 in
theorem c_Z_delivered (l : Launch) (D : va_G) (cI cJ cB cZ cS : ClassId) (X : Nat → Nat) (Y : mk_Y) (aZ aR aT aD aY aP aS aC aO aA aM : Nat → Nat) (uQ : Nat) (uR : Nat → Nat → Int32) (uT : Nat → Nat → Int32) (uD : Nat → Nat → Int32) (uY : Nat → Nat → Int32) (uP : Nat → Nat → Int32) (uS : Nat → Nat → Int32) (uC : Nat → Nat → Int32) (uO : Nat → Nat → Int32) (uA : Nat → Nat → Int32) (uM : Nat → Nat → Int64) (p1 : Int32) (r : Int32) (hf : f_Z_delivered uP uC p1 = some r) : mk_Met l yX8_delivered cX8_delivered 2 (some .int) ({ frames := 1, cells := 0, slots := 0, locals := 21 }) D (mk_TY cI cJ cB cZ cS) X Y [.ref (aZ 0), .int p1] (wChan aZ aR aT aD aY aP aC aO aA aM ++ (wReader aR aT aD uR ++ (wTape aT cI uT ++ (wPlan aD cI uD ++ (wPlay aY aP aS (mk_crs aC aO uQ) cI uY ++ (wPlan aP cI uP ++ (wStack aS cI uS ++ (wCourse aC cI uC ++ (wCourse aO cI uO ++ (wActs aA cI uA ++ (wMeans aM cJ uM))))))))))) (wChan aZ aR aT aD aY aP aC aO aA aM ++ (wReader aR aT aD uR ++ (wTape aT cI uT ++ (wPlan aD cI uD ++ (wPlay aY aP aS (mk_crs aC aO uQ) cI uY ++ (wPlan aP cI uP ++ (wStack aS cI uS ++ (wCourse aC cI uC ++ (wCourse aO cI uO ++ (wActs aA cI uA ++ (wMeans aM cJ uM))))))))))) (some (.int r)) 0 0 := by
  refine mk_start (own := RX8) (by decide) rfl (Nat.le_of_ble_eq_true rfl) ?_
  intro sz p e s m args below meth c A C hr hlk hnm
  replace C : mk_Cx p s m args c cX8_delivered 2 RX8 D (mk_TY cI cJ cB cZ cS) X Y A := C
  show mk_Go p l e (headSpec (mk_ws yX8_delivered cX8_delivered 2 (some .int)) ({ frames := 1, cells := 0, slots := 0, locals := 21 })).room s m args below meth c D A 2 0 0 (MQ below (mk_Q (some (.int r)) D (wChan aZ aR aT aD aY aP aC aO aA aM ++ (wReader aR aT aD uR ++ (wTape aT cI uT ++ (wPlan aD cI uD ++ (wPlay aY aP aS (mk_crs aC aO uQ) cI uY ++ (wPlan aP cI uP ++ (wStack aS cI uS ++ (wCourse aC cI uC ++ (wCourse aO cI uO ++ (wActs aA cI uA ++ (wMeans aM cJ uM))))))))))) A) args s 0 0 A) 0 (wChan aZ aR aT aD aY aP aC aO aA aM ++ (wReader aR aT aD uR ++ (wTape aT cI uT ++ (wPlan aD cI uD ++ (wPlay aY aP aS (mk_crs aC aO uQ) cI uY ++ (wPlan aP cI uP ++ (wStack aS cI uS ++ (wCourse aC cI uC ++ (wCourse aO cI uO ++ (wActs aA cI uA ++ (wMeans aM cJ uM))))))))))) [(0, .ref (aZ 0)), (1, .int p1)] []
  unfold f_Z_delivered at hf
  refine mk_aload_n C 0 dX8_delivered_0 rfl ?_
  refine mk_get C mk_inX8 0 rfl rfl 4 (by decide) mw_336 (v := .ref (aP 0)) rfl dX8_delivered_1 ?_
  refine mk_iload_n C 1 dX8_delivered_4 rfl ?_
  obtain ⟨r1, h2, hf⟩ := b1_some hf
  refine mk_callVi C (c_P_hasSender l D cI cJ cB cZ cS X Y aP uP p1 r1 h2) mw_981 mw_982 mw_983 mw_4 mw_984 mkn_X3_hasSender rfl ⟨Nat.le_of_ble_eq_true rfl, Nat.le_of_ble_eq_true rfl⟩ 12 rfl rfl rfl (fr_Z_P cI cJ aZ aR aT aD aY aP aS aC aO aA aM uQ uR uT uD uY uP uS uC uO uA uM uP) (Nat.le_of_ble_eq_true rfl) dX8_delivered_5 rfl ?_
  refine mk_if_eq C 25 dX8_delivered_8 (by decide) (fun c3 => ?_) (fun c3 => ?_)
  · replace hf := (if_pos c3).symm.trans hf
    refine mk_bipush C (v := (-2)) dX8_delivered_25 (by decide) ?_
    have e0 := Option.some.inj hf
    exact mk_iret C hr hlk e0 rfl dX8_delivered_27
  · replace hf := (if_neg c3).symm.trans hf
    refine mk_aload_n C 0 dX8_delivered_11 rfl ?_
    refine mk_get C mk_inX8 0 rfl rfl 5 (by decide) mw_337 (v := .ref (aC 0)) rfl dX8_delivered_12 ?_
    refine mk_get C mk_inX1 22 rfl rfl 5 (by decide) mw_202 (v := .ref (aC 6)) rfl dX8_delivered_15 ?_
    refine mk_iload_n C 1 dX8_delivered_18 rfl ?_
    refine mk_callSi C (c_at l D cI cJ cB cZ cS X Y (aC 6) 10 (uC 5) p1) mw_985 mw_377 mw_1 mw_378 mkn_X8_at rfl ⟨Nat.le_of_ble_eq_true rfl, Nat.le_of_ble_eq_true rfl⟩ (mk_Fr.at (q := 28) rfl) (Nat.le_of_ble_eq_true rfl) dX8_delivered_19 rfl ?_
    refine mk_goto C 27 dX8_delivered_22 (by decide) ?_
    have e0 := Option.some.inj hf
    exact mk_iret C hr hlk e0 rfl dX8_delivered_27
set_option maxHeartbeats 40000000 in
set_option maxRecDepth 100000 in
theorem c_Z_tries (l : Launch) (D : va_G) (cI cJ cB cZ cS : ClassId) (X : Nat → Nat) (Y : mk_Y) (aZ aR aT aD aY aP aS aC aO aA aM : Nat → Nat) (uQ : Nat) (uR : Nat → Nat → Int32) (uT : Nat → Nat → Int32) (uD : Nat → Nat → Int32) (uY : Nat → Nat → Int32) (uP : Nat → Nat → Int32) (uS : Nat → Nat → Int32) (uC : Nat → Nat → Int32) (uO : Nat → Nat → Int32) (uA : Nat → Nat → Int32) (uM : Nat → Nat → Int64) (p1 : Int32) (r : Int32) (hf : f_Z_tries uP uC p1 = some r) : mk_Met l yX8_tries cX8_tries 2 (some .int) ({ frames := 1, cells := 0, slots := 0, locals := 21 }) D (mk_TY cI cJ cB cZ cS) X Y [.ref (aZ 0), .int p1] (wChan aZ aR aT aD aY aP aC aO aA aM ++ (wReader aR aT aD uR ++ (wTape aT cI uT ++ (wPlan aD cI uD ++ (wPlay aY aP aS (mk_crs aC aO uQ) cI uY ++ (wPlan aP cI uP ++ (wStack aS cI uS ++ (wCourse aC cI uC ++ (wCourse aO cI uO ++ (wActs aA cI uA ++ (wMeans aM cJ uM))))))))))) (wChan aZ aR aT aD aY aP aC aO aA aM ++ (wReader aR aT aD uR ++ (wTape aT cI uT ++ (wPlan aD cI uD ++ (wPlay aY aP aS (mk_crs aC aO uQ) cI uY ++ (wPlan aP cI uP ++ (wStack aS cI uS ++ (wCourse aC cI uC ++ (wCourse aO cI uO ++ (wActs aA cI uA ++ (wMeans aM cJ uM))))))))))) (some (.int r)) 0 0 := by
  refine mk_start (own := RX8) (by decide) rfl (Nat.le_of_ble_eq_true rfl) ?_
  intro sz p e s m args below meth c A C hr hlk hnm
  replace C : mk_Cx p s m args c cX8_tries 2 RX8 D (mk_TY cI cJ cB cZ cS) X Y A := C
  show mk_Go p l e (headSpec (mk_ws yX8_tries cX8_tries 2 (some .int)) ({ frames := 1, cells := 0, slots := 0, locals := 21 })).room s m args below meth c D A 2 0 0 (MQ below (mk_Q (some (.int r)) D (wChan aZ aR aT aD aY aP aC aO aA aM ++ (wReader aR aT aD uR ++ (wTape aT cI uT ++ (wPlan aD cI uD ++ (wPlay aY aP aS (mk_crs aC aO uQ) cI uY ++ (wPlan aP cI uP ++ (wStack aS cI uS ++ (wCourse aC cI uC ++ (wCourse aO cI uO ++ (wActs aA cI uA ++ (wMeans aM cJ uM))))))))))) A) args s 0 0 A) 0 (wChan aZ aR aT aD aY aP aC aO aA aM ++ (wReader aR aT aD uR ++ (wTape aT cI uT ++ (wPlan aD cI uD ++ (wPlay aY aP aS (mk_crs aC aO uQ) cI uY ++ (wPlan aP cI uP ++ (wStack aS cI uS ++ (wCourse aC cI uC ++ (wCourse aO cI uO ++ (wActs aA cI uA ++ (wMeans aM cJ uM))))))))))) [(0, .ref (aZ 0)), (1, .int p1)] []
  unfold f_Z_tries at hf
  refine mk_aload_n C 0 dX8_tries_0 rfl ?_
  refine mk_get C mk_inX8 0 rfl rfl 4 (by decide) mw_336 (v := .ref (aP 0)) rfl dX8_tries_1 ?_
  refine mk_iload_n C 1 dX8_tries_4 rfl ?_
  obtain ⟨r1, h2, hf⟩ := b1_some hf
  refine mk_callVi C (c_P_hasSender l D cI cJ cB cZ cS X Y aP uP p1 r1 h2) mw_981 mw_982 mw_983 mw_4 mw_984 mkn_X3_hasSender rfl ⟨Nat.le_of_ble_eq_true rfl, Nat.le_of_ble_eq_true rfl⟩ 12 rfl rfl rfl (fr_Z_P cI cJ aZ aR aT aD aY aP aS aC aO aA aM uQ uR uT uD uY uP uS uC uO uA uM uP) (Nat.le_of_ble_eq_true rfl) dX8_tries_5 rfl ?_
  refine mk_if_eq C 25 dX8_tries_8 (by decide) (fun c3 => ?_) (fun c3 => ?_)
  · replace hf := (if_pos c3).symm.trans hf
    refine mk_bipush C (v := (-2)) dX8_tries_25 (by decide) ?_
    have e0 := Option.some.inj hf
    exact mk_iret C hr hlk e0 rfl dX8_tries_27
  · replace hf := (if_neg c3).symm.trans hf
    refine mk_aload_n C 0 dX8_tries_11 rfl ?_
    refine mk_get C mk_inX8 0 rfl rfl 5 (by decide) mw_337 (v := .ref (aC 0)) rfl dX8_tries_12 ?_
    refine mk_get C mk_inX1 22 rfl rfl 6 (by decide) mw_204 (v := .ref (aC 7)) rfl dX8_tries_15 ?_
    refine mk_iload_n C 1 dX8_tries_18 rfl ?_
    refine mk_callSi C (c_at l D cI cJ cB cZ cS X Y (aC 7) 10 (uC 6) p1) mw_985 mw_377 mw_1 mw_378 mkn_X8_at rfl ⟨Nat.le_of_ble_eq_true rfl, Nat.le_of_ble_eq_true rfl⟩ (mk_Fr.at (q := 29) rfl) (Nat.le_of_ble_eq_true rfl) dX8_tries_19 rfl ?_
    refine mk_goto C 27 dX8_tries_22 (by decide) ?_
    have e0 := Option.some.inj hf
    exact mk_iret C hr hlk e0 rfl dX8_tries_27
set_option maxHeartbeats 40000000 in
set_option maxRecDepth 100000 in
theorem c_Z_taken (l : Launch) (D : va_G) (cI cJ cB cZ cS : ClassId) (X : Nat → Nat) (Y : mk_Y) (aZ aR aT aD aY aP aS aC aO aA aM : Nat → Nat) (uQ : Nat) (uR : Nat → Nat → Int32) (uT : Nat → Nat → Int32) (uD : Nat → Nat → Int32) (uY : Nat → Nat → Int32) (uP : Nat → Nat → Int32) (uS : Nat → Nat → Int32) (uC : Nat → Nat → Int32) (uO : Nat → Nat → Int32) (uA : Nat → Nat → Int32) (uM : Nat → Nat → Int64) (p1 : Int32) (r : Int32) (hf : f_Z_taken uP uC p1 = some r) : mk_Met l yX8_taken cX8_taken 2 (some .int) ({ frames := 1, cells := 0, slots := 0, locals := 21 }) D (mk_TY cI cJ cB cZ cS) X Y [.ref (aZ 0), .int p1] (wChan aZ aR aT aD aY aP aC aO aA aM ++ (wReader aR aT aD uR ++ (wTape aT cI uT ++ (wPlan aD cI uD ++ (wPlay aY aP aS (mk_crs aC aO uQ) cI uY ++ (wPlan aP cI uP ++ (wStack aS cI uS ++ (wCourse aC cI uC ++ (wCourse aO cI uO ++ (wActs aA cI uA ++ (wMeans aM cJ uM))))))))))) (wChan aZ aR aT aD aY aP aC aO aA aM ++ (wReader aR aT aD uR ++ (wTape aT cI uT ++ (wPlan aD cI uD ++ (wPlay aY aP aS (mk_crs aC aO uQ) cI uY ++ (wPlan aP cI uP ++ (wStack aS cI uS ++ (wCourse aC cI uC ++ (wCourse aO cI uO ++ (wActs aA cI uA ++ (wMeans aM cJ uM))))))))))) (some (.int r)) 0 0 := by
  refine mk_start (own := RX8) (by decide) rfl (Nat.le_of_ble_eq_true rfl) ?_
  intro sz p e s m args below meth c A C hr hlk hnm
  replace C : mk_Cx p s m args c cX8_taken 2 RX8 D (mk_TY cI cJ cB cZ cS) X Y A := C
  show mk_Go p l e (headSpec (mk_ws yX8_taken cX8_taken 2 (some .int)) ({ frames := 1, cells := 0, slots := 0, locals := 21 })).room s m args below meth c D A 2 0 0 (MQ below (mk_Q (some (.int r)) D (wChan aZ aR aT aD aY aP aC aO aA aM ++ (wReader aR aT aD uR ++ (wTape aT cI uT ++ (wPlan aD cI uD ++ (wPlay aY aP aS (mk_crs aC aO uQ) cI uY ++ (wPlan aP cI uP ++ (wStack aS cI uS ++ (wCourse aC cI uC ++ (wCourse aO cI uO ++ (wActs aA cI uA ++ (wMeans aM cJ uM))))))))))) A) args s 0 0 A) 0 (wChan aZ aR aT aD aY aP aC aO aA aM ++ (wReader aR aT aD uR ++ (wTape aT cI uT ++ (wPlan aD cI uD ++ (wPlay aY aP aS (mk_crs aC aO uQ) cI uY ++ (wPlan aP cI uP ++ (wStack aS cI uS ++ (wCourse aC cI uC ++ (wCourse aO cI uO ++ (wActs aA cI uA ++ (wMeans aM cJ uM))))))))))) [(0, .ref (aZ 0)), (1, .int p1)] []
  unfold f_Z_taken at hf
  refine mk_aload_n C 0 dX8_taken_0 rfl ?_
  refine mk_get C mk_inX8 0 rfl rfl 4 (by decide) mw_336 (v := .ref (aP 0)) rfl dX8_taken_1 ?_
  refine mk_iload_n C 1 dX8_taken_4 rfl ?_
  obtain ⟨r1, h2, hf⟩ := b1_some hf
  refine mk_callVi C (c_P_hasSender l D cI cJ cB cZ cS X Y aP uP p1 r1 h2) mw_981 mw_982 mw_983 mw_4 mw_984 mkn_X3_hasSender rfl ⟨Nat.le_of_ble_eq_true rfl, Nat.le_of_ble_eq_true rfl⟩ 12 rfl rfl rfl (fr_Z_P cI cJ aZ aR aT aD aY aP aS aC aO aA aM uQ uR uT uD uY uP uS uC uO uA uM uP) (Nat.le_of_ble_eq_true rfl) dX8_taken_5 rfl ?_
  refine mk_if_eq C 25 dX8_taken_8 (by decide) (fun c3 => ?_) (fun c3 => ?_)
  · replace hf := (if_pos c3).symm.trans hf
    refine mk_bipush C (v := (-2)) dX8_taken_25 (by decide) ?_
    have e0 := Option.some.inj hf
    exact mk_iret C hr hlk e0 rfl dX8_taken_27
  · replace hf := (if_neg c3).symm.trans hf
    refine mk_aload_n C 0 dX8_taken_11 rfl ?_
    refine mk_get C mk_inX8 0 rfl rfl 5 (by decide) mw_337 (v := .ref (aC 0)) rfl dX8_taken_12 ?_
    refine mk_get C mk_inX1 22 rfl rfl 7 (by decide) mw_208 (v := .ref (aC 8)) rfl dX8_taken_15 ?_
    refine mk_iload_n C 1 dX8_taken_18 rfl ?_
    refine mk_callSi C (c_at l D cI cJ cB cZ cS X Y (aC 8) 10 (uC 7) p1) mw_985 mw_377 mw_1 mw_378 mkn_X8_at rfl ⟨Nat.le_of_ble_eq_true rfl, Nat.le_of_ble_eq_true rfl⟩ (mk_Fr.at (q := 30) rfl) (Nat.le_of_ble_eq_true rfl) dX8_taken_19 rfl ?_
    refine mk_goto C 27 dX8_taken_22 (by decide) ?_
    have e0 := Option.some.inj hf
    exact mk_iret C hr hlk e0 rfl dX8_taken_27
set_option maxHeartbeats 40000000 in
set_option maxRecDepth 100000 in
theorem c_Z_order (l : Launch) (D : va_G) (cI cJ cB cZ cS : ClassId) (X : Nat → Nat) (Y : mk_Y) (aZ aR aT aD aY aP aS aC aO aA aM : Nat → Nat) (uQ : Nat) (uR : Nat → Nat → Int32) (uT : Nat → Nat → Int32) (uD : Nat → Nat → Int32) (uY : Nat → Nat → Int32) (uP : Nat → Nat → Int32) (uS : Nat → Nat → Int32) (uC : Nat → Nat → Int32) (uO : Nat → Nat → Int32) (uA : Nat → Nat → Int32) (uM : Nat → Nat → Int64) (p1 : Int32) (r : Int32) (hf : f_Z_order uP uC p1 = some r) : mk_Met l yX8_order cX8_order 2 (some .int) ({ frames := 1, cells := 0, slots := 0, locals := 21 }) D (mk_TY cI cJ cB cZ cS) X Y [.ref (aZ 0), .int p1] (wChan aZ aR aT aD aY aP aC aO aA aM ++ (wReader aR aT aD uR ++ (wTape aT cI uT ++ (wPlan aD cI uD ++ (wPlay aY aP aS (mk_crs aC aO uQ) cI uY ++ (wPlan aP cI uP ++ (wStack aS cI uS ++ (wCourse aC cI uC ++ (wCourse aO cI uO ++ (wActs aA cI uA ++ (wMeans aM cJ uM))))))))))) (wChan aZ aR aT aD aY aP aC aO aA aM ++ (wReader aR aT aD uR ++ (wTape aT cI uT ++ (wPlan aD cI uD ++ (wPlay aY aP aS (mk_crs aC aO uQ) cI uY ++ (wPlan aP cI uP ++ (wStack aS cI uS ++ (wCourse aC cI uC ++ (wCourse aO cI uO ++ (wActs aA cI uA ++ (wMeans aM cJ uM))))))))))) (some (.int r)) 0 0 := by
  refine mk_start (own := RX8) (by decide) rfl (Nat.le_of_ble_eq_true rfl) ?_
  intro sz p e s m args below meth c A C hr hlk hnm
  replace C : mk_Cx p s m args c cX8_order 2 RX8 D (mk_TY cI cJ cB cZ cS) X Y A := C
  show mk_Go p l e (headSpec (mk_ws yX8_order cX8_order 2 (some .int)) ({ frames := 1, cells := 0, slots := 0, locals := 21 })).room s m args below meth c D A 2 0 0 (MQ below (mk_Q (some (.int r)) D (wChan aZ aR aT aD aY aP aC aO aA aM ++ (wReader aR aT aD uR ++ (wTape aT cI uT ++ (wPlan aD cI uD ++ (wPlay aY aP aS (mk_crs aC aO uQ) cI uY ++ (wPlan aP cI uP ++ (wStack aS cI uS ++ (wCourse aC cI uC ++ (wCourse aO cI uO ++ (wActs aA cI uA ++ (wMeans aM cJ uM))))))))))) A) args s 0 0 A) 0 (wChan aZ aR aT aD aY aP aC aO aA aM ++ (wReader aR aT aD uR ++ (wTape aT cI uT ++ (wPlan aD cI uD ++ (wPlay aY aP aS (mk_crs aC aO uQ) cI uY ++ (wPlan aP cI uP ++ (wStack aS cI uS ++ (wCourse aC cI uC ++ (wCourse aO cI uO ++ (wActs aA cI uA ++ (wMeans aM cJ uM))))))))))) [(0, .ref (aZ 0)), (1, .int p1)] []
  unfold f_Z_order at hf
  refine mk_iload_n C 1 dX8_order_0 rfl ?_
  refine mk_if_lt C 14 dX8_order_1 (by decide) (fun c1 => ?_) (fun c1 => ?_)
  · replace hf := (if_pos c1).symm.trans hf
    refine mk_bipush C (v := (-2)) dX8_order_14 (by decide) ?_
    have e0 := Option.some.inj hf
    exact mk_iret C hr hlk e0 rfl dX8_order_16
  · replace hf := (if_neg c1).symm.trans hf
    refine mk_aload_n C 0 dX8_order_4 rfl ?_
    refine mk_get C mk_inX8 0 rfl rfl 4 (by decide) mw_336 (v := .ref (aP 0)) rfl dX8_order_5 ?_
    obtain ⟨r2, h3, hf⟩ := b1_some hf
    refine mk_callVi C (c_P_stands l D cI cJ cB cZ cS X Y aP uP r2 h3) mw_628 mw_629 mw_630 mw_4 mw_631 mkn_X3_stands rfl ⟨Nat.le_of_ble_eq_true rfl, Nat.le_of_ble_eq_true rfl⟩ 12 rfl rfl rfl (fr_Z_P cI cJ aZ aR aT aD aY aP aS aC aO aA aM uQ uR uT uD uY uP uS uC uO uA uM uP) (Nat.le_of_ble_eq_true rfl) dX8_order_8 rfl ?_
    refine mk_if_ne C 17 dX8_order_11 (by decide) (fun c4 => ?_) (fun c4 => ?_)
    · replace hf := (if_neg c4).symm.trans hf
      refine mk_iload_n C 1 dX8_order_17 rfl ?_
      refine mk_aload_n C 0 dX8_order_18 rfl ?_
      refine mk_get C mk_inX8 0 rfl rfl 5 (by decide) mw_337 (v := .ref (aC 0)) rfl dX8_order_19 ?_
      refine mk_get C mk_inX1 22 rfl rfl 9 (by decide) mw_213 (v := .int (uC 9 0)) rfl dX8_order_22 ?_
      refine mk_icmp_ge C 42 dX8_order_25 (by decide) (fun c5 => ?_) (fun c5 => ?_)
      · replace hf := (if_pos c5).symm.trans hf
        refine mk_iconst C (v := (-1)) dX8_order_42 (by decide) ?_
        have e0 := Option.some.inj hf
        exact mk_iret C hr hlk e0 rfl dX8_order_43
      · replace hf := (if_neg c5).symm.trans hf
        refine mk_aload_n C 0 dX8_order_28 rfl ?_
        refine mk_get C mk_inX8 0 rfl rfl 5 (by decide) mw_337 (v := .ref (aC 0)) rfl dX8_order_29 ?_
        refine mk_get C mk_inX1 22 rfl rfl 8 (by decide) mw_210 (v := .ref (aC 9)) rfl dX8_order_32 ?_
        refine mk_iload_n C 1 dX8_order_35 rfl ?_
        refine mk_callSi C (c_at l D cI cJ cB cZ cS X Y (aC 9) 10 (uC 8) p1) mw_985 mw_377 mw_1 mw_378 mkn_X8_at rfl ⟨Nat.le_of_ble_eq_true rfl, Nat.le_of_ble_eq_true rfl⟩ (mk_Fr.at (q := 31) rfl) (Nat.le_of_ble_eq_true rfl) dX8_order_36 rfl ?_
        refine mk_goto C 43 dX8_order_39 (by decide) ?_
        have e0 := Option.some.inj hf
        exact mk_iret C hr hlk e0 rfl dX8_order_43
    · replace hf := (if_pos c4).symm.trans hf
      refine mk_bipush C (v := (-2)) dX8_order_14 (by decide) ?_
      have e0 := Option.some.inj hf
      exact mk_iret C hr hlk e0 rfl dX8_order_16
set_option maxHeartbeats 40000000 in
set_option maxRecDepth 100000 in
theorem c_Z_all (l : Launch) (D : va_G) (cI cJ cB cZ cS : ClassId) (X : Nat → Nat) (Y : mk_Y) (aZ aR aT aD aY aP aS aC aO aA aM : Nat → Nat) (uQ : Nat) (uR : Nat → Nat → Int32) (uT : Nat → Nat → Int32) (uD : Nat → Nat → Int32) (uY : Nat → Nat → Int32) (uP : Nat → Nat → Int32) (uS : Nat → Nat → Int32) (uC : Nat → Nat → Int32) (uO : Nat → Nat → Int32) (uA : Nat → Nat → Int32) (uM : Nat → Nat → Int64) (r : Int32) (hf : f_Z_all uP uC = some r) : mk_Met l yX8_all cX8_all 1 (some .int) ({ frames := 1, cells := 0, slots := 0, locals := 20 }) D (mk_TY cI cJ cB cZ cS) X Y [.ref (aZ 0)] (wChan aZ aR aT aD aY aP aC aO aA aM ++ (wReader aR aT aD uR ++ (wTape aT cI uT ++ (wPlan aD cI uD ++ (wPlay aY aP aS (mk_crs aC aO uQ) cI uY ++ (wPlan aP cI uP ++ (wStack aS cI uS ++ (wCourse aC cI uC ++ (wCourse aO cI uO ++ (wActs aA cI uA ++ (wMeans aM cJ uM))))))))))) (wChan aZ aR aT aD aY aP aC aO aA aM ++ (wReader aR aT aD uR ++ (wTape aT cI uT ++ (wPlan aD cI uD ++ (wPlay aY aP aS (mk_crs aC aO uQ) cI uY ++ (wPlan aP cI uP ++ (wStack aS cI uS ++ (wCourse aC cI uC ++ (wCourse aO cI uO ++ (wActs aA cI uA ++ (wMeans aM cJ uM))))))))))) (some (.int r)) 0 0 := by
  refine mk_start (own := RX8) (by decide) rfl (Nat.le_of_ble_eq_true rfl) ?_
  intro sz p e s m args below meth c A C hr hlk hnm
  replace C : mk_Cx p s m args c cX8_all 1 RX8 D (mk_TY cI cJ cB cZ cS) X Y A := C
  show mk_Go p l e (headSpec (mk_ws yX8_all cX8_all 1 (some .int)) ({ frames := 1, cells := 0, slots := 0, locals := 20 })).room s m args below meth c D A 1 0 0 (MQ below (mk_Q (some (.int r)) D (wChan aZ aR aT aD aY aP aC aO aA aM ++ (wReader aR aT aD uR ++ (wTape aT cI uT ++ (wPlan aD cI uD ++ (wPlay aY aP aS (mk_crs aC aO uQ) cI uY ++ (wPlan aP cI uP ++ (wStack aS cI uS ++ (wCourse aC cI uC ++ (wCourse aO cI uO ++ (wActs aA cI uA ++ (wMeans aM cJ uM))))))))))) A) args s 0 0 A) 0 (wChan aZ aR aT aD aY aP aC aO aA aM ++ (wReader aR aT aD uR ++ (wTape aT cI uT ++ (wPlan aD cI uD ++ (wPlay aY aP aS (mk_crs aC aO uQ) cI uY ++ (wPlan aP cI uP ++ (wStack aS cI uS ++ (wCourse aC cI uC ++ (wCourse aO cI uO ++ (wActs aA cI uA ++ (wMeans aM cJ uM))))))))))) [(0, .ref (aZ 0))] []
  unfold f_Z_all at hf
  refine mk_aload_n C 0 dX8_all_0 rfl ?_
  refine mk_get C mk_inX8 0 rfl rfl 4 (by decide) mw_336 (v := .ref (aP 0)) rfl dX8_all_1 ?_
  obtain ⟨r1, h2, hf⟩ := b1_some hf
  refine mk_callVi C (c_P_stands l D cI cJ cB cZ cS X Y aP uP r1 h2) mw_628 mw_629 mw_630 mw_4 mw_631 mkn_X3_stands rfl ⟨Nat.le_of_ble_eq_true rfl, Nat.le_of_ble_eq_true rfl⟩ 12 rfl rfl rfl (fr_Z_P cI cJ aZ aR aT aD aY aP aS aC aO aA aM uQ uR uT uD uY uP uS uC uO uA uM uP) (Nat.le_of_ble_eq_true rfl) dX8_all_4 rfl ?_
  refine mk_if_eq C 20 dX8_all_7 (by decide) (fun c3 => ?_) (fun c3 => ?_)
  · replace hf := (if_pos c3).symm.trans hf
    refine mk_bipush C (v := (-2)) dX8_all_20 (by decide) ?_
    have e0 := Option.some.inj hf
    exact mk_iret C hr hlk e0 rfl dX8_all_22
  · replace hf := (if_neg c3).symm.trans hf
    refine mk_aload_n C 0 dX8_all_10 rfl ?_
    refine mk_get C mk_inX8 0 rfl rfl 5 (by decide) mw_337 (v := .ref (aC 0)) rfl dX8_all_11 ?_
    refine mk_get C mk_inX1 22 rfl rfl 9 (by decide) mw_213 (v := .int (uC 9 0)) rfl dX8_all_14 ?_
    refine mk_goto C 22 dX8_all_17 (by decide) ?_
    have e0 := Option.some.inj hf
    exact mk_iret C hr hlk e0 rfl dX8_all_22
set_option maxHeartbeats 40000000 in
set_option maxRecDepth 100000 in
theorem c_Z_done (l : Launch) (D : va_G) (cI cJ cB cZ cS : ClassId) (X : Nat → Nat) (Y : mk_Y) (aZ aR aT aD aY aP aS aC aO aA aM : Nat → Nat) (uQ : Nat) (uR : Nat → Nat → Int32) (uT : Nat → Nat → Int32) (uD : Nat → Nat → Int32) (uY : Nat → Nat → Int32) (uP : Nat → Nat → Int32) (uS : Nat → Nat → Int32) (uC : Nat → Nat → Int32) (uO : Nat → Nat → Int32) (uA : Nat → Nat → Int32) (uM : Nat → Nat → Int64) (r : Int32) (hf : f_Z_done uP uC = some r) : mk_Met l yX8_done cX8_done 1 (some .int) ({ frames := 2, cells := 0, slots := 0, locals := 42 }) D (mk_TY cI cJ cB cZ cS) X Y [.ref (aZ 0)] (wChan aZ aR aT aD aY aP aC aO aA aM ++ (wReader aR aT aD uR ++ (wTape aT cI uT ++ (wPlan aD cI uD ++ (wPlay aY aP aS (mk_crs aC aO uQ) cI uY ++ (wPlan aP cI uP ++ (wStack aS cI uS ++ (wCourse aC cI uC ++ (wCourse aO cI uO ++ (wActs aA cI uA ++ (wMeans aM cJ uM))))))))))) (wChan aZ aR aT aD aY aP aC aO aA aM ++ (wReader aR aT aD uR ++ (wTape aT cI uT ++ (wPlan aD cI uD ++ (wPlay aY aP aS (mk_crs aC aO uQ) cI uY ++ (wPlan aP cI uP ++ (wStack aS cI uS ++ (wCourse aC cI uC ++ (wCourse aO cI uO ++ (wActs aA cI uA ++ (wMeans aM cJ uM))))))))))) (some (.int r)) 0 0 := by
  refine mk_start (own := RX8) (by decide) rfl (Nat.le_of_ble_eq_true rfl) ?_
  intro sz p e s m args below meth c A C hr hlk hnm
  replace C : mk_Cx p s m args c cX8_done 1 RX8 D (mk_TY cI cJ cB cZ cS) X Y A := C
  show mk_Go p l e (headSpec (mk_ws yX8_done cX8_done 1 (some .int)) ({ frames := 2, cells := 0, slots := 0, locals := 42 })).room s m args below meth c D A 1 0 0 (MQ below (mk_Q (some (.int r)) D (wChan aZ aR aT aD aY aP aC aO aA aM ++ (wReader aR aT aD uR ++ (wTape aT cI uT ++ (wPlan aD cI uD ++ (wPlay aY aP aS (mk_crs aC aO uQ) cI uY ++ (wPlan aP cI uP ++ (wStack aS cI uS ++ (wCourse aC cI uC ++ (wCourse aO cI uO ++ (wActs aA cI uA ++ (wMeans aM cJ uM))))))))))) A) args s 0 0 A) 0 (wChan aZ aR aT aD aY aP aC aO aA aM ++ (wReader aR aT aD uR ++ (wTape aT cI uT ++ (wPlan aD cI uD ++ (wPlay aY aP aS (mk_crs aC aO uQ) cI uY ++ (wPlan aP cI uP ++ (wStack aS cI uS ++ (wCourse aC cI uC ++ (wCourse aO cI uO ++ (wActs aA cI uA ++ (wMeans aM cJ uM))))))))))) [(0, .ref (aZ 0))] []
  unfold f_Z_done at hf
  refine mk_aload_n C 0 dX8_done_0 rfl ?_
  refine mk_get C mk_inX8 0 rfl rfl 4 (by decide) mw_336 (v := .ref (aP 0)) rfl dX8_done_1 ?_
  obtain ⟨r1, h2, hf⟩ := b1_some hf
  refine mk_callVi C (c_P_stands l D cI cJ cB cZ cS X Y aP uP r1 h2) mw_628 mw_629 mw_630 mw_4 mw_631 mkn_X3_stands rfl ⟨Nat.le_of_ble_eq_true rfl, Nat.le_of_ble_eq_true rfl⟩ 12 rfl rfl rfl (fr_Z_P cI cJ aZ aR aT aD aY aP aS aC aO aA aM uQ uR uT uD uY uP uS uC uO uA uM uP) (Nat.le_of_ble_eq_true rfl) dX8_done_4 rfl ?_
  refine mk_if_eq C 27 dX8_done_7 (by decide) (fun c3 => ?_) (fun c3 => ?_)
  · replace hf := (if_pos c3).symm.trans hf
    refine mk_bipush C (v := (-2)) dX8_done_27 (by decide) ?_
    have e0 := Option.some.inj hf
    exact mk_iret C hr hlk e0 rfl dX8_done_29
  · replace hf := (if_neg c3).symm.trans hf
    refine mk_aload_n C 0 dX8_done_10 rfl ?_
    refine mk_get C mk_inX8 0 rfl rfl 5 (by decide) mw_337 (v := .ref (aC 0)) rfl dX8_done_11 ?_
    refine mk_aload_n C 0 dX8_done_14 rfl ?_
    refine mk_get C mk_inX8 0 rfl rfl 4 (by decide) mw_336 (v := .ref (aP 0)) rfl dX8_done_15 ?_
    refine mk_get C mk_inX3 12 rfl rfl 5 (by decide) mw_83 (v := .int (uP 5 0)) rfl dX8_done_18 ?_
    obtain ⟨r4, h5, hf⟩ := b1_some hf
    refine mk_callVi C (c_C_lastSlot l D cI cJ cB cZ cS X Y aC uC (uP 5 0) r4 h5) mw_636 mw_637 mw_638 mw_7 mw_639 mkn_X1_lastSlot rfl ⟨Nat.le_of_ble_eq_true rfl, Nat.le_of_ble_eq_true rfl⟩ 22 rfl rfl rfl (fr_Z_C cI cJ aZ aR aT aD aY aP aS aC aO aA aM uQ uR uT uD uY uP uS uC uO uA uM uC) (Nat.le_of_ble_eq_true rfl) dX8_done_21 rfl ?_
    refine mk_goto C 29 dX8_done_24 (by decide) ?_
    have e0 := Option.some.inj hf
    exact mk_iret C hr hlk e0 rfl dX8_done_29
set_option maxHeartbeats 40000000 in
set_option maxRecDepth 100000 in
theorem c_Z_heard (l : Launch) (D : va_G) (cI cJ cB cZ cS : ClassId) (X : Nat → Nat) (Y : mk_Y) (aZ aR aT aD aY aP aS aC aO aA aM : Nat → Nat) (uQ : Nat) (uR : Nat → Nat → Int32) (uT : Nat → Nat → Int32) (uD : Nat → Nat → Int32) (uY : Nat → Nat → Int32) (uP : Nat → Nat → Int32) (uS : Nat → Nat → Int32) (uC : Nat → Nat → Int32) (uO : Nat → Nat → Int32) (uA : Nat → Nat → Int32) (uM : Nat → Nat → Int64) (p1 : Int32) (r : Int32) (hf : f_Z_heard uP uC p1 = some r) : mk_Met l yX8_heard cX8_heard 2 (some .int) ({ frames := 2, cells := 0, slots := 0, locals := 45 }) D (mk_TY cI cJ cB cZ cS) X Y [.ref (aZ 0), .int p1] (wChan aZ aR aT aD aY aP aC aO aA aM ++ (wReader aR aT aD uR ++ (wTape aT cI uT ++ (wPlan aD cI uD ++ (wPlay aY aP aS (mk_crs aC aO uQ) cI uY ++ (wPlan aP cI uP ++ (wStack aS cI uS ++ (wCourse aC cI uC ++ (wCourse aO cI uO ++ (wActs aA cI uA ++ (wMeans aM cJ uM))))))))))) (wChan aZ aR aT aD aY aP aC aO aA aM ++ (wReader aR aT aD uR ++ (wTape aT cI uT ++ (wPlan aD cI uD ++ (wPlay aY aP aS (mk_crs aC aO uQ) cI uY ++ (wPlan aP cI uP ++ (wStack aS cI uS ++ (wCourse aC cI uC ++ (wCourse aO cI uO ++ (wActs aA cI uA ++ (wMeans aM cJ uM))))))))))) (some (.int r)) 0 0 := by
  refine mk_start (own := RX8) (by decide) rfl (Nat.le_of_ble_eq_true rfl) ?_
  intro sz p e s m args below meth c A C hr hlk hnm
  replace C : mk_Cx p s m args c cX8_heard 2 RX8 D (mk_TY cI cJ cB cZ cS) X Y A := C
  show mk_Go p l e (headSpec (mk_ws yX8_heard cX8_heard 2 (some .int)) ({ frames := 2, cells := 0, slots := 0, locals := 45 })).room s m args below meth c D A 2 0 0 (MQ below (mk_Q (some (.int r)) D (wChan aZ aR aT aD aY aP aC aO aA aM ++ (wReader aR aT aD uR ++ (wTape aT cI uT ++ (wPlan aD cI uD ++ (wPlay aY aP aS (mk_crs aC aO uQ) cI uY ++ (wPlan aP cI uP ++ (wStack aS cI uS ++ (wCourse aC cI uC ++ (wCourse aO cI uO ++ (wActs aA cI uA ++ (wMeans aM cJ uM))))))))))) A) args s 0 0 A) 0 (wChan aZ aR aT aD aY aP aC aO aA aM ++ (wReader aR aT aD uR ++ (wTape aT cI uT ++ (wPlan aD cI uD ++ (wPlay aY aP aS (mk_crs aC aO uQ) cI uY ++ (wPlan aP cI uP ++ (wStack aS cI uS ++ (wCourse aC cI uC ++ (wCourse aO cI uO ++ (wActs aA cI uA ++ (wMeans aM cJ uM))))))))))) [(0, .ref (aZ 0)), (1, .int p1)] []
  unfold f_Z_heard at hf
  refine mk_iload_n C 1 dX8_heard_0 rfl ?_
  refine mk_if_lt C 19 dX8_heard_1 (by decide) (fun c1 => ?_) (fun c1 => ?_)
  · replace hf := (if_pos c1).symm.trans hf
    refine mk_bipush C (v := (-2)) dX8_heard_19 (by decide) ?_
    have e0 := Option.some.inj hf
    exact mk_iret C hr hlk e0 rfl dX8_heard_21
  · replace hf := (if_neg c1).symm.trans hf
    refine mk_iload_n C 1 dX8_heard_4 rfl ?_
    refine mk_iconst C (v := 2) dX8_heard_5 (by decide) ?_
    refine mk_icmp_gt C 19 dX8_heard_6 (by decide) (fun c2 => ?_) (fun c2 => ?_)
    · replace hf := (if_pos c2).symm.trans hf
      refine mk_bipush C (v := (-2)) dX8_heard_19 (by decide) ?_
      have e0 := Option.some.inj hf
      exact mk_iret C hr hlk e0 rfl dX8_heard_21
    · replace hf := (if_neg c2).symm.trans hf
      refine mk_aload_n C 0 dX8_heard_9 rfl ?_
      refine mk_get C mk_inX8 0 rfl rfl 4 (by decide) mw_336 (v := .ref (aP 0)) rfl dX8_heard_10 ?_
      obtain ⟨r3, h4, hf⟩ := b1_some hf
      refine mk_callVi C (c_P_stands l D cI cJ cB cZ cS X Y aP uP r3 h4) mw_628 mw_629 mw_630 mw_4 mw_631 mkn_X3_stands rfl ⟨Nat.le_of_ble_eq_true rfl, Nat.le_of_ble_eq_true rfl⟩ 12 rfl rfl rfl (fr_Z_P cI cJ aZ aR aT aD aY aP aS aC aO aA aM uQ uR uT uD uY uP uS uC uO uA uM uP) (Nat.le_of_ble_eq_true rfl) dX8_heard_13 rfl ?_
      refine mk_if_ne C 22 dX8_heard_16 (by decide) (fun c5 => ?_) (fun c5 => ?_)
      · replace hf := (if_neg c5).symm.trans hf
        refine mk_aload_n C 0 dX8_heard_22 rfl ?_
        refine mk_get C mk_inX8 0 rfl rfl 5 (by decide) mw_337 (v := .ref (aC 0)) rfl dX8_heard_23 ?_
        refine mk_iload_n C 1 dX8_heard_26 rfl ?_
        refine mk_aload_n C 0 dX8_heard_27 rfl ?_
        refine mk_get C mk_inX8 0 rfl rfl 4 (by decide) mw_336 (v := .ref (aP 0)) rfl dX8_heard_28 ?_
        refine mk_get C mk_inX3 12 rfl rfl 1 (by decide) mw_67 (v := .int (uP 1 0)) rfl dX8_heard_31 ?_
        obtain ⟨r6, h7, hf⟩ := b1_some hf
        refine mk_callVi C (c_C_slotsHeard l D cI cJ cB cZ cS X Y aC uC p1 (uP 1 0) r6 h7) mw_1013 mw_1014 mw_1015 mw_7 mw_1016 mkn_X1_slotsHeard rfl ⟨Nat.le_of_ble_eq_true rfl, Nat.le_of_ble_eq_true rfl⟩ 22 rfl rfl rfl (fr_Z_C cI cJ aZ aR aT aD aY aP aS aC aO aA aM uQ uR uT uD uY uP uS uC uO uA uM uC) (Nat.le_of_ble_eq_true rfl) dX8_heard_34 rfl ?_
        have e0 := Option.some.inj hf
        exact mk_iret C hr hlk e0 rfl dX8_heard_37
      · replace hf := (if_pos c5).symm.trans hf
        refine mk_bipush C (v := (-2)) dX8_heard_19 (by decide) ?_
        have e0 := Option.some.inj hf
        exact mk_iret C hr hlk e0 rfl dX8_heard_21
set_option maxHeartbeats 40000000 in
set_option maxRecDepth 100000 in
theorem c_Z_collided (l : Launch) (D : va_G) (cI cJ cB cZ cS : ClassId) (X : Nat → Nat) (Y : mk_Y) (aZ aR aT aD aY aP aS aC aO aA aM : Nat → Nat) (uQ : Nat) (uR : Nat → Nat → Int32) (uT : Nat → Nat → Int32) (uD : Nat → Nat → Int32) (uY : Nat → Nat → Int32) (uP : Nat → Nat → Int32) (uS : Nat → Nat → Int32) (uC : Nat → Nat → Int32) (uO : Nat → Nat → Int32) (uA : Nat → Nat → Int32) (uM : Nat → Nat → Int64) (r : Int32) (hf : f_Z_collided uP uC = some r) : mk_Met l yX8_collided cX8_collided 1 (some .int) ({ frames := 2, cells := 0, slots := 0, locals := 44 }) D (mk_TY cI cJ cB cZ cS) X Y [.ref (aZ 0)] (wChan aZ aR aT aD aY aP aC aO aA aM ++ (wReader aR aT aD uR ++ (wTape aT cI uT ++ (wPlan aD cI uD ++ (wPlay aY aP aS (mk_crs aC aO uQ) cI uY ++ (wPlan aP cI uP ++ (wStack aS cI uS ++ (wCourse aC cI uC ++ (wCourse aO cI uO ++ (wActs aA cI uA ++ (wMeans aM cJ uM))))))))))) (wChan aZ aR aT aD aY aP aC aO aA aM ++ (wReader aR aT aD uR ++ (wTape aT cI uT ++ (wPlan aD cI uD ++ (wPlay aY aP aS (mk_crs aC aO uQ) cI uY ++ (wPlan aP cI uP ++ (wStack aS cI uS ++ (wCourse aC cI uC ++ (wCourse aO cI uO ++ (wActs aA cI uA ++ (wMeans aM cJ uM))))))))))) (some (.int r)) 0 0 := by
  refine mk_start (own := RX8) (by decide) rfl (Nat.le_of_ble_eq_true rfl) ?_
  intro sz p e s m args below meth c A C hr hlk hnm
  replace C : mk_Cx p s m args c cX8_collided 1 RX8 D (mk_TY cI cJ cB cZ cS) X Y A := C
  show mk_Go p l e (headSpec (mk_ws yX8_collided cX8_collided 1 (some .int)) ({ frames := 2, cells := 0, slots := 0, locals := 44 })).room s m args below meth c D A 1 0 0 (MQ below (mk_Q (some (.int r)) D (wChan aZ aR aT aD aY aP aC aO aA aM ++ (wReader aR aT aD uR ++ (wTape aT cI uT ++ (wPlan aD cI uD ++ (wPlay aY aP aS (mk_crs aC aO uQ) cI uY ++ (wPlan aP cI uP ++ (wStack aS cI uS ++ (wCourse aC cI uC ++ (wCourse aO cI uO ++ (wActs aA cI uA ++ (wMeans aM cJ uM))))))))))) A) args s 0 0 A) 0 (wChan aZ aR aT aD aY aP aC aO aA aM ++ (wReader aR aT aD uR ++ (wTape aT cI uT ++ (wPlan aD cI uD ++ (wPlay aY aP aS (mk_crs aC aO uQ) cI uY ++ (wPlan aP cI uP ++ (wStack aS cI uS ++ (wCourse aC cI uC ++ (wCourse aO cI uO ++ (wActs aA cI uA ++ (wMeans aM cJ uM))))))))))) [(0, .ref (aZ 0))] []
  unfold f_Z_collided at hf
  refine mk_aload_n C 0 dX8_collided_0 rfl ?_
  refine mk_get C mk_inX8 0 rfl rfl 4 (by decide) mw_336 (v := .ref (aP 0)) rfl dX8_collided_1 ?_
  obtain ⟨r1, h2, hf⟩ := b1_some hf
  refine mk_callVi C (c_P_stands l D cI cJ cB cZ cS X Y aP uP r1 h2) mw_628 mw_629 mw_630 mw_4 mw_631 mkn_X3_stands rfl ⟨Nat.le_of_ble_eq_true rfl, Nat.le_of_ble_eq_true rfl⟩ 12 rfl rfl rfl (fr_Z_P cI cJ aZ aR aT aD aY aP aS aC aO aA aM uQ uR uT uD uY uP uS uC uO uA uM uP) (Nat.le_of_ble_eq_true rfl) dX8_collided_4 rfl ?_
  refine mk_if_eq C 27 dX8_collided_7 (by decide) (fun c3 => ?_) (fun c3 => ?_)
  · replace hf := (if_pos c3).symm.trans hf
    refine mk_bipush C (v := (-2)) dX8_collided_27 (by decide) ?_
    have e0 := Option.some.inj hf
    exact mk_iret C hr hlk e0 rfl dX8_collided_29
  · replace hf := (if_neg c3).symm.trans hf
    refine mk_aload_n C 0 dX8_collided_10 rfl ?_
    refine mk_get C mk_inX8 0 rfl rfl 5 (by decide) mw_337 (v := .ref (aC 0)) rfl dX8_collided_11 ?_
    refine mk_aload_n C 0 dX8_collided_14 rfl ?_
    refine mk_get C mk_inX8 0 rfl rfl 4 (by decide) mw_336 (v := .ref (aP 0)) rfl dX8_collided_15 ?_
    refine mk_get C mk_inX3 12 rfl rfl 1 (by decide) mw_67 (v := .int (uP 1 0)) rfl dX8_collided_18 ?_
    obtain ⟨r4, h5, hf⟩ := b1_some hf
    refine mk_callVi C (c_C_collisions l D cI cJ cB cZ cS X Y aC uC (uP 1 0) r4 h5) mw_645 mw_646 mw_647 mw_7 mw_648 mkn_X1_collisions rfl ⟨Nat.le_of_ble_eq_true rfl, Nat.le_of_ble_eq_true rfl⟩ 22 rfl rfl rfl (fr_Z_C cI cJ aZ aR aT aD aY aP aS aC aO aA aM uQ uR uT uD uY uP uS uC uO uA uM uC) (Nat.le_of_ble_eq_true rfl) dX8_collided_21 rfl ?_
    refine mk_goto C 29 dX8_collided_24 (by decide) ?_
    have e0 := Option.some.inj hf
    exact mk_iret C hr hlk e0 rfl dX8_collided_29
set_option maxHeartbeats 40000000 in
set_option maxRecDepth 100000 in
theorem c_Z_skips (l : Launch) (D : va_G) (cI cJ cB cZ cS : ClassId) (X : Nat → Nat) (Y : mk_Y) (aZ aR aT aD aY aP aS aC aO aA aM : Nat → Nat) (uQ : Nat) (uR : Nat → Nat → Int32) (uT : Nat → Nat → Int32) (uD : Nat → Nat → Int32) (uY : Nat → Nat → Int32) (uP : Nat → Nat → Int32) (uS : Nat → Nat → Int32) (uC : Nat → Nat → Int32) (uO : Nat → Nat → Int32) (uA : Nat → Nat → Int32) (uM : Nat → Nat → Int64) (r : Int32) (hf : f_Z_skips uP uC = some r) : mk_Met l yX8_skips cX8_skips 1 (some .int) ({ frames := 2, cells := 0, slots := 0, locals := 44 }) D (mk_TY cI cJ cB cZ cS) X Y [.ref (aZ 0)] (wChan aZ aR aT aD aY aP aC aO aA aM ++ (wReader aR aT aD uR ++ (wTape aT cI uT ++ (wPlan aD cI uD ++ (wPlay aY aP aS (mk_crs aC aO uQ) cI uY ++ (wPlan aP cI uP ++ (wStack aS cI uS ++ (wCourse aC cI uC ++ (wCourse aO cI uO ++ (wActs aA cI uA ++ (wMeans aM cJ uM))))))))))) (wChan aZ aR aT aD aY aP aC aO aA aM ++ (wReader aR aT aD uR ++ (wTape aT cI uT ++ (wPlan aD cI uD ++ (wPlay aY aP aS (mk_crs aC aO uQ) cI uY ++ (wPlan aP cI uP ++ (wStack aS cI uS ++ (wCourse aC cI uC ++ (wCourse aO cI uO ++ (wActs aA cI uA ++ (wMeans aM cJ uM))))))))))) (some (.int r)) 0 0 := by
  refine mk_start (own := RX8) (by decide) rfl (Nat.le_of_ble_eq_true rfl) ?_
  intro sz p e s m args below meth c A C hr hlk hnm
  replace C : mk_Cx p s m args c cX8_skips 1 RX8 D (mk_TY cI cJ cB cZ cS) X Y A := C
  show mk_Go p l e (headSpec (mk_ws yX8_skips cX8_skips 1 (some .int)) ({ frames := 2, cells := 0, slots := 0, locals := 44 })).room s m args below meth c D A 1 0 0 (MQ below (mk_Q (some (.int r)) D (wChan aZ aR aT aD aY aP aC aO aA aM ++ (wReader aR aT aD uR ++ (wTape aT cI uT ++ (wPlan aD cI uD ++ (wPlay aY aP aS (mk_crs aC aO uQ) cI uY ++ (wPlan aP cI uP ++ (wStack aS cI uS ++ (wCourse aC cI uC ++ (wCourse aO cI uO ++ (wActs aA cI uA ++ (wMeans aM cJ uM))))))))))) A) args s 0 0 A) 0 (wChan aZ aR aT aD aY aP aC aO aA aM ++ (wReader aR aT aD uR ++ (wTape aT cI uT ++ (wPlan aD cI uD ++ (wPlay aY aP aS (mk_crs aC aO uQ) cI uY ++ (wPlan aP cI uP ++ (wStack aS cI uS ++ (wCourse aC cI uC ++ (wCourse aO cI uO ++ (wActs aA cI uA ++ (wMeans aM cJ uM))))))))))) [(0, .ref (aZ 0))] []
  unfold f_Z_skips at hf
  refine mk_aload_n C 0 dX8_skips_0 rfl ?_
  refine mk_get C mk_inX8 0 rfl rfl 4 (by decide) mw_336 (v := .ref (aP 0)) rfl dX8_skips_1 ?_
  obtain ⟨r1, h2, hf⟩ := b1_some hf
  refine mk_callVi C (c_P_stands l D cI cJ cB cZ cS X Y aP uP r1 h2) mw_628 mw_629 mw_630 mw_4 mw_631 mkn_X3_stands rfl ⟨Nat.le_of_ble_eq_true rfl, Nat.le_of_ble_eq_true rfl⟩ 12 rfl rfl rfl (fr_Z_P cI cJ aZ aR aT aD aY aP aS aC aO aA aM uQ uR uT uD uY uP uS uC uO uA uM uP) (Nat.le_of_ble_eq_true rfl) dX8_skips_4 rfl ?_
  refine mk_if_eq C 27 dX8_skips_7 (by decide) (fun c3 => ?_) (fun c3 => ?_)
  · replace hf := (if_pos c3).symm.trans hf
    refine mk_bipush C (v := (-2)) dX8_skips_27 (by decide) ?_
    have e0 := Option.some.inj hf
    exact mk_iret C hr hlk e0 rfl dX8_skips_29
  · replace hf := (if_neg c3).symm.trans hf
    refine mk_aload_n C 0 dX8_skips_10 rfl ?_
    refine mk_get C mk_inX8 0 rfl rfl 5 (by decide) mw_337 (v := .ref (aC 0)) rfl dX8_skips_11 ?_
    refine mk_aload_n C 0 dX8_skips_14 rfl ?_
    refine mk_get C mk_inX8 0 rfl rfl 4 (by decide) mw_336 (v := .ref (aP 0)) rfl dX8_skips_15 ?_
    refine mk_get C mk_inX3 12 rfl rfl 1 (by decide) mw_67 (v := .int (uP 1 0)) rfl dX8_skips_18 ?_
    obtain ⟨r4, h5, hf⟩ := b1_some hf
    refine mk_callVi C (c_C_skipsMade l D cI cJ cB cZ cS X Y aC uC (uP 1 0) r4 h5) mw_654 mw_655 mw_656 mw_7 mw_657 mkn_X1_skipsMade rfl ⟨Nat.le_of_ble_eq_true rfl, Nat.le_of_ble_eq_true rfl⟩ 22 rfl rfl rfl (fr_Z_C cI cJ aZ aR aT aD aY aP aS aC aO aA aM uQ uR uT uD uY uP uS uC uO uA uM uC) (Nat.le_of_ble_eq_true rfl) dX8_skips_21 rfl ?_
    refine mk_goto C 29 dX8_skips_24 (by decide) ?_
    have e0 := Option.some.inj hf
    exact mk_iret C hr hlk e0 rfl dX8_skips_29
set_option maxHeartbeats 40000000 in
set_option maxRecDepth 100000 in
theorem c_Z_deepest (l : Launch) (D : va_G) (cI cJ cB cZ cS : ClassId) (X : Nat → Nat) (Y : mk_Y) (aZ aR aT aD aY aP aS aC aO aA aM : Nat → Nat) (uQ : Nat) (uR : Nat → Nat → Int32) (uT : Nat → Nat → Int32) (uD : Nat → Nat → Int32) (uY : Nat → Nat → Int32) (uP : Nat → Nat → Int32) (uS : Nat → Nat → Int32) (uC : Nat → Nat → Int32) (uO : Nat → Nat → Int32) (uA : Nat → Nat → Int32) (uM : Nat → Nat → Int64) (r : Int32) (hf : f_Z_deepest uP uC = some r) : mk_Met l yX8_deepest cX8_deepest 1 (some .int) ({ frames := 2, cells := 0, slots := 0, locals := 46 }) D (mk_TY cI cJ cB cZ cS) X Y [.ref (aZ 0)] (wChan aZ aR aT aD aY aP aC aO aA aM ++ (wReader aR aT aD uR ++ (wTape aT cI uT ++ (wPlan aD cI uD ++ (wPlay aY aP aS (mk_crs aC aO uQ) cI uY ++ (wPlan aP cI uP ++ (wStack aS cI uS ++ (wCourse aC cI uC ++ (wCourse aO cI uO ++ (wActs aA cI uA ++ (wMeans aM cJ uM))))))))))) (wChan aZ aR aT aD aY aP aC aO aA aM ++ (wReader aR aT aD uR ++ (wTape aT cI uT ++ (wPlan aD cI uD ++ (wPlay aY aP aS (mk_crs aC aO uQ) cI uY ++ (wPlan aP cI uP ++ (wStack aS cI uS ++ (wCourse aC cI uC ++ (wCourse aO cI uO ++ (wActs aA cI uA ++ (wMeans aM cJ uM))))))))))) (some (.int r)) 0 0 := by
  refine mk_start (own := RX8) (by decide) rfl (Nat.le_of_ble_eq_true rfl) ?_
  intro sz p e s m args below meth c A C hr hlk hnm
  replace C : mk_Cx p s m args c cX8_deepest 1 RX8 D (mk_TY cI cJ cB cZ cS) X Y A := C
  show mk_Go p l e (headSpec (mk_ws yX8_deepest cX8_deepest 1 (some .int)) ({ frames := 2, cells := 0, slots := 0, locals := 46 })).room s m args below meth c D A 1 0 0 (MQ below (mk_Q (some (.int r)) D (wChan aZ aR aT aD aY aP aC aO aA aM ++ (wReader aR aT aD uR ++ (wTape aT cI uT ++ (wPlan aD cI uD ++ (wPlay aY aP aS (mk_crs aC aO uQ) cI uY ++ (wPlan aP cI uP ++ (wStack aS cI uS ++ (wCourse aC cI uC ++ (wCourse aO cI uO ++ (wActs aA cI uA ++ (wMeans aM cJ uM))))))))))) A) args s 0 0 A) 0 (wChan aZ aR aT aD aY aP aC aO aA aM ++ (wReader aR aT aD uR ++ (wTape aT cI uT ++ (wPlan aD cI uD ++ (wPlay aY aP aS (mk_crs aC aO uQ) cI uY ++ (wPlan aP cI uP ++ (wStack aS cI uS ++ (wCourse aC cI uC ++ (wCourse aO cI uO ++ (wActs aA cI uA ++ (wMeans aM cJ uM))))))))))) [(0, .ref (aZ 0))] []
  unfold f_Z_deepest at hf
  refine mk_aload_n C 0 dX8_deepest_0 rfl ?_
  refine mk_get C mk_inX8 0 rfl rfl 4 (by decide) mw_336 (v := .ref (aP 0)) rfl dX8_deepest_1 ?_
  obtain ⟨r1, h2, hf⟩ := b1_some hf
  refine mk_callVi C (c_P_stands l D cI cJ cB cZ cS X Y aP uP r1 h2) mw_628 mw_629 mw_630 mw_4 mw_631 mkn_X3_stands rfl ⟨Nat.le_of_ble_eq_true rfl, Nat.le_of_ble_eq_true rfl⟩ 12 rfl rfl rfl (fr_Z_P cI cJ aZ aR aT aD aY aP aS aC aO aA aM uQ uR uT uD uY uP uS uC uO uA uM uP) (Nat.le_of_ble_eq_true rfl) dX8_deepest_4 rfl ?_
  refine mk_if_eq C 27 dX8_deepest_7 (by decide) (fun c3 => ?_) (fun c3 => ?_)
  · replace hf := (if_pos c3).symm.trans hf
    refine mk_bipush C (v := (-2)) dX8_deepest_27 (by decide) ?_
    have e0 := Option.some.inj hf
    exact mk_iret C hr hlk e0 rfl dX8_deepest_29
  · replace hf := (if_neg c3).symm.trans hf
    refine mk_aload_n C 0 dX8_deepest_10 rfl ?_
    refine mk_get C mk_inX8 0 rfl rfl 5 (by decide) mw_337 (v := .ref (aC 0)) rfl dX8_deepest_11 ?_
    refine mk_aload_n C 0 dX8_deepest_14 rfl ?_
    refine mk_get C mk_inX8 0 rfl rfl 4 (by decide) mw_336 (v := .ref (aP 0)) rfl dX8_deepest_15 ?_
    refine mk_get C mk_inX3 12 rfl rfl 1 (by decide) mw_67 (v := .int (uP 1 0)) rfl dX8_deepest_18 ?_
    obtain ⟨r4, h5, hf⟩ := b1_some hf
    refine mk_callVi C (c_C_greatestDepth l D cI cJ cB cZ cS X Y aC uC (uP 1 0) r4 h5) mw_1021 mw_1022 mw_1023 mw_7 mw_1024 mkn_X1_greatestDepth rfl ⟨Nat.le_of_ble_eq_true rfl, Nat.le_of_ble_eq_true rfl⟩ 22 rfl rfl rfl (fr_Z_C cI cJ aZ aR aT aD aY aP aS aC aO aA aM uQ uR uT uD uY uP uS uC uO uA uM uC) (Nat.le_of_ble_eq_true rfl) dX8_deepest_21 rfl ?_
    refine mk_goto C 29 dX8_deepest_24 (by decide) ?_
    have e0 := Option.some.inj hf
    exact mk_iret C hr hlk e0 rfl dX8_deepest_29
set_option maxHeartbeats 40000000 in
set_option maxRecDepth 100000 in
theorem c_Z_epochs (l : Launch) (D : va_G) (cI cJ cB cZ cS : ClassId) (X : Nat → Nat) (Y : mk_Y) (aZ aR aT aD aY aP aS aC aO aA aM : Nat → Nat) (uQ : Nat) (uR : Nat → Nat → Int32) (uT : Nat → Nat → Int32) (uD : Nat → Nat → Int32) (uY : Nat → Nat → Int32) (uP : Nat → Nat → Int32) (uS : Nat → Nat → Int32) (uC : Nat → Nat → Int32) (uO : Nat → Nat → Int32) (uA : Nat → Nat → Int32) (uM : Nat → Nat → Int64) (r : Int32) (hf : f_Z_epochs uP uC = some r) : mk_Met l yX8_epochs cX8_epochs 1 (some .int) ({ frames := 1, cells := 0, slots := 0, locals := 20 }) D (mk_TY cI cJ cB cZ cS) X Y [.ref (aZ 0)] (wChan aZ aR aT aD aY aP aC aO aA aM ++ (wReader aR aT aD uR ++ (wTape aT cI uT ++ (wPlan aD cI uD ++ (wPlay aY aP aS (mk_crs aC aO uQ) cI uY ++ (wPlan aP cI uP ++ (wStack aS cI uS ++ (wCourse aC cI uC ++ (wCourse aO cI uO ++ (wActs aA cI uA ++ (wMeans aM cJ uM))))))))))) (wChan aZ aR aT aD aY aP aC aO aA aM ++ (wReader aR aT aD uR ++ (wTape aT cI uT ++ (wPlan aD cI uD ++ (wPlay aY aP aS (mk_crs aC aO uQ) cI uY ++ (wPlan aP cI uP ++ (wStack aS cI uS ++ (wCourse aC cI uC ++ (wCourse aO cI uO ++ (wActs aA cI uA ++ (wMeans aM cJ uM))))))))))) (some (.int r)) 0 0 := by
  refine mk_start (own := RX8) (by decide) rfl (Nat.le_of_ble_eq_true rfl) ?_
  intro sz p e s m args below meth c A C hr hlk hnm
  replace C : mk_Cx p s m args c cX8_epochs 1 RX8 D (mk_TY cI cJ cB cZ cS) X Y A := C
  show mk_Go p l e (headSpec (mk_ws yX8_epochs cX8_epochs 1 (some .int)) ({ frames := 1, cells := 0, slots := 0, locals := 20 })).room s m args below meth c D A 1 0 0 (MQ below (mk_Q (some (.int r)) D (wChan aZ aR aT aD aY aP aC aO aA aM ++ (wReader aR aT aD uR ++ (wTape aT cI uT ++ (wPlan aD cI uD ++ (wPlay aY aP aS (mk_crs aC aO uQ) cI uY ++ (wPlan aP cI uP ++ (wStack aS cI uS ++ (wCourse aC cI uC ++ (wCourse aO cI uO ++ (wActs aA cI uA ++ (wMeans aM cJ uM))))))))))) A) args s 0 0 A) 0 (wChan aZ aR aT aD aY aP aC aO aA aM ++ (wReader aR aT aD uR ++ (wTape aT cI uT ++ (wPlan aD cI uD ++ (wPlay aY aP aS (mk_crs aC aO uQ) cI uY ++ (wPlan aP cI uP ++ (wStack aS cI uS ++ (wCourse aC cI uC ++ (wCourse aO cI uO ++ (wActs aA cI uA ++ (wMeans aM cJ uM))))))))))) [(0, .ref (aZ 0))] []
  unfold f_Z_epochs at hf
  refine mk_aload_n C 0 dX8_epochs_0 rfl ?_
  refine mk_get C mk_inX8 0 rfl rfl 4 (by decide) mw_336 (v := .ref (aP 0)) rfl dX8_epochs_1 ?_
  obtain ⟨r1, h2, hf⟩ := b1_some hf
  refine mk_callVi C (c_P_stands l D cI cJ cB cZ cS X Y aP uP r1 h2) mw_628 mw_629 mw_630 mw_4 mw_631 mkn_X3_stands rfl ⟨Nat.le_of_ble_eq_true rfl, Nat.le_of_ble_eq_true rfl⟩ 12 rfl rfl rfl (fr_Z_P cI cJ aZ aR aT aD aY aP aS aC aO aA aM uQ uR uT uD uY uP uS uC uO uA uM uP) (Nat.le_of_ble_eq_true rfl) dX8_epochs_4 rfl ?_
  refine mk_if_eq C 20 dX8_epochs_7 (by decide) (fun c3 => ?_) (fun c3 => ?_)
  · replace hf := (if_pos c3).symm.trans hf
    refine mk_bipush C (v := (-2)) dX8_epochs_20 (by decide) ?_
    have e0 := Option.some.inj hf
    exact mk_iret C hr hlk e0 rfl dX8_epochs_22
  · replace hf := (if_neg c3).symm.trans hf
    refine mk_aload_n C 0 dX8_epochs_10 rfl ?_
    refine mk_get C mk_inX8 0 rfl rfl 5 (by decide) mw_337 (v := .ref (aC 0)) rfl dX8_epochs_11 ?_
    refine mk_get C mk_inX1 22 rfl rfl 13 (by decide) mw_220 (v := .int (uC 13 0)) rfl dX8_epochs_14 ?_
    refine mk_goto C 22 dX8_epochs_17 (by decide) ?_
    have e0 := Option.some.inj hf
    exact mk_iret C hr hlk e0 rfl dX8_epochs_22
set_option maxHeartbeats 40000000 in
set_option maxRecDepth 100000 in
theorem c_Z_isLaw (l : Launch) (D : va_G) (cI cJ cB cZ cS : ClassId) (X : Nat → Nat) (Y : mk_Y) (p0 : Int32) (r : Int32) (hf : f_Z_isLaw p0 = some r) : mk_Met l yX8_isLaw cX8_isLaw 1 (some .boolean) ({ frames := 0, cells := 0, slots := 0, locals := 0 }) D (mk_TY cI cJ cB cZ cS) X Y [.int p0] ([] : va_W) ([] : va_W) (some (.int r)) 0 0 := by
  refine mk_start (own := RX8) (by decide) rfl (Nat.le_of_ble_eq_true rfl) ?_
  intro sz p e s m args below meth c A C hr hlk hnm
  replace C : mk_Cx p s m args c cX8_isLaw 1 RX8 D (mk_TY cI cJ cB cZ cS) X Y A := C
  show mk_Go p l e (headSpec (mk_ws yX8_isLaw cX8_isLaw 1 (some .boolean)) ({ frames := 0, cells := 0, slots := 0, locals := 0 })).room s m args below meth c D A 1 0 0 (MQ below (mk_Q (some (.int r)) D ([] : va_W) A) args s 0 0 A) 0 ([] : va_W) [(0, .int p0)] []
  unfold f_Z_isLaw at hf
  refine mk_iload_n C 0 dX8_isLaw_0 rfl ?_
  refine mk_if_lt C 13 dX8_isLaw_1 (by decide) (fun c1 => ?_) (fun c1 => ?_)
  · replace hf := (if_pos c1).symm.trans hf
    refine mk_iconst C (v := 0) dX8_isLaw_13 (by decide) ?_
    have e0 := Option.some.inj hf
    exact mk_zret C hr hlk rfl e0 rfl dX8_isLaw_14
  · replace hf := (if_neg c1).symm.trans hf
    refine mk_iload_n C 0 dX8_isLaw_4 rfl ?_
    refine mk_iconst C (v := 3) dX8_isLaw_5 (by decide) ?_
    refine mk_icmp_gt C 13 dX8_isLaw_6 (by decide) (fun c2 => ?_) (fun c2 => ?_)
    · replace hf := (if_pos c2).symm.trans hf
      refine mk_iconst C (v := 0) dX8_isLaw_13 (by decide) ?_
      have e0 := Option.some.inj hf
      exact mk_zret C hr hlk rfl e0 rfl dX8_isLaw_14
    · replace hf := (if_neg c2).symm.trans hf
      refine mk_iconst C (v := 1) dX8_isLaw_9 (by decide) ?_
      refine mk_goto C 14 dX8_isLaw_10 (by decide) ?_
      have e0 := Option.some.inj hf
      exact mk_zret C hr hlk rfl e0 rfl dX8_isLaw_14
set_option maxHeartbeats 40000000 in
set_option maxRecDepth 100000 in
theorem c_Z_by (l : Launch) (D : va_G) (cI cJ cB cZ cS : ClassId) (X : Nat → Nat) (Y : mk_Y) (aZ aR aT aD aY aP aS aC aO aA aM : Nat → Nat) (uQ : Nat) (uR : Nat → Nat → Int32) (uT : Nat → Nat → Int32) (uD : Nat → Nat → Int32) (uY : Nat → Nat → Int32) (uP : Nat → Nat → Int32) (uS : Nat → Nat → Int32) (uC : Nat → Nat → Int32) (uO : Nat → Nat → Int32) (uA : Nat → Nat → Int32) (uM : Nat → Nat → Int64) (p1 : Int32) (p2 : Int32) (r : Int32) (wQ : Nat) (wY : Nat → Nat → Int32) (wS : Nat → Nat → Int32) (wO : Nat → Nat → Int32) (hf : f_Z_by uQ uY uP uS uO p1 p2 = some (r, wQ, wY, wS, wO)) : mk_Met l yX8_by cX8_by 3 (some .int) ({ frames := 6, cells := 0, slots := 0, locals := 142 }) D (mk_TY cI cJ cB cZ cS) X Y [.ref (aZ 0), .int p1, .int p2] (wChan aZ aR aT aD aY aP aC aO aA aM ++ (wReader aR aT aD uR ++ (wTape aT cI uT ++ (wPlan aD cI uD ++ (wPlay aY aP aS (mk_crs aC aO uQ) cI uY ++ (wPlan aP cI uP ++ (wStack aS cI uS ++ (wCourse aC cI uC ++ (wCourse aO cI uO ++ (wActs aA cI uA ++ (wMeans aM cJ uM))))))))))) (wChan aZ aR aT aD aY aP aC aO aA aM ++ (wReader aR aT aD uR ++ (wTape aT cI uT ++ (wPlan aD cI uD ++ (wPlay aY aP aS (mk_crs aC aO wQ) cI wY ++ (wPlan aP cI uP ++ (wStack aS cI wS ++ (wCourse aC cI uC ++ (wCourse aO cI wO ++ (wActs aA cI uA ++ (wMeans aM cJ uM))))))))))) (some (.int r)) 0 0 := by
  refine mk_start (own := RX8) (by decide) rfl (Nat.le_of_ble_eq_true rfl) ?_
  intro sz p e s m args below meth c A C hr hlk hnm
  replace C : mk_Cx p s m args c cX8_by 3 RX8 D (mk_TY cI cJ cB cZ cS) X Y A := C
  show mk_Go p l e (headSpec (mk_ws yX8_by cX8_by 3 (some .int)) ({ frames := 6, cells := 0, slots := 0, locals := 142 })).room s m args below meth c D A 3 0 0 (MQ below (mk_Q (some (.int r)) D (wChan aZ aR aT aD aY aP aC aO aA aM ++ (wReader aR aT aD uR ++ (wTape aT cI uT ++ (wPlan aD cI uD ++ (wPlay aY aP aS (mk_crs aC aO wQ) cI wY ++ (wPlan aP cI uP ++ (wStack aS cI wS ++ (wCourse aC cI uC ++ (wCourse aO cI wO ++ (wActs aA cI uA ++ (wMeans aM cJ uM))))))))))) A) args s 0 0 A) 0 (wChan aZ aR aT aD aY aP aC aO aA aM ++ (wReader aR aT aD uR ++ (wTape aT cI uT ++ (wPlan aD cI uD ++ (wPlay aY aP aS (mk_crs aC aO uQ) cI uY ++ (wPlan aP cI uP ++ (wStack aS cI uS ++ (wCourse aC cI uC ++ (wCourse aO cI uO ++ (wActs aA cI uA ++ (wMeans aM cJ uM))))))))))) [(0, .ref (aZ 0)), (1, .int p1), (2, .int p2)] []
  unfold f_Z_by at hf
  refine mk_iload_n C 1 dX8_by_0 rfl ?_
  obtain ⟨r1, h2, hf⟩ := b1_some hf
  refine mk_callSi C (c_Z_isLaw l D cI cJ cB cZ cS X Y p1 r1 h2) mw_662 mw_663 mw_1 mw_664 mkn_X8_isLaw rfl ⟨Nat.le_of_ble_eq_true rfl, Nat.le_of_ble_eq_true rfl⟩ (mk_Fr.nil _) (Nat.le_of_ble_eq_true rfl) dX8_by_1 rfl ?_
  refine mk_if_eq C 26 dX8_by_4 (by decide) (fun c3 => ?_) (fun c3 => ?_)
  · replace hf := (if_pos c3).symm.trans hf
    refine mk_bipush C (v := (-2)) dX8_by_26 (by decide) ?_
    have e := Option.some.inj hf
    simp only [Prod.mk.injEq] at e
    obtain ⟨e0, e1, e2, e3, e4⟩ := e
    exact mk_iret C hr hlk e0 (by rw [← e1, ← e2, ← e3, ← e4]) dX8_by_28
  · replace hf := (if_neg c3).symm.trans hf
    refine mk_iload_n C 2 dX8_by_7 rfl ?_
    refine mk_if_lt C 26 dX8_by_8 (by decide) (fun c4 => ?_) (fun c4 => ?_)
    · replace hf := (if_pos c4).symm.trans hf
      refine mk_bipush C (v := (-2)) dX8_by_26 (by decide) ?_
      have e := Option.some.inj hf
      simp only [Prod.mk.injEq] at e
      obtain ⟨e0, e1, e2, e3, e4⟩ := e
      exact mk_iret C hr hlk e0 (by rw [← e1, ← e2, ← e3, ← e4]) dX8_by_28
    · replace hf := (if_neg c4).symm.trans hf
      refine mk_iload_n C 2 dX8_by_11 rfl ?_
      refine mk_iconst C (v := 3) dX8_by_12 (by decide) ?_
      refine mk_icmp_gt C 26 dX8_by_13 (by decide) (fun c5 => ?_) (fun c5 => ?_)
      · replace hf := (if_pos c5).symm.trans hf
        refine mk_bipush C (v := (-2)) dX8_by_26 (by decide) ?_
        have e := Option.some.inj hf
        simp only [Prod.mk.injEq] at e
        obtain ⟨e0, e1, e2, e3, e4⟩ := e
        exact mk_iret C hr hlk e0 (by rw [← e1, ← e2, ← e3, ← e4]) dX8_by_28
      · replace hf := (if_neg c5).symm.trans hf
        refine mk_aload_n C 0 dX8_by_16 rfl ?_
        refine mk_get C mk_inX8 0 rfl rfl 4 (by decide) mw_336 (v := .ref (aP 0)) rfl dX8_by_17 ?_
        obtain ⟨r6, h7, hf⟩ := b1_some hf
        refine mk_callVi C (c_P_stands l D cI cJ cB cZ cS X Y aP uP r6 h7) mw_628 mw_629 mw_630 mw_4 mw_631 mkn_X3_stands rfl ⟨Nat.le_of_ble_eq_true rfl, Nat.le_of_ble_eq_true rfl⟩ 12 rfl rfl rfl (fr_Z_P cI cJ aZ aR aT aD aY aP aS aC aO aA aM uQ uR uT uD uY uP uS uC uO uA uM uP) (Nat.le_of_ble_eq_true rfl) dX8_by_20 rfl ?_
        refine mk_if_ne C 29 dX8_by_23 (by decide) (fun c8 => ?_) (fun c8 => ?_)
        · replace hf := (if_neg c8).symm.trans hf
          refine mk_aload_n C 0 dX8_by_29 rfl ?_
          refine mk_get C mk_inX8 0 rfl rfl 3 (by decide) mw_335 (v := .ref (aY 0)) rfl dX8_by_30 ?_
          refine mk_aload_n C 0 dX8_by_33 rfl ?_
          refine mk_get C mk_inX8 0 rfl rfl 6 (by decide) mw_338 (v := .ref (aO 0)) rfl dX8_by_34 ?_
          refine mk_iload_n C 1 dX8_by_37 rfl ?_
          refine mk_iconst C (v := (-1)) dX8_by_38 (by decide) ?_
          refine mk_iconst C (v := (-1)) dX8_by_39 (by decide) ?_
          obtain ⟨r9, uY_10, uS_11, uO_12, h13, hf⟩ := b4_some hf
          refine mk_callVi C (c_Y_run l D cI cJ cB cZ cS X Y aY aP aS aO (mk_crs aC aO uQ) uY uP uS uO p1 (-1) (-1) r9 uY_10 uS_11 uO_12 h13) mw_514 mw_515 mw_516 mw_5 mw_517 mkn_X4_run rfl ⟨Nat.le_of_ble_eq_true rfl, Nat.le_of_ble_eq_true rfl⟩ 10 rfl rfl rfl (fr_Z_YPSO_run cI cJ aZ aR aT aD aY aP aS aC aO aA aM uQ uR uT uD uY uP uS uC uO uA uM uY_10 uP uS_11 uO_12) (Nat.le_of_ble_eq_true rfl) dX8_by_40 rfl ?_
          refine mk_pop C dX8_by_43 rfl ?_
          refine mk_iload_n C 2 dX8_by_44 rfl ?_
          by_cases c14 : p2 = 0
          · replace hf := (if_pos c14).symm.trans hf
            refine mk_tableIn C 72 c14 dX8_by_45 (by decide) (by decide) rfl (by decide) ?_
            refine mk_aload_n C 0 dX8_by_72 rfl ?_
            refine mk_get C mk_inX8 0 rfl rfl 6 (by decide) mw_338 (v := .ref (aO 0)) rfl dX8_by_73 ?_
            refine mk_aload_n C 0 dX8_by_76 rfl ?_
            refine mk_get C mk_inX8 0 rfl rfl 4 (by decide) mw_336 (v := .ref (aP 0)) rfl dX8_by_77 ?_
            refine mk_get C mk_inX3 12 rfl rfl 5 (by decide) mw_83 (v := .int (uP 5 0)) rfl dX8_by_80 ?_
            obtain ⟨r15, h16, hf⟩ := b1_some hf
            refine mk_callVi C (c_C_lastSlot l D cI cJ cB cZ cS X Y aO uO_12 (uP 5 0) r15 h16) mw_636 mw_637 mw_638 mw_7 mw_639 mkn_X1_lastSlot rfl ⟨Nat.le_of_ble_eq_true rfl, Nat.le_of_ble_eq_true rfl⟩ 35 rfl rfl rfl (fr_Z_O cI cJ aZ aR aT aD aY aP aS aC aO aA aM 1 uR uT uD uY_10 uP uS_11 uC uO_12 uA uM uO_12) (Nat.le_of_ble_eq_true rfl) dX8_by_83 rfl ?_
            have e := Option.some.inj hf
            simp only [Prod.mk.injEq] at e
            obtain ⟨e0, e1, e2, e3, e4⟩ := e
            exact mk_iret C hr hlk e0 (by rw [← e1, ← e2, ← e3, ← e4]) dX8_by_86
          · replace hf := (if_neg c14).symm.trans hf
            by_cases c17 : p2 = 1
            · replace hf := (if_pos c17).symm.trans hf
              refine mk_tableIn C 87 c17 dX8_by_45 (by decide) (by decide) rfl (by decide) ?_
              refine mk_aload_n C 0 dX8_by_87 rfl ?_
              refine mk_get C mk_inX8 0 rfl rfl 6 (by decide) mw_338 (v := .ref (aO 0)) rfl dX8_by_88 ?_
              refine mk_get C mk_inX1 35 rfl rfl 9 (by decide) mw_213 (v := .int (uO_12 9 0)) rfl dX8_by_91 ?_
              have e := Option.some.inj hf
              simp only [Prod.mk.injEq] at e
              obtain ⟨e0, e1, e2, e3, e4⟩ := e
              exact mk_iret C hr hlk e0 (by rw [← e1, ← e2, ← e3, ← e4]) dX8_by_94
            · replace hf := (if_neg c17).symm.trans hf
              by_cases c18 : p2 = 2
              · replace hf := (if_pos c18).symm.trans hf
                refine mk_tableIn C 95 c18 dX8_by_45 (by decide) (by decide) rfl (by decide) ?_
                refine mk_aload_n C 0 dX8_by_95 rfl ?_
                refine mk_get C mk_inX8 0 rfl rfl 6 (by decide) mw_338 (v := .ref (aO 0)) rfl dX8_by_96 ?_
                refine mk_aload_n C 0 dX8_by_99 rfl ?_
                refine mk_get C mk_inX8 0 rfl rfl 4 (by decide) mw_336 (v := .ref (aP 0)) rfl dX8_by_100 ?_
                refine mk_get C mk_inX3 12 rfl rfl 1 (by decide) mw_67 (v := .int (uP 1 0)) rfl dX8_by_103 ?_
                obtain ⟨r19, h20, hf⟩ := b1_some hf
                refine mk_callVi C (c_C_collisions l D cI cJ cB cZ cS X Y aO uO_12 (uP 1 0) r19 h20) mw_645 mw_646 mw_647 mw_7 mw_648 mkn_X1_collisions rfl ⟨Nat.le_of_ble_eq_true rfl, Nat.le_of_ble_eq_true rfl⟩ 35 rfl rfl rfl (fr_Z_O cI cJ aZ aR aT aD aY aP aS aC aO aA aM 1 uR uT uD uY_10 uP uS_11 uC uO_12 uA uM uO_12) (Nat.le_of_ble_eq_true rfl) dX8_by_106 rfl ?_
                have e := Option.some.inj hf
                simp only [Prod.mk.injEq] at e
                obtain ⟨e0, e1, e2, e3, e4⟩ := e
                exact mk_iret C hr hlk e0 (by rw [← e1, ← e2, ← e3, ← e4]) dX8_by_109
              · replace hf := (if_neg c18).symm.trans hf
                refine mk_tableOut C 110 dX8_by_45 (by have e0 := mk_ne c14 (k := 0) (by decide); have e1 := mk_ne c17 (k := 1) (by decide); have e2 := mk_ne c18 (k := 2) (by decide); omega) (by decide) ?_
                refine mk_aload_n C 0 dX8_by_110 rfl ?_
                refine mk_get C mk_inX8 0 rfl rfl 6 (by decide) mw_338 (v := .ref (aO 0)) rfl dX8_by_111 ?_
                refine mk_aload_n C 0 dX8_by_114 rfl ?_
                refine mk_get C mk_inX8 0 rfl rfl 4 (by decide) mw_336 (v := .ref (aP 0)) rfl dX8_by_115 ?_
                refine mk_get C mk_inX3 12 rfl rfl 1 (by decide) mw_67 (v := .int (uP 1 0)) rfl dX8_by_118 ?_
                obtain ⟨r21, h22, hf⟩ := b1_some hf
                refine mk_callVi C (c_C_skipsMade l D cI cJ cB cZ cS X Y aO uO_12 (uP 1 0) r21 h22) mw_654 mw_655 mw_656 mw_7 mw_657 mkn_X1_skipsMade rfl ⟨Nat.le_of_ble_eq_true rfl, Nat.le_of_ble_eq_true rfl⟩ 35 rfl rfl rfl (fr_Z_O cI cJ aZ aR aT aD aY aP aS aC aO aA aM 1 uR uT uD uY_10 uP uS_11 uC uO_12 uA uM uO_12) (Nat.le_of_ble_eq_true rfl) dX8_by_121 rfl ?_
                have e := Option.some.inj hf
                simp only [Prod.mk.injEq] at e
                obtain ⟨e0, e1, e2, e3, e4⟩ := e
                exact mk_iret C hr hlk e0 (by rw [← e1, ← e2, ← e3, ← e4]) dX8_by_124
        · replace hf := (if_pos c8).symm.trans hf
          refine mk_bipush C (v := (-2)) dX8_by_26 (by decide) ?_
          have e := Option.some.inj hf
          simp only [Prod.mk.injEq] at e
          obtain ⟨e0, e1, e2, e3, e4⟩ := e
          exact mk_iret C hr hlk e0 (by rw [← e1, ← e2, ← e3, ← e4]) dX8_by_28
set_option maxHeartbeats 40000000 in
set_option maxRecDepth 100000 in
theorem c_Z_rule (l : Launch) (D : va_G) (cI cJ cB cZ cS : ClassId) (X : Nat → Nat) (Y : mk_Y) (aZ aR aT aD aY aP aS aC aO aA aM : Nat → Nat) (uQ : Nat) (uR : Nat → Nat → Int32) (uT : Nat → Nat → Int32) (uD : Nat → Nat → Int32) (uY : Nat → Nat → Int32) (uP : Nat → Nat → Int32) (uS : Nat → Nat → Int32) (uC : Nat → Nat → Int32) (uO : Nat → Nat → Int32) (uA : Nat → Nat → Int32) (uM : Nat → Nat → Int64) (p1 : Int32) (r : Int32) (wQ : Nat) (wY : Nat → Nat → Int32) (wP : Nat → Nat → Int32) (wS : Nat → Nat → Int32) (wC : Nat → Nat → Int32) (wA : Nat → Nat → Int32) (hf : f_Z_rule uQ uY uP uS uC uA p1 = some (r, wQ, wY, wP, wS, wC, wA)) : mk_Met l yX8_rule cX8_rule 2 (some .int) ({ frames := 6, cells := 0, slots := 0, locals := 142 }) D (mk_TY cI cJ cB cZ cS) X Y [.ref (aZ 0), .int p1] (wChan aZ aR aT aD aY aP aC aO aA aM ++ (wReader aR aT aD uR ++ (wTape aT cI uT ++ (wPlan aD cI uD ++ (wPlay aY aP aS (mk_crs aC aO uQ) cI uY ++ (wPlan aP cI uP ++ (wStack aS cI uS ++ (wCourse aC cI uC ++ (wCourse aO cI uO ++ (wActs aA cI uA ++ (wMeans aM cJ uM))))))))))) (wChan aZ aR aT aD aY aP aC aO aA aM ++ (wReader aR aT aD uR ++ (wTape aT cI uT ++ (wPlan aD cI uD ++ (wPlay aY aP aS (mk_crs aC aO wQ) cI wY ++ (wPlan aP cI wP ++ (wStack aS cI wS ++ (wCourse aC cI wC ++ (wCourse aO cI uO ++ (wActs aA cI wA ++ (wMeans aM cJ uM))))))))))) (some (.int r)) 0 0 := by
  refine mk_start (own := RX8) (by decide) rfl (Nat.le_of_ble_eq_true rfl) ?_
  intro sz p e s m args below meth c A C hr hlk hnm
  replace C : mk_Cx p s m args c cX8_rule 2 RX8 D (mk_TY cI cJ cB cZ cS) X Y A := C
  show mk_Go p l e (headSpec (mk_ws yX8_rule cX8_rule 2 (some .int)) ({ frames := 6, cells := 0, slots := 0, locals := 142 })).room s m args below meth c D A 2 0 0 (MQ below (mk_Q (some (.int r)) D (wChan aZ aR aT aD aY aP aC aO aA aM ++ (wReader aR aT aD uR ++ (wTape aT cI uT ++ (wPlan aD cI uD ++ (wPlay aY aP aS (mk_crs aC aO wQ) cI wY ++ (wPlan aP cI wP ++ (wStack aS cI wS ++ (wCourse aC cI wC ++ (wCourse aO cI uO ++ (wActs aA cI wA ++ (wMeans aM cJ uM))))))))))) A) args s 0 0 A) 0 (wChan aZ aR aT aD aY aP aC aO aA aM ++ (wReader aR aT aD uR ++ (wTape aT cI uT ++ (wPlan aD cI uD ++ (wPlay aY aP aS (mk_crs aC aO uQ) cI uY ++ (wPlan aP cI uP ++ (wStack aS cI uS ++ (wCourse aC cI uC ++ (wCourse aO cI uO ++ (wActs aA cI uA ++ (wMeans aM cJ uM))))))))))) [(0, .ref (aZ 0)), (1, .int p1)] []
  unfold f_Z_rule at hf
  refine mk_aload_n C 0 dX8_rule_0 rfl ?_
  refine mk_get C mk_inX8 0 rfl rfl 4 (by decide) mw_336 (v := .ref (aP 0)) rfl dX8_rule_1 ?_
  obtain ⟨r1, h2, hf⟩ := b1_some hf
  refine mk_callVi C (c_P_stands l D cI cJ cB cZ cS X Y aP uP r1 h2) mw_628 mw_629 mw_630 mw_4 mw_631 mkn_X3_stands rfl ⟨Nat.le_of_ble_eq_true rfl, Nat.le_of_ble_eq_true rfl⟩ 12 rfl rfl rfl (fr_Z_P cI cJ aZ aR aT aD aY aP aS aC aO aA aM uQ uR uT uD uY uP uS uC uO uA uM uP) (Nat.le_of_ble_eq_true rfl) dX8_rule_4 rfl ?_
  refine mk_if_eq C 17 dX8_rule_7 (by decide) (fun c3 => ?_) (fun c3 => ?_)
  · replace hf := (if_pos c3).symm.trans hf
    refine mk_bipush C (v := (-2)) dX8_rule_17 (by decide) ?_
    have e := Option.some.inj hf
    simp only [Prod.mk.injEq] at e
    obtain ⟨e0, e1, e2, e3, e4, e5, e6⟩ := e
    exact mk_iret C hr hlk e0 (by rw [← e1, ← e2, ← e3, ← e4, ← e5, ← e6]) dX8_rule_19
  · replace hf := (if_neg c3).symm.trans hf
    refine mk_iload_n C 1 dX8_rule_10 rfl ?_
    obtain ⟨r4, h5, hf⟩ := b1_some hf
    refine mk_callSi C (c_Z_isLaw l D cI cJ cB cZ cS X Y p1 r4 h5) mw_662 mw_663 mw_1 mw_664 mkn_X8_isLaw rfl ⟨Nat.le_of_ble_eq_true rfl, Nat.le_of_ble_eq_true rfl⟩ (mk_Fr.nil _) (Nat.le_of_ble_eq_true rfl) dX8_rule_11 rfl ?_
    refine mk_if_ne C 20 dX8_rule_14 (by decide) (fun c6 => ?_) (fun c6 => ?_)
    · replace hf := (if_neg c6).symm.trans hf
      refine mk_aload_n C 0 dX8_rule_20 rfl ?_
      refine mk_get C mk_inX8 0 rfl rfl 4 (by decide) mw_336 (v := .ref (aP 0)) rfl dX8_rule_21 ?_
      refine mk_get C mk_inX3 12 rfl rfl 0 (by decide) mw_63 (v := .int (uP 0 0)) rfl dX8_rule_24 ?_
      refine mk_iload_n C 1 dX8_rule_27 rfl ?_
      refine mk_icmp_eq C 43 dX8_rule_28 (by decide) (fun c7 => ?_) (fun c7 => ?_)
      · replace hf := (if_pos c7).symm.trans hf
        refine mk_bipush C (v := (-5)) dX8_rule_43 (by decide) ?_
        have e := Option.some.inj hf
        simp only [Prod.mk.injEq] at e
        obtain ⟨e0, e1, e2, e3, e4, e5, e6⟩ := e
        exact mk_iret C hr hlk e0 (by rw [← e1, ← e2, ← e3, ← e4, ← e5, ← e6]) dX8_rule_45
      · replace hf := (if_neg c7).symm.trans hf
        refine mk_aload_n C 0 dX8_rule_31 rfl ?_
        refine mk_get C mk_inX8 0 rfl rfl 7 (by decide) mw_339 (v := .ref (aA 0)) rfl dX8_rule_32 ?_
        refine mk_get C mk_inX0 48 rfl rfl 2 (by decide) mw_303 (v := .int (uA 2 0)) rfl dX8_rule_35 ?_
        refine mk_bipush C (v := 20) dX8_rule_38 (by decide) ?_
        refine mk_icmp_lt C 46 dX8_rule_40 (by decide) (fun c8 => ?_) (fun c8 => ?_)
        · replace hf := (if_pos c8).symm.trans hf
          refine mk_aload_n C 0 dX8_rule_46 rfl ?_
          refine mk_get C mk_inX8 0 rfl rfl 7 (by decide) mw_339 (v := .ref (aA 0)) rfl dX8_rule_47 ?_
          refine mk_iconst C (v := 2) dX8_rule_50 (by decide) ?_
          refine mk_aload_n C 0 dX8_rule_51 rfl ?_
          refine mk_get C mk_inX8 0 rfl rfl 4 (by decide) mw_336 (v := .ref (aP 0)) rfl dX8_rule_52 ?_
          refine mk_get C mk_inX3 12 rfl rfl 0 (by decide) mw_63 (v := .int (uP 0 0)) rfl dX8_rule_55 ?_
          obtain ⟨uA_9, h10, hf⟩ := b1_some hf
          refine mk_callVv C (c_A_note l D cI cJ cB cZ cS X Y aA uA 2 (uP 0 0) uA_9 h10) mw_669 mw_670 mw_671 mw_8 mw_672 mkn_X0_note rfl ⟨Nat.le_of_ble_eq_true rfl, Nat.le_of_ble_eq_true rfl⟩ 48 rfl rfl rfl (fr_Z_A cI cJ aZ aR aT aD aY aP aS aC aO aA aM uQ uR uT uD uY uP uS uC uO uA uM uA_9) (Nat.le_of_ble_eq_true rfl) dX8_rule_58 rfl ?_
          refine mk_aload_n C 0 dX8_rule_61 rfl ?_
          refine mk_get C mk_inX8 0 rfl rfl 4 (by decide) mw_336 (v := .ref (aP 0)) rfl dX8_rule_62 ?_
          refine mk_iload_n C 1 dX8_rule_65 rfl ?_
          refine mk_put C mk_inX3 tyX3 tyX3_ok nmX3 12 rfl rfl 0 (by decide) mw_63 rfl rfl rfl (Nat.le_of_ble_eq_true rfl) (ws' := (wChan aZ aR aT aD aY aP aC aO aA aM ++ (wReader aR aT aD uR ++ (wTape aT cI uT ++ (wPlan aD cI uD ++ (wPlay aY aP aS (mk_crs aC aO uQ) cI uY ++ (wPlan aP cI (upF 0 p1 uP) ++ (wStack aS cI uS ++ (wCourse aC cI uC ++ (wCourse aO cI uO ++ (wActs aA cI uA_9 ++ (wMeans aM cJ uM)))))))))))) (st_ZRTDYPSCOAM_P_0 cI cJ aZ aR aT aD aY aP aS aC aO aA aM uQ uR uT uD uY uP uS uC uO uA_9 uM p1) dX8_rule_66 ?_
          refine mk_aload_n C 0 dX8_rule_69 rfl ?_
          refine mk_get C mk_inX8 0 rfl rfl 3 (by decide) mw_335 (v := .ref (aY 0)) rfl dX8_rule_70 ?_
          refine mk_aload_n C 0 dX8_rule_73 rfl ?_
          refine mk_get C mk_inX8 0 rfl rfl 5 (by decide) mw_337 (v := .ref (aC 0)) rfl dX8_rule_74 ?_
          refine mk_aload_n C 0 dX8_rule_77 rfl ?_
          refine mk_get C mk_inX8 0 rfl rfl 4 (by decide) mw_336 (v := .ref (aP 0)) rfl dX8_rule_78 ?_
          refine mk_get C mk_inX3 12 rfl rfl 0 (by decide) mw_63 (v := .int p1) rfl dX8_rule_81 ?_
          refine mk_iconst C (v := (-1)) dX8_rule_84 (by decide) ?_
          refine mk_iconst C (v := (-1)) dX8_rule_85 (by decide) ?_
          obtain ⟨r11, uY_12, uS_13, uC_14, h15, hf⟩ := b4_some hf
          refine mk_callVi C (c_Y_run l D cI cJ cB cZ cS X Y aY aP aS aC (mk_crs aC aO uQ) uY (upF 0 p1 uP) uS uC p1 (-1) (-1) r11 uY_12 uS_13 uC_14 h15) mw_514 mw_515 mw_516 mw_5 mw_517 mkn_X4_run rfl ⟨Nat.le_of_ble_eq_true rfl, Nat.le_of_ble_eq_true rfl⟩ 10 rfl rfl rfl (fr_Z_YPSC_run cI cJ aZ aR aT aD aY aP aS aC aO aA aM uQ uR uT uD uY (upF 0 p1 uP) uS uC uO uA_9 uM uY_12 (upF 0 p1 uP) uS_13 uC_14) (Nat.le_of_ble_eq_true rfl) dX8_rule_86 rfl ?_
          have e := Option.some.inj hf
          simp only [Prod.mk.injEq] at e
          obtain ⟨e0, e1, e2, e3, e4, e5, e6⟩ := e
          exact mk_iret C hr hlk e0 (by rw [← e1, ← e2, ← e3, ← e4, ← e5, ← e6]) dX8_rule_89
        · replace hf := (if_neg c8).symm.trans hf
          refine mk_bipush C (v := (-5)) dX8_rule_43 (by decide) ?_
          have e := Option.some.inj hf
          simp only [Prod.mk.injEq] at e
          obtain ⟨e0, e1, e2, e3, e4, e5, e6⟩ := e
          exact mk_iret C hr hlk e0 (by rw [← e1, ← e2, ← e3, ← e4, ← e5, ← e6]) dX8_rule_45
    · replace hf := (if_pos c6).symm.trans hf
      refine mk_bipush C (v := (-2)) dX8_rule_17 (by decide) ?_
      have e := Option.some.inj hf
      simp only [Prod.mk.injEq] at e
      obtain ⟨e0, e1, e2, e3, e4, e5, e6⟩ := e
      exact mk_iret C hr hlk e0 (by rw [← e1, ← e2, ← e3, ← e4, ← e5, ← e6]) dX8_rule_19
