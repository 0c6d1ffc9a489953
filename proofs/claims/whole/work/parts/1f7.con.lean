set_option maxHeartbeats 40000000 in
set_option maxRecDepth 100000 in
theorem c_X_rule (l : Launch) (D : va_G) (cI cJ : ClassId) (X Y : Nat → Nat) (aX : Nat → Nat) (uX : Nat → Nat → Int32) (uL : Nat → Nat → Int64) (p1 : Int32) (r : Int32) (wX : Nat → Nat → Int32) (hf : f_X_rule uX p1 = some (r, wX)) : mk_Met l yX9_rule cX9_rule 2 (some .int) ({ frames := 7, cells := 0, slots := 0, locals := 161 }) D [(cI, .int), (cJ, .long)] X Y [.ref (aX 0), .int p1] (wModel aX cI cJ uX uL) (wModel aX cI cJ wX uL) (some (.int r)) 0 0 := by
  refine mk_start (own := RX9) (by decide) rfl (Nat.le_of_ble_eq_true rfl) ?_
  intro sz p e s m args below meth c A C hr hlk hnm
  replace C : mk_Cx p s m args c cX9_rule 2 RX9 D [(cI, .int), (cJ, .long)] X Y A := C
  show mk_Go p l e (headSpec (mk_ws yX9_rule cX9_rule 2 (some .int)) ({ frames := 7, cells := 0, slots := 0, locals := 161 })).room s m args below meth c D A 2 0 0 (MQ below (mk_Q (some (.int r)) D (wModel aX cI cJ wX uL) A) args s 0 0 A) 0 (wModel aX cI cJ uX uL) [(0, .ref (aX 0)), (1, .int p1)] []
  unfold f_X_rule at hf
  refine mk_aload_n C 0 dX9_rule_0 rfl ?_
  obtain ⟨r1, h2, hf⟩ := b1_some hf
  refine mk_callVi C (c_X_is l D cI cJ X Y aX uX uL r1 h2) mw_1153 mw_1155 mw_s14 mw_10 mw_1156 mkn_X9_is rfl ⟨Nat.le_of_ble_eq_true rfl, Nat.le_of_ble_eq_true rfl⟩ 0 rfl rfl rfl (mk_Fr.all _ _) (Nat.le_of_ble_eq_true rfl) dX9_rule_1 rfl ?_
  refine mk_if_eq C 19 dX9_rule_4 (by decide) (fun c3 => ?_) (fun c3 => ?_)
  · replace hf := (if_pos c3).symm.trans hf
    refine mk_bipush C (v := (-2)) dX9_rule_19 (by decide) ?_
    have e := Option.some.inj hf
    obtain ⟨e0, e1⟩ := Prod.mk.inj e
    exact mk_iret C hr hlk e0 (by rw [← e1]) dX9_rule_21
  · replace hf := (if_neg c3).symm.trans hf
    refine mk_iload_n C 1 dX9_rule_7 rfl ?_
    refine mk_i2l C dX9_rule_8 ?_
    refine mk_lconst C (v := 0) dX9_rule_9 (by decide) ?_
    refine mk_ldc2 C (v := 3) mw_1289 dX9_rule_10 ?_
    obtain ⟨r4, h5, hf⟩ := b1_some hf
    refine mk_callSi C (c_X_in l D cI cJ X Y ((p1 : Int32).toInt64) 0 3 r4 h5) mw_1052 mw_1053 mw_10 mw_1054 mkn_X9_in rfl ⟨Nat.le_of_ble_eq_true rfl, Nat.le_of_ble_eq_true rfl⟩ (mk_Fr.nil _) (Nat.le_of_ble_eq_true rfl) dX9_rule_13 rfl ?_
    refine mk_if_ne C 22 dX9_rule_16 (by decide) (fun c6 => ?_) (fun c6 => ?_)
    · replace hf := (if_neg c6).symm.trans hf
      refine mk_aload_n C 0 dX9_rule_22 rfl ?_
      refine mk_get C mk_inX9 0 rfl rfl 0 (by decide) mw_902 (v := .ref (aX 1)) rfl dX9_rule_23 ?_
      refine mk_iconst C (v := 0) dX9_rule_26 (by decide) ?_
      refine mk_iald C 1 0 (f := (uX 0)) rfl rfl (mk_vi (by decide)) (j := 0) (by decide) dX9_rule_27 ?_
      refine mk_iload_n C 1 dX9_rule_28 rfl ?_
      refine mk_icmp_eq C 41 dX9_rule_29 (by decide) (fun c7 => ?_) (fun c7 => ?_)
      · replace hf := (if_pos c7).symm.trans hf
        refine mk_bipush C (v := (-5)) dX9_rule_41 (by decide) ?_
        have e := Option.some.inj hf
        obtain ⟨e0, e1⟩ := Prod.mk.inj e
        exact mk_iret C hr hlk e0 (by rw [← e1]) dX9_rule_43
      · replace hf := (if_neg c7).symm.trans hf
        refine mk_aload_n C 0 dX9_rule_32 rfl ?_
        refine mk_get C mk_inX9 0 rfl rfl 3 (by decide) mw_905 (v := .int (uX 3 0)) rfl dX9_rule_33 ?_
        refine mk_bipush C (v := 20) dX9_rule_36 (by decide) ?_
        refine mk_icmp_ne C 44 dX9_rule_38 (by decide) (fun c8 => ?_) (fun c8 => ?_)
        · replace hf := (if_neg c8).symm.trans hf
          refine mk_aload_n C 0 dX9_rule_44 rfl ?_
          obtain ⟨uX_9, h10, hf⟩ := b1_some hf
          refine mk_callVv C (c_X_keeps l D cI cJ X Y aX uX uL uX_9 h10) mw_1369 mw_1371 mw_s37 mw_10 mw_1372 mkn_X9_keeps rfl ⟨Nat.le_of_ble_eq_true rfl, Nat.le_of_ble_eq_true rfl⟩ 0 rfl rfl rfl (mk_Fr.all _ _) (Nat.le_of_ble_eq_true rfl) dX9_rule_45 rfl ?_
          refine mk_aload_n C 0 dX9_rule_48 rfl ?_
          refine mk_get C mk_inX9 0 rfl rfl 0 (by decide) mw_902 (v := .ref (aX 1)) rfl dX9_rule_49 ?_
          refine mk_iconst C (v := 0) dX9_rule_52 (by decide) ?_
          refine mk_iload_n C 1 dX9_rule_53 rfl ?_
          refine mk_iast C 1 0 (f := (uX_9 0)) rfl rfl (mk_vi (by decide)) (j := 0) (by decide) (ws' := (wModel aX cI cJ (upR 0 (upd (uX_9 0) 0 p1) uX_9) uL)) (st_X_X_0 cI cJ aX uX_9 uL (upd (uX_9 0) 0 p1)) dX9_rule_54 ?_
          refine mk_aload_n C 0 dX9_rule_55 rfl ?_
          obtain ⟨r11, uX_12, h13, hf⟩ := b2_some hf
          refine mk_callVi C (c_X_allNow l D cI cJ X Y aX (upR 0 (upd (uX_9 0) 0 p1) uX_9) uL r11 uX_12 h13) mw_1373 mw_1375 mw_s38 mw_10 mw_1376 mkn_X9_allNow rfl ⟨Nat.le_of_ble_eq_true rfl, Nat.le_of_ble_eq_true rfl⟩ 0 rfl rfl rfl (mk_Fr.all _ _) (Nat.le_of_ble_eq_true rfl) dX9_rule_56 rfl ?_
          have e := Option.some.inj hf
          obtain ⟨e0, e1⟩ := Prod.mk.inj e
          exact mk_iret C hr hlk e0 (by rw [← e1]) dX9_rule_59
        · replace hf := (if_pos c8).symm.trans hf
          refine mk_bipush C (v := (-5)) dX9_rule_41 (by decide) ?_
          have e := Option.some.inj hf
          obtain ⟨e0, e1⟩ := Prod.mk.inj e
          exact mk_iret C hr hlk e0 (by rw [← e1]) dX9_rule_43
    · replace hf := (if_pos c6).symm.trans hf
      refine mk_bipush C (v := (-2)) dX9_rule_19 (by decide) ?_
      have e := Option.some.inj hf
      obtain ⟨e0, e1⟩ := Prod.mk.inj e
      exact mk_iret C hr hlk e0 (by rw [← e1]) dX9_rule_21
set_option maxHeartbeats 40000000 in
set_option maxRecDepth 100000 in
theorem c_X_undo (l : Launch) (D : va_G) (cI cJ : ClassId) (X Y : Nat → Nat) (aX : Nat → Nat) (uX : Nat → Nat → Int32) (uL : Nat → Nat → Int64) (r : Int32) (wX : Nat → Nat → Int32) (hf : f_X_undo uX = some (r, wX)) : mk_Met l yX9_undo cX9_undo 1 (some .int) ({ frames := 1, cells := 0, slots := 0, locals := 22 }) D [(cI, .int), (cJ, .long)] X Y [.ref (aX 0)] (wModel aX cI cJ uX uL) (wModel aX cI cJ wX uL) (some (.int r)) 0 0 := by
  refine mk_start (own := RX9) (by decide) rfl (Nat.le_of_ble_eq_true rfl) ?_
  intro sz p e s m args below meth c A C hr hlk hnm
  replace C : mk_Cx p s m args c cX9_undo 1 RX9 D [(cI, .int), (cJ, .long)] X Y A := C
  show mk_Go p l e (headSpec (mk_ws yX9_undo cX9_undo 1 (some .int)) ({ frames := 1, cells := 0, slots := 0, locals := 22 })).room s m args below meth c D A 1 0 0 (MQ below (mk_Q (some (.int r)) D (wModel aX cI cJ wX uL) A) args s 0 0 A) 0 (wModel aX cI cJ uX uL) [(0, .ref (aX 0))] []
  unfold f_X_undo at hf
  refine mk_aload_n C 0 dX9_undo_0 rfl ?_
  obtain ⟨r1, h2, hf⟩ := b1_some hf
  refine mk_callVi C (c_X_is l D cI cJ X Y aX uX uL r1 h2) mw_1153 mw_1155 mw_s14 mw_10 mw_1156 mkn_X9_is rfl ⟨Nat.le_of_ble_eq_true rfl, Nat.le_of_ble_eq_true rfl⟩ 0 rfl rfl rfl (mk_Fr.all _ _) (Nat.le_of_ble_eq_true rfl) dX9_undo_1 rfl ?_
  refine mk_if_ne C 10 dX9_undo_4 (by decide) (fun c3 => ?_) (fun c3 => ?_)
  · replace hf := (if_neg c3).symm.trans hf
    refine mk_aload_n C 0 dX9_undo_10 rfl ?_
    refine mk_get C mk_inX9 0 rfl rfl 3 (by decide) mw_905 (v := .int (uX 3 0)) rfl dX9_undo_11 ?_
    refine mk_if_ne C 20 dX9_undo_14 (by decide) (fun c4 => ?_) (fun c4 => ?_)
    · replace hf := (if_neg c4).symm.trans hf
      refine mk_aload_n C 0 dX9_undo_20 rfl ?_
      refine mk_aload_n C 0 dX9_undo_21 rfl ?_
      refine mk_get C mk_inX9 0 rfl rfl 3 (by decide) mw_905 (v := .int (uX 3 0)) rfl dX9_undo_22 ?_
      refine mk_iconst C (v := 1) dX9_undo_25 (by decide) ?_
      refine mk_isub C dX9_undo_26 ?_
      obtain ⟨uX_5, h6, hf⟩ := b1_some hf
      refine mk_callVv C (c_X_goesBack l D cI cJ X Y aX uX uL ((uX 3 0) - 1) uX_5 h6) mw_1389 mw_1391 mw_s39 mw_10 mw_1392 mkn_X9_goesBack rfl ⟨Nat.le_of_ble_eq_true rfl, Nat.le_of_ble_eq_true rfl⟩ 0 rfl rfl rfl (mk_Fr.all _ _) (Nat.le_of_ble_eq_true rfl) dX9_undo_27 rfl ?_
      refine mk_aload_n C 0 dX9_undo_30 rfl ?_
      refine mk_get C mk_inX9 0 rfl rfl 3 (by decide) mw_905 (v := .int (uX_5 3 0)) rfl dX9_undo_31 ?_
      have e := Option.some.inj hf
      obtain ⟨e0, e1⟩ := Prod.mk.inj e
      exact mk_iret C hr hlk e0 (by rw [← e1]) dX9_undo_34
    · replace hf := (if_pos c4).symm.trans hf
      refine mk_bipush C (v := (-5)) dX9_undo_17 (by decide) ?_
      have e := Option.some.inj hf
      obtain ⟨e0, e1⟩ := Prod.mk.inj e
      exact mk_iret C hr hlk e0 (by rw [← e1]) dX9_undo_19
  · replace hf := (if_pos c3).symm.trans hf
    refine mk_bipush C (v := (-2)) dX9_undo_7 (by decide) ?_
    have e := Option.some.inj hf
    obtain ⟨e0, e1⟩ := Prod.mk.inj e
    exact mk_iret C hr hlk e0 (by rw [← e1]) dX9_undo_9
set_option maxHeartbeats 40000000 in
set_option maxRecDepth 100000 in
theorem c_X_anew (l : Launch) (D : va_G) (cI cJ : ClassId) (X Y : Nat → Nat) (aX : Nat → Nat) (uX : Nat → Nat → Int32) (uL : Nat → Nat → Int64) (r : Int32) (wX : Nat → Nat → Int32) (hf : f_X_anew uX = some (r, wX)) : mk_Met l yX9_anew cX9_anew 2 (some .int) ({ frames := 1, cells := 0, slots := 0, locals := 22 }) D [(cI, .int), (cJ, .long)] X Y [.ref (aX 0)] (wModel aX cI cJ uX uL) (wModel aX cI cJ wX uL) (some (.int r)) 0 0 := by
  refine mk_start (own := RX9) (by decide) rfl (Nat.le_of_ble_eq_true rfl) ?_
  intro sz p e s m args below meth c A C hr hlk hnm
  replace C : mk_Cx p s m args c cX9_anew 2 RX9 D [(cI, .int), (cJ, .long)] X Y A := C
  show mk_Go p l e (headSpec (mk_ws yX9_anew cX9_anew 2 (some .int)) ({ frames := 1, cells := 0, slots := 0, locals := 22 })).room s m args below meth c D A 2 0 0 (MQ below (mk_Q (some (.int r)) D (wModel aX cI cJ wX uL) A) args s 0 0 A) 0 (wModel aX cI cJ uX uL) [(0, .ref (aX 0))] []
  unfold f_X_anew at hf
  refine mk_aload_n C 0 dX9_anew_0 rfl ?_
  obtain ⟨r1, h2, hf⟩ := b1_some hf
  refine mk_callVi C (c_X_is l D cI cJ X Y aX uX uL r1 h2) mw_1153 mw_1155 mw_s14 mw_10 mw_1156 mkn_X9_is rfl ⟨Nat.le_of_ble_eq_true rfl, Nat.le_of_ble_eq_true rfl⟩ 0 rfl rfl rfl (mk_Fr.all _ _) (Nat.le_of_ble_eq_true rfl) dX9_anew_1 rfl ?_
  refine mk_if_ne C 10 dX9_anew_4 (by decide) (fun c3 => ?_) (fun c3 => ?_)
  · replace hf := (if_neg c3).symm.trans hf
    refine mk_aload_n C 0 dX9_anew_10 rfl ?_
    refine mk_get C mk_inX9 0 rfl rfl 3 (by decide) mw_905 (v := .int (uX 3 0)) rfl dX9_anew_11 ?_
    refine mk_istore_n C (lv' := [(1, .int (uX 3 0)), (0, .ref (aX 0))]) dX9_anew_14 (by decide) rfl ?_
    refine mk_iload_n C 0 dX9_anew_15 rfl ?_
    refine mk_if_le C 24 dX9_anew_16 (by decide) (fun c4 => ?_) (fun c4 => ?_)
    · replace hf := (if_pos c4).symm.trans hf
      refine mk_iload_n C 0 dX9_anew_24 rfl ?_
      have e := Option.some.inj hf
      obtain ⟨e0, e1⟩ := Prod.mk.inj e
      exact mk_iret C hr hlk e0 (by rw [← e1]) dX9_anew_25
    · replace hf := (if_neg c4).symm.trans hf
      refine mk_aload_n C 1 dX9_anew_19 rfl ?_
      refine mk_iconst C (v := 0) dX9_anew_20 (by decide) ?_
      obtain ⟨uX_5, h6, hf⟩ := b1_some hf
      refine mk_callVv C (c_X_goesBack l D cI cJ X Y aX uX uL 0 uX_5 h6) mw_1389 mw_1391 mw_s39 mw_10 mw_1392 mkn_X9_goesBack rfl ⟨Nat.le_of_ble_eq_true rfl, Nat.le_of_ble_eq_true rfl⟩ 0 rfl rfl rfl (mk_Fr.all _ _) (Nat.le_of_ble_eq_true rfl) dX9_anew_21 rfl ?_
      refine mk_iload_n C 0 dX9_anew_24 rfl ?_
      have e := Option.some.inj hf
      obtain ⟨e0, e1⟩ := Prod.mk.inj e
      exact mk_iret C hr hlk e0 (by rw [← e1]) dX9_anew_25
  · replace hf := (if_pos c3).symm.trans hf
    refine mk_bipush C (v := (-2)) dX9_anew_7 (by decide) ?_
    have e := Option.some.inj hf
    obtain ⟨e0, e1⟩ := Prod.mk.inj e
    exact mk_iret C hr hlk e0 (by rw [← e1]) dX9_anew_9
