set_option maxHeartbeats 40000000 in
set_option maxRecDepth 100000 in
theorem c_T_append (l : Launch) (D : va_G) (cI cJ cB cZ cS : ClassId) (X : Nat → Nat) (Y : mk_Y) (aT : Nat → Nat) (uT : Nat → Nat → Int32) (p1 : Int32) (wT : Nat → Nat → Int32) (hf : f_T_append uT p1 = some wT) : mk_Met l yX7_append cX7_append 3 none ({ frames := 1, cells := 0, slots := 0, locals := 22 }) D (mk_TY cI cJ cB cZ cS) X Y [.ref (aT 0), .int p1] (wTape aT cI uT) (wTape aT cI wT) none 0 0 := by
  refine mk_start (own := RX7) (by decide) rfl (Nat.le_of_ble_eq_true rfl) ?_
  intro sz p e s m args below meth c A C hr hlk hnm
  replace C : mk_Cx p s m args c cX7_append 3 RX7 D (mk_TY cI cJ cB cZ cS) X Y A := C
  have wL3 : ∀ (n : Nat) (v2 : Int32) (uT : Nat → Nat → Int32), f_T_append_3 p1 n v2 uT = some wT → mk_Go p l e (headSpec (mk_ws yX7_append cX7_append 3 none) ({ frames := 1, cells := 0, slots := 0, locals := 22 })).room s m args below meth c D A 3 0 0 (MQ below (mk_Q none D (wTape aT cI wT) A) args s 0 0 A) 3 (wTape aT cI uT) [(0, .ref (aT 0)), (1, .int p1), (2, .int v2)] [] := by
    intro  n
    induction n with
    | zero => intro v2 uT hf; exact nomatch (show (none : Option ((Nat → Nat → Int32))) = some _ from hf)
    | succ n ih =>
      intro v2 uT hf
      rw [f_T_append_3] at hf
      refine mk_iload_n C 2 dX7_append_3 rfl ?_
      refine mk_if_lt C 41 dX7_append_4 (by decide) (fun c1 => ?_) (fun c1 => ?_)
      · replace hf := (if_pos c1).symm.trans hf
        have e0 := Option.some.inj hf
        exact mk_vret C hr hlk (by rw [← e0]) dX7_append_41
      · replace hf := (if_neg c1).symm.trans hf
        refine mk_aload_n C 0 dX7_append_7 rfl ?_
        refine mk_get C mk_inX7 0 rfl rfl 0 (by decide) mw_43 (v := .ref (aT 1)) rfl dX7_append_8 ?_
        refine mk_aload_n C 0 dX7_append_11 rfl ?_
        refine mk_get C mk_inX7 0 rfl rfl 1 (by decide) mw_46 (v := .int (uT 1 0)) rfl dX7_append_12 ?_
        refine mk_iload_n C 1 dX7_append_15 rfl ?_
        refine mk_iload_n C 2 dX7_append_16 rfl ?_
        refine mk_ishr C dX7_append_17 ?_
        refine mk_sipush C (v := 255) dX7_append_18 (by decide) ?_
        refine mk_iand C dX7_append_21 ?_
        refine mk_callNv C (c_put l D cI cJ cB cZ cS X Y (aT 1) 500 (uT 0) (uT 1 0) ((p1 >>> (v2 &&& 31)) &&& 255)) (List.mem_of_getElem? (i := 10) rfl) mw_483 mw_1 mw_484 mkn_X8_put rfl ⟨Nat.le_of_ble_eq_true rfl, Nat.le_of_ble_eq_true rfl⟩ (mk_Fr.put (q := 1) (ws' := (wTape aT cI (upR 0 (mkPut 500 (uT 0) (uT 1 0) ((p1 >>> (v2 &&& 31)) &&& 255)) uT))) rfl (st_T_T_0 cI cJ aT uT (mkPut 500 (uT 0) (uT 1 0) ((p1 >>> (v2 &&& 31)) &&& 255)))) (Nat.le_of_ble_eq_true rfl) dX7_append_22 rfl ?_
        refine mk_aload_n C 0 dX7_append_25 rfl ?_
        refine mk_dup C dX7_append_26 rfl ?_
        refine mk_get C mk_inX7 0 rfl rfl 1 (by decide) mw_46 (v := .int (uT 1 0)) rfl dX7_append_27 ?_
        refine mk_iconst C (v := 1) dX7_append_30 (by decide) ?_
        refine mk_iadd C dX7_append_31 ?_
        refine mk_put C mk_inX7 tyX7 tyX7_ok nmX7 0 rfl rfl 1 (by decide) mw_46 rfl rfl rfl (Nat.le_of_ble_eq_true rfl) (ws' := (wTape aT cI (upF 1 ((uT 1 0) + 1) (upR 0 (mkPut 500 (uT 0) (uT 1 0) ((p1 >>> (v2 &&& 31)) &&& 255)) uT)))) (st_T_T_1 cI cJ aT (upR 0 (mkPut 500 (uT 0) (uT 1 0) ((p1 >>> (v2 &&& 31)) &&& 255)) uT) ((uT 1 0) + 1)) dX7_append_32 ?_
        refine mk_iinc C (v := (v2 + (-8))) (lv' := [(2, .int (v2 + (-8))), (0, .ref (aT 0)), (1, .int p1)]) 2 dX7_append_35 rfl rfl (by decide) rfl ?_
        refine mk_goto C 3 dX7_append_38 (by decide) ?_
        exact mk_lvsub [1, 2, 0] rfl (ih _ _ hf)
  show mk_Go p l e (headSpec (mk_ws yX7_append cX7_append 3 none) ({ frames := 1, cells := 0, slots := 0, locals := 22 })).room s m args below meth c D A 3 0 0 (MQ below (mk_Q none D (wTape aT cI wT) A) args s 0 0 A) 0 (wTape aT cI uT) [(0, .ref (aT 0)), (1, .int p1)] []
  unfold f_T_append at hf
  refine mk_bipush C (v := 24) dX7_append_0 (by decide) ?_
  refine mk_istore_n C (lv' := [(2, .int 24), (0, .ref (aT 0)), (1, .int p1)]) dX7_append_2 (by decide) rfl ?_
  exact mk_lvsub [1, 2, 0] rfl (wL3 600 _ _ hf)
set_option maxHeartbeats 40000000 in
set_option maxRecDepth 100000 in
theorem c_P_clear (l : Launch) (D : va_G) (cI cJ cB cZ cS : ClassId) (X : Nat → Nat) (Y : mk_Y) (aP : Nat → Nat) (uP : Nat → Nat → Int32) (wP : Nat → Nat → Int32) (hf : f_P_clear uP = some wP) : mk_Met l yX3_clear cX3_clear 1 none ({ frames := 0, cells := 0, slots := 0, locals := 0 }) D (mk_TY cI cJ cB cZ cS) X Y [.ref (aP 0)] (wPlan aP cI uP) (wPlan aP cI wP) none 0 0 := by
  refine mk_start (own := RX3) (by decide) rfl (Nat.le_of_ble_eq_true rfl) ?_
  intro sz p e s m args below meth c A C hr hlk hnm
  replace C : mk_Cx p s m args c cX3_clear 1 RX3 D (mk_TY cI cJ cB cZ cS) X Y A := C
  show mk_Go p l e (headSpec (mk_ws yX3_clear cX3_clear 1 none) ({ frames := 0, cells := 0, slots := 0, locals := 0 })).room s m args below meth c D A 1 0 0 (MQ below (mk_Q none D (wPlan aP cI wP) A) args s 0 0 A) 0 (wPlan aP cI uP) [(0, .ref (aP 0))] []
  unfold f_P_clear at hf
  refine mk_aload_n C 0 dX3_clear_0 rfl ?_
  refine mk_iconst C (v := 0) dX3_clear_1 (by decide) ?_
  refine mk_put C mk_inX3 tyX3 tyX3_ok nmX3 0 rfl rfl 0 (by decide) mw_60 rfl rfl rfl (Nat.le_of_ble_eq_true rfl) (ws' := (wPlan aP cI (upF 0 0 uP))) (st_P_P_0 cI cJ aP uP 0) dX3_clear_2 ?_
  refine mk_aload_n C 0 dX3_clear_5 rfl ?_
  refine mk_iconst C (v := 0) dX3_clear_6 (by decide) ?_
  refine mk_put C mk_inX3 tyX3 tyX3_ok nmX3 0 rfl rfl 1 (by decide) mw_64 rfl rfl rfl (Nat.le_of_ble_eq_true rfl) (ws' := (wPlan aP cI (upF 1 0 (upF 0 0 uP)))) (st_P_P_1 cI cJ aP (upF 0 0 uP) 0) dX3_clear_7 ?_
  refine mk_aload_n C 0 dX3_clear_10 rfl ?_
  refine mk_iconst C (v := 0) dX3_clear_11 (by decide) ?_
  refine mk_put C mk_inX3 tyX3 tyX3_ok nmX3 0 rfl rfl 2 (by decide) mw_68 rfl rfl rfl (Nat.le_of_ble_eq_true rfl) (ws' := (wPlan aP cI (upF 2 0 (upF 1 0 (upF 0 0 uP))))) (st_P_P_2 cI cJ aP (upF 1 0 (upF 0 0 uP)) 0) dX3_clear_12 ?_
  refine mk_aload_n C 0 dX3_clear_15 rfl ?_
  refine mk_iconst C (v := 0) dX3_clear_16 (by decide) ?_
  refine mk_put C mk_inX3 tyX3 tyX3_ok nmX3 0 rfl rfl 3 (by decide) mw_72 rfl rfl rfl (Nat.le_of_ble_eq_true rfl) (ws' := (wPlan aP cI (upF 3 0 (upF 2 0 (upF 1 0 (upF 0 0 uP)))))) (st_P_P_3 cI cJ aP (upF 2 0 (upF 1 0 (upF 0 0 uP))) 0) dX3_clear_17 ?_
  refine mk_aload_n C 0 dX3_clear_20 rfl ?_
  refine mk_iconst C (v := 0) dX3_clear_21 (by decide) ?_
  refine mk_put C mk_inX3 tyX3 tyX3_ok nmX3 0 rfl rfl 4 (by decide) mw_76 rfl rfl rfl (Nat.le_of_ble_eq_true rfl) (ws' := (wPlan aP cI (upF 4 0 (upF 3 0 (upF 2 0 (upF 1 0 (upF 0 0 uP))))))) (st_P_P_4 cI cJ aP (upF 3 0 (upF 2 0 (upF 1 0 (upF 0 0 uP)))) 0) dX3_clear_22 ?_
  refine mk_aload_n C 0 dX3_clear_25 rfl ?_
  refine mk_iconst C (v := 0) dX3_clear_26 (by decide) ?_
  refine mk_put C mk_inX3 tyX3 tyX3_ok nmX3 0 rfl rfl 5 (by decide) mw_79 rfl rfl rfl (Nat.le_of_ble_eq_true rfl) (ws' := (wPlan aP cI (upF 5 0 (upF 4 0 (upF 3 0 (upF 2 0 (upF 1 0 (upF 0 0 uP)))))))) (st_P_P_5 cI cJ aP (upF 4 0 (upF 3 0 (upF 2 0 (upF 1 0 (upF 0 0 uP))))) 0) dX3_clear_27 ?_
  refine mk_aload_n C 0 dX3_clear_30 rfl ?_
  refine mk_iconst C (v := 0) dX3_clear_31 (by decide) ?_
  refine mk_put C mk_inX3 tyX3 tyX3_ok nmX3 0 rfl rfl 6 (by decide) mw_84 rfl rfl rfl (Nat.le_of_ble_eq_true rfl) (ws' := (wPlan aP cI (upF 6 0 (upF 5 0 (upF 4 0 (upF 3 0 (upF 2 0 (upF 1 0 (upF 0 0 uP))))))))) (st_P_P_6 cI cJ aP (upF 5 0 (upF 4 0 (upF 3 0 (upF 2 0 (upF 1 0 (upF 0 0 uP)))))) 0) dX3_clear_32 ?_
  have e0 := Option.some.inj hf
  exact mk_vret C hr hlk (by rw [← e0]) dX3_clear_35
set_option maxHeartbeats 40000000 in
set_option maxRecDepth 100000 in
theorem c_P_addSender (l : Launch) (D : va_G) (cI cJ cB cZ cS : ClassId) (X : Nat → Nat) (Y : mk_Y) (aP : Nat → Nat) (uP : Nat → Nat → Int32) (p1 : Int32) (p2 : Int32) (p3 : Int32) (wP : Nat → Nat → Int32) (hf : f_P_addSender uP p1 p2 p3 = some wP) : mk_Met l yX3_addSender cX3_addSender 4 none ({ frames := 1, cells := 0, slots := 0, locals := 22 }) D (mk_TY cI cJ cB cZ cS) X Y [.ref (aP 0), .int p1, .int p2, .int p3] (wPlan aP cI uP) (wPlan aP cI wP) none 0 0 := by
  refine mk_start (own := RX3) (by decide) rfl (Nat.le_of_ble_eq_true rfl) ?_
  intro sz p e s m args below meth c A C hr hlk hnm
  replace C : mk_Cx p s m args c cX3_addSender 4 RX3 D (mk_TY cI cJ cB cZ cS) X Y A := C
  show mk_Go p l e (headSpec (mk_ws yX3_addSender cX3_addSender 4 none) ({ frames := 1, cells := 0, slots := 0, locals := 22 })).room s m args below meth c D A 4 0 0 (MQ below (mk_Q none D (wPlan aP cI wP) A) args s 0 0 A) 0 (wPlan aP cI uP) [(0, .ref (aP 0)), (1, .int p1), (2, .int p2), (3, .int p3)] []
  unfold f_P_addSender at hf
  refine mk_aload_n C 0 dX3_addSender_0 rfl ?_
  refine mk_get C mk_inX3 0 rfl rfl 7 (by decide) mw_89 (v := .ref (aP 8)) rfl dX3_addSender_1 ?_
  refine mk_aload_n C 0 dX3_addSender_4 rfl ?_
  refine mk_get C mk_inX3 0 rfl rfl 5 (by decide) mw_79 (v := .int (uP 5 0)) rfl dX3_addSender_5 ?_
  refine mk_iload_n C 1 dX3_addSender_8 rfl ?_
  refine mk_callNv C (c_put l D cI cJ cB cZ cS X Y (aP 8) 10 (uP 7) (uP 5 0) p1) (List.mem_of_getElem? (i := 12) rfl) mw_483 mw_1 mw_484 mkn_X8_put rfl ⟨Nat.le_of_ble_eq_true rfl, Nat.le_of_ble_eq_true rfl⟩ (mk_Fr.put (q := 1) (ws' := (wPlan aP cI (upR 7 (mkPut 10 (uP 7) (uP 5 0) p1) uP))) rfl (st_P_P_7 cI cJ aP uP (mkPut 10 (uP 7) (uP 5 0) p1))) (Nat.le_of_ble_eq_true rfl) dX3_addSender_9 rfl ?_
  refine mk_aload_n C 0 dX3_addSender_12 rfl ?_
  refine mk_get C mk_inX3 0 rfl rfl 9 (by decide) mw_93 (v := .ref (aP 10)) rfl dX3_addSender_13 ?_
  refine mk_aload_n C 0 dX3_addSender_16 rfl ?_
  refine mk_get C mk_inX3 0 rfl rfl 5 (by decide) mw_79 (v := .int (uP 5 0)) rfl dX3_addSender_17 ?_
  refine mk_iload_n C 2 dX3_addSender_20 rfl ?_
  refine mk_callNv C (c_put l D cI cJ cB cZ cS X Y (aP 10) 10 (uP 9) (uP 5 0) p2) (List.mem_of_getElem? (i := 12) rfl) mw_483 mw_1 mw_484 mkn_X8_put rfl ⟨Nat.le_of_ble_eq_true rfl, Nat.le_of_ble_eq_true rfl⟩ (mk_Fr.put (q := 3) (ws' := (wPlan aP cI (upR 9 (mkPut 10 (uP 9) (uP 5 0) p2) (upR 7 (mkPut 10 (uP 7) (uP 5 0) p1) uP)))) rfl (st_P_P_9 cI cJ aP (upR 7 (mkPut 10 (uP 7) (uP 5 0) p1) uP) (mkPut 10 (uP 9) (uP 5 0) p2))) (Nat.le_of_ble_eq_true rfl) dX3_addSender_21 rfl ?_
  refine mk_aload_n C 0 dX3_addSender_24 rfl ?_
  refine mk_get C mk_inX3 0 rfl rfl 8 (by decide) mw_91 (v := .ref (aP 9)) rfl dX3_addSender_25 ?_
  refine mk_aload_n C 0 dX3_addSender_28 rfl ?_
  refine mk_get C mk_inX3 0 rfl rfl 5 (by decide) mw_79 (v := .int (uP 5 0)) rfl dX3_addSender_29 ?_
  refine mk_iload_n C 3 dX3_addSender_32 rfl ?_
  refine mk_callNv C (c_put l D cI cJ cB cZ cS X Y (aP 9) 10 (uP 8) (uP 5 0) p3) (List.mem_of_getElem? (i := 12) rfl) mw_483 mw_1 mw_484 mkn_X8_put rfl ⟨Nat.le_of_ble_eq_true rfl, Nat.le_of_ble_eq_true rfl⟩ (mk_Fr.put (q := 2) (ws' := (wPlan aP cI (upR 8 (mkPut 10 (uP 8) (uP 5 0) p3) (upR 9 (mkPut 10 (uP 9) (uP 5 0) p2) (upR 7 (mkPut 10 (uP 7) (uP 5 0) p1) uP))))) rfl (st_P_P_8 cI cJ aP (upR 9 (mkPut 10 (uP 9) (uP 5 0) p2) (upR 7 (mkPut 10 (uP 7) (uP 5 0) p1) uP)) (mkPut 10 (uP 8) (uP 5 0) p3))) (Nat.le_of_ble_eq_true rfl) dX3_addSender_33 rfl ?_
  refine mk_aload_n C 0 dX3_addSender_36 rfl ?_
  refine mk_dup C dX3_addSender_37 rfl ?_
  refine mk_get C mk_inX3 0 rfl rfl 5 (by decide) mw_79 (v := .int (uP 5 0)) rfl dX3_addSender_38 ?_
  refine mk_iconst C (v := 1) dX3_addSender_41 (by decide) ?_
  refine mk_iadd C dX3_addSender_42 ?_
  refine mk_put C mk_inX3 tyX3 tyX3_ok nmX3 0 rfl rfl 5 (by decide) mw_79 rfl rfl rfl (Nat.le_of_ble_eq_true rfl) (ws' := (wPlan aP cI (upF 5 ((uP 5 0) + 1) (upR 8 (mkPut 10 (uP 8) (uP 5 0) p3) (upR 9 (mkPut 10 (uP 9) (uP 5 0) p2) (upR 7 (mkPut 10 (uP 7) (uP 5 0) p1) uP)))))) (st_P_P_5 cI cJ aP (upR 8 (mkPut 10 (uP 8) (uP 5 0) p3) (upR 9 (mkPut 10 (uP 9) (uP 5 0) p2) (upR 7 (mkPut 10 (uP 7) (uP 5 0) p1) uP))) ((uP 5 0) + 1)) dX3_addSender_43 ?_
  have e0 := Option.some.inj hf
  exact mk_vret C hr hlk (by rw [← e0]) dX3_addSender_46
set_option maxHeartbeats 40000000 in
set_option maxRecDepth 100000 in
theorem c_P_isNoisy (l : Launch) (D : va_G) (cI cJ cB cZ cS : ClassId) (X : Nat → Nat) (Y : mk_Y) (aP : Nat → Nat) (uP : Nat → Nat → Int32) (p1 : Int32) (r : Int32) (hf : f_P_isNoisy uP p1 = some r) : mk_Met l yX3_isNoisy cX3_isNoisy 3 (some .boolean) ({ frames := 1, cells := 0, slots := 0, locals := 21 }) D (mk_TY cI cJ cB cZ cS) X Y [.ref (aP 0), .int p1] (wPlan aP cI uP) (wPlan aP cI uP) (some (.int r)) 0 0 := by
  refine mk_start (own := RX3) (by decide) rfl (Nat.le_of_ble_eq_true rfl) ?_
  intro sz p e s m args below meth c A C hr hlk hnm
  replace C : mk_Cx p s m args c cX3_isNoisy 3 RX3 D (mk_TY cI cJ cB cZ cS) X Y A := C
  have wL2 : ∀ (n : Nat) (v2 : Int32), f_P_isNoisy_2 uP p1 n v2 = some r → mk_Go p l e (headSpec (mk_ws yX3_isNoisy cX3_isNoisy 3 (some .boolean)) ({ frames := 1, cells := 0, slots := 0, locals := 21 })).room s m args below meth c D A 3 0 0 (MQ below (mk_Q (some (.int r)) D (wPlan aP cI uP) A) args s 0 0 A) 2 (wPlan aP cI uP) [(0, .ref (aP 0)), (1, .int p1), (2, .int v2)] [] := by
    intro  n
    induction n with
    | zero => intro v2 hf; exact nomatch (show (none : Option (Int32)) = some _ from hf)
    | succ n ih =>
      intro v2 hf
      rw [f_P_isNoisy_2] at hf
      refine mk_iload_n C 2 dX3_isNoisy_2 rfl ?_
      refine mk_aload_n C 0 dX3_isNoisy_3 rfl ?_
      refine mk_get C mk_inX3 0 rfl rfl 6 (by decide) mw_84 (v := .int (uP 6 0)) rfl dX3_isNoisy_4 ?_
      refine mk_icmp_ge C 30 dX3_isNoisy_7 (by decide) (fun c1 => ?_) (fun c1 => ?_)
      · replace hf := (if_pos c1).symm.trans hf
        refine mk_iconst C (v := 0) dX3_isNoisy_30 (by decide) ?_
        have e0 := Option.some.inj hf
        exact mk_zret C hr hlk rfl e0 rfl dX3_isNoisy_31
      · replace hf := (if_neg c1).symm.trans hf
        refine mk_aload_n C 0 dX3_isNoisy_10 rfl ?_
        refine mk_get C mk_inX3 0 rfl rfl 10 (by decide) mw_95 (v := .ref (aP 11)) rfl dX3_isNoisy_11 ?_
        refine mk_iload_n C 2 dX3_isNoisy_14 rfl ?_
        refine mk_callNi C (c_at l D cI cJ cB cZ cS X Y (aP 11) 10 (uP 10) v2) (List.mem_of_getElem? (i := 13) rfl) mw_377 mw_1 mw_378 mkn_X8_at rfl ⟨Nat.le_of_ble_eq_true rfl, Nat.le_of_ble_eq_true rfl⟩ (mk_Fr.at (q := 4) rfl) (Nat.le_of_ble_eq_true rfl) dX3_isNoisy_15 rfl ?_
        refine mk_iload_n C 1 dX3_isNoisy_18 rfl ?_
        refine mk_icmp_ne C 24 dX3_isNoisy_19 (by decide) (fun c2 => ?_) (fun c2 => ?_)
        · replace hf := (if_neg c2).symm.trans hf
          refine mk_iinc C (v := (v2 + 1)) (lv' := [(2, .int (v2 + 1)), (0, .ref (aP 0)), (1, .int p1)]) 2 dX3_isNoisy_24 rfl rfl (by decide) rfl ?_
          refine mk_goto C 2 dX3_isNoisy_27 (by decide) ?_
          exact mk_lvsub [1, 2, 0] rfl (ih _ hf)
        · replace hf := (if_pos c2).symm.trans hf
          refine mk_iconst C (v := 1) dX3_isNoisy_22 (by decide) ?_
          have e0 := Option.some.inj hf
          exact mk_zret C hr hlk rfl e0 rfl dX3_isNoisy_23
  show mk_Go p l e (headSpec (mk_ws yX3_isNoisy cX3_isNoisy 3 (some .boolean)) ({ frames := 1, cells := 0, slots := 0, locals := 21 })).room s m args below meth c D A 3 0 0 (MQ below (mk_Q (some (.int r)) D (wPlan aP cI uP) A) args s 0 0 A) 0 (wPlan aP cI uP) [(0, .ref (aP 0)), (1, .int p1)] []
  unfold f_P_isNoisy at hf
  refine mk_iconst C (v := 0) dX3_isNoisy_0 (by decide) ?_
  refine mk_istore_n C (lv' := [(2, .int 0), (0, .ref (aP 0)), (1, .int p1)]) dX3_isNoisy_1 (by decide) rfl ?_
  exact mk_lvsub [1, 2, 0] rfl (wL2 600 _ hf)
set_option maxHeartbeats 40000000 in
set_option maxRecDepth 100000 in
theorem c_P_addNoise (l : Launch) (D : va_G) (cI cJ cB cZ cS : ClassId) (X : Nat → Nat) (Y : mk_Y) (aP : Nat → Nat) (uP : Nat → Nat → Int32) (p1 : Int32) (p2 : Int32) (wP : Nat → Nat → Int32) (hf : f_P_addNoise uP p1 p2 = some wP) : mk_Met l yX3_addNoise cX3_addNoise 3 none ({ frames := 1, cells := 0, slots := 0, locals := 22 }) D (mk_TY cI cJ cB cZ cS) X Y [.ref (aP 0), .int p1, .int p2] (wPlan aP cI uP) (wPlan aP cI wP) none 0 0 := by
  refine mk_start (own := RX3) (by decide) rfl (Nat.le_of_ble_eq_true rfl) ?_
  intro sz p e s m args below meth c A C hr hlk hnm
  replace C : mk_Cx p s m args c cX3_addNoise 3 RX3 D (mk_TY cI cJ cB cZ cS) X Y A := C
  show mk_Go p l e (headSpec (mk_ws yX3_addNoise cX3_addNoise 3 none) ({ frames := 1, cells := 0, slots := 0, locals := 22 })).room s m args below meth c D A 3 0 0 (MQ below (mk_Q none D (wPlan aP cI wP) A) args s 0 0 A) 0 (wPlan aP cI uP) [(0, .ref (aP 0)), (1, .int p1), (2, .int p2)] []
  unfold f_P_addNoise at hf
  refine mk_aload_n C 0 dX3_addNoise_0 rfl ?_
  refine mk_get C mk_inX3 0 rfl rfl 10 (by decide) mw_95 (v := .ref (aP 11)) rfl dX3_addNoise_1 ?_
  refine mk_aload_n C 0 dX3_addNoise_4 rfl ?_
  refine mk_get C mk_inX3 0 rfl rfl 6 (by decide) mw_84 (v := .int (uP 6 0)) rfl dX3_addNoise_5 ?_
  refine mk_iload_n C 1 dX3_addNoise_8 rfl ?_
  refine mk_callNv C (c_put l D cI cJ cB cZ cS X Y (aP 11) 10 (uP 10) (uP 6 0) p1) (List.mem_of_getElem? (i := 12) rfl) mw_483 mw_1 mw_484 mkn_X8_put rfl ⟨Nat.le_of_ble_eq_true rfl, Nat.le_of_ble_eq_true rfl⟩ (mk_Fr.put (q := 4) (ws' := (wPlan aP cI (upR 10 (mkPut 10 (uP 10) (uP 6 0) p1) uP))) rfl (st_P_P_10 cI cJ aP uP (mkPut 10 (uP 10) (uP 6 0) p1))) (Nat.le_of_ble_eq_true rfl) dX3_addNoise_9 rfl ?_
  refine mk_aload_n C 0 dX3_addNoise_12 rfl ?_
  refine mk_get C mk_inX3 0 rfl rfl 11 (by decide) mw_97 (v := .ref (aP 12)) rfl dX3_addNoise_13 ?_
  refine mk_aload_n C 0 dX3_addNoise_16 rfl ?_
  refine mk_get C mk_inX3 0 rfl rfl 6 (by decide) mw_84 (v := .int (uP 6 0)) rfl dX3_addNoise_17 ?_
  refine mk_iload_n C 2 dX3_addNoise_20 rfl ?_
  refine mk_callNv C (c_put l D cI cJ cB cZ cS X Y (aP 12) 10 (uP 11) (uP 6 0) p2) (List.mem_of_getElem? (i := 12) rfl) mw_483 mw_1 mw_484 mkn_X8_put rfl ⟨Nat.le_of_ble_eq_true rfl, Nat.le_of_ble_eq_true rfl⟩ (mk_Fr.put (q := 5) (ws' := (wPlan aP cI (upR 11 (mkPut 10 (uP 11) (uP 6 0) p2) (upR 10 (mkPut 10 (uP 10) (uP 6 0) p1) uP)))) rfl (st_P_P_11 cI cJ aP (upR 10 (mkPut 10 (uP 10) (uP 6 0) p1) uP) (mkPut 10 (uP 11) (uP 6 0) p2))) (Nat.le_of_ble_eq_true rfl) dX3_addNoise_21 rfl ?_
  refine mk_aload_n C 0 dX3_addNoise_24 rfl ?_
  refine mk_dup C dX3_addNoise_25 rfl ?_
  refine mk_get C mk_inX3 0 rfl rfl 6 (by decide) mw_84 (v := .int (uP 6 0)) rfl dX3_addNoise_26 ?_
  refine mk_iconst C (v := 1) dX3_addNoise_29 (by decide) ?_
  refine mk_iadd C dX3_addNoise_30 ?_
  refine mk_put C mk_inX3 tyX3 tyX3_ok nmX3 0 rfl rfl 6 (by decide) mw_84 rfl rfl rfl (Nat.le_of_ble_eq_true rfl) (ws' := (wPlan aP cI (upF 6 ((uP 6 0) + 1) (upR 11 (mkPut 10 (uP 11) (uP 6 0) p2) (upR 10 (mkPut 10 (uP 10) (uP 6 0) p1) uP))))) (st_P_P_6 cI cJ aP (upR 11 (mkPut 10 (uP 11) (uP 6 0) p2) (upR 10 (mkPut 10 (uP 10) (uP 6 0) p1) uP)) ((uP 6 0) + 1)) dX3_addNoise_31 ?_
  have e0 := Option.some.inj hf
  exact mk_vret C hr hlk (by rw [← e0]) dX3_addNoise_34
set_option maxHeartbeats 40000000 in
set_option maxRecDepth 100000 in
theorem c_P_become (l : Launch) (D : va_G) (cI cJ cB cZ cS : ClassId) (X : Nat → Nat) (Y : mk_Y) (aP aD : Nat → Nat) (uP : Nat → Nat → Int32) (uD : Nat → Nat → Int32) (wP : Nat → Nat → Int32) (hf : f_P_become uP uD = some wP) : mk_Met l yX3_become cX3_become 3 none ({ frames := 2, cells := 0, slots := 0, locals := 45 }) D (mk_TY cI cJ cB cZ cS) X Y [.ref (aP 0), .ref (aD 0)] (wPlan aP cI uP ++ (wPlan aD cI uD)) (wPlan aP cI wP ++ (wPlan aD cI uD)) none 0 0 := by
  refine mk_start (own := RX3) (by decide) rfl (Nat.le_of_ble_eq_true rfl) ?_
  intro sz p e s m args below meth c A C hr hlk hnm
  replace C : mk_Cx p s m args c cX3_become 3 RX3 D (mk_TY cI cJ cB cZ cS) X Y A := C
  have wL50 : ∀ (n : Nat) (v2 : Int32) (uP : Nat → Nat → Int32), f_P_become_50 uD n v2 uP = some wP → mk_Go p l e (headSpec (mk_ws yX3_become cX3_become 3 none) ({ frames := 2, cells := 0, slots := 0, locals := 45 })).room s m args below meth c D A 3 0 0 (MQ below (mk_Q none D (wPlan aP cI wP ++ (wPlan aD cI uD)) A) args s 0 0 A) 50 (wPlan aP cI uP ++ (wPlan aD cI uD)) [(0, .ref (aP 0)), (1, .ref (aD 0)), (2, .int v2)] [] := by
    intro  n
    induction n with
    | zero => intro v2 uP hf; exact nomatch (show (none : Option ((Nat → Nat → Int32))) = some _ from hf)
    | succ n ih =>
      intro v2 uP hf
      rw [f_P_become_50] at hf
      refine mk_iload_n C 2 dX3_become_50 rfl ?_
      refine mk_aload_n C 1 dX3_become_51 rfl ?_
      refine mk_get C mk_inX3 6 rfl rfl 6 (by decide) mw_84 (v := .int (uD 6 0)) rfl dX3_become_52 ?_
      refine mk_icmp_ge C 84 dX3_become_55 (by decide) (fun c1 => ?_) (fun c1 => ?_)
      · replace hf := (if_pos c1).symm.trans hf
        refine mk_aload_n C 0 dX3_become_84 rfl ?_
        refine mk_aload_n C 1 dX3_become_85 rfl ?_
        refine mk_get C mk_inX3 6 rfl rfl 0 (by decide) mw_60 (v := .int (uD 0 0)) rfl dX3_become_86 ?_
        refine mk_put C mk_inX3 tyX3 tyX3_ok nmX3 0 rfl rfl 0 (by decide) mw_60 rfl rfl rfl (Nat.le_of_ble_eq_true rfl) (ws' := (wPlan aP cI (upF 0 (uD 0 0) uP) ++ (wPlan aD cI uD))) (st_PD_P_0 cI cJ aP aD uP uD (uD 0 0)) dX3_become_89 ?_
        refine mk_aload_n C 0 dX3_become_92 rfl ?_
        refine mk_aload_n C 1 dX3_become_93 rfl ?_
        refine mk_get C mk_inX3 6 rfl rfl 1 (by decide) mw_64 (v := .int (uD 1 0)) rfl dX3_become_94 ?_
        refine mk_put C mk_inX3 tyX3 tyX3_ok nmX3 0 rfl rfl 1 (by decide) mw_64 rfl rfl rfl (Nat.le_of_ble_eq_true rfl) (ws' := (wPlan aP cI (upF 1 (uD 1 0) (upF 0 (uD 0 0) uP)) ++ (wPlan aD cI uD))) (st_PD_P_1 cI cJ aP aD (upF 0 (uD 0 0) uP) uD (uD 1 0)) dX3_become_97 ?_
        refine mk_aload_n C 0 dX3_become_100 rfl ?_
        refine mk_aload_n C 1 dX3_become_101 rfl ?_
        refine mk_get C mk_inX3 6 rfl rfl 2 (by decide) mw_68 (v := .int (uD 2 0)) rfl dX3_become_102 ?_
        refine mk_put C mk_inX3 tyX3 tyX3_ok nmX3 0 rfl rfl 2 (by decide) mw_68 rfl rfl rfl (Nat.le_of_ble_eq_true rfl) (ws' := (wPlan aP cI (upF 2 (uD 2 0) (upF 1 (uD 1 0) (upF 0 (uD 0 0) uP))) ++ (wPlan aD cI uD))) (st_PD_P_2 cI cJ aP aD (upF 1 (uD 1 0) (upF 0 (uD 0 0) uP)) uD (uD 2 0)) dX3_become_105 ?_
        refine mk_aload_n C 0 dX3_become_108 rfl ?_
        refine mk_aload_n C 1 dX3_become_109 rfl ?_
        refine mk_get C mk_inX3 6 rfl rfl 3 (by decide) mw_72 (v := .int (uD 3 0)) rfl dX3_become_110 ?_
        refine mk_put C mk_inX3 tyX3 tyX3_ok nmX3 0 rfl rfl 3 (by decide) mw_72 rfl rfl rfl (Nat.le_of_ble_eq_true rfl) (ws' := (wPlan aP cI (upF 3 (uD 3 0) (upF 2 (uD 2 0) (upF 1 (uD 1 0) (upF 0 (uD 0 0) uP)))) ++ (wPlan aD cI uD))) (st_PD_P_3 cI cJ aP aD (upF 2 (uD 2 0) (upF 1 (uD 1 0) (upF 0 (uD 0 0) uP))) uD (uD 3 0)) dX3_become_113 ?_
        refine mk_aload_n C 0 dX3_become_116 rfl ?_
        refine mk_aload_n C 1 dX3_become_117 rfl ?_
        refine mk_get C mk_inX3 6 rfl rfl 4 (by decide) mw_76 (v := .int (uD 4 0)) rfl dX3_become_118 ?_
        refine mk_put C mk_inX3 tyX3 tyX3_ok nmX3 0 rfl rfl 4 (by decide) mw_76 rfl rfl rfl (Nat.le_of_ble_eq_true rfl) (ws' := (wPlan aP cI (upF 4 (uD 4 0) (upF 3 (uD 3 0) (upF 2 (uD 2 0) (upF 1 (uD 1 0) (upF 0 (uD 0 0) uP))))) ++ (wPlan aD cI uD))) (st_PD_P_4 cI cJ aP aD (upF 3 (uD 3 0) (upF 2 (uD 2 0) (upF 1 (uD 1 0) (upF 0 (uD 0 0) uP)))) uD (uD 4 0)) dX3_become_121 ?_
        have e0 := Option.some.inj hf
        exact mk_vret C hr hlk (by rw [← e0]) dX3_become_124
      · replace hf := (if_neg c1).symm.trans hf
        refine mk_aload_n C 0 dX3_become_58 rfl ?_
        refine mk_aload_n C 1 dX3_become_59 rfl ?_
        refine mk_get C mk_inX3 6 rfl rfl 10 (by decide) mw_95 (v := .ref (aD 11)) rfl dX3_become_60 ?_
        refine mk_iload_n C 2 dX3_become_63 rfl ?_
        refine mk_callNi C (c_at l D cI cJ cB cZ cS X Y (aD 11) 10 (uD 10) v2) (List.mem_of_getElem? (i := 13) rfl) mw_377 mw_1 mw_378 mkn_X8_at rfl ⟨Nat.le_of_ble_eq_true rfl, Nat.le_of_ble_eq_true rfl⟩ (mk_Fr.at (q := 10) rfl) (Nat.le_of_ble_eq_true rfl) dX3_become_64 rfl ?_
        refine mk_aload_n C 1 dX3_become_67 rfl ?_
        refine mk_get C mk_inX3 6 rfl rfl 11 (by decide) mw_97 (v := .ref (aD 12)) rfl dX3_become_68 ?_
        refine mk_iload_n C 2 dX3_become_71 rfl ?_
        refine mk_callNi C (c_at l D cI cJ cB cZ cS X Y (aD 12) 10 (uD 11) v2) (List.mem_of_getElem? (i := 13) rfl) mw_377 mw_1 mw_378 mkn_X8_at rfl ⟨Nat.le_of_ble_eq_true rfl, Nat.le_of_ble_eq_true rfl⟩ (mk_Fr.at (q := 11) rfl) (Nat.le_of_ble_eq_true rfl) dX3_become_72 rfl ?_
        obtain ⟨uP_2, h3, hf⟩ := b1_some hf
        refine mk_callVv C (c_P_addNoise l D cI cJ cB cZ cS X Y aP uP (mkAt 10 (uD 10) v2) (mkAt 10 (uD 11) v2) uP_2 h3) mw_513 mw_504 mw_505 mw_4 mw_506 mkn_X3_addNoise rfl ⟨Nat.le_of_ble_eq_true rfl, Nat.le_of_ble_eq_true rfl⟩ 0 rfl rfl rfl (fr_PPD_P cI cJ aP aD uP uD uP_2) (Nat.le_of_ble_eq_true rfl) dX3_become_75 rfl ?_
        refine mk_iinc C (v := (v2 + 1)) (lv' := [(2, .int (v2 + 1)), (0, .ref (aP 0)), (1, .ref (aD 0))]) 2 dX3_become_78 rfl rfl (by decide) rfl ?_
        refine mk_goto C 50 dX3_become_81 (by decide) ?_
        exact mk_lvsub [1, 2, 0] rfl (ih _ _ hf)
  have wL6 : ∀ (n : Nat) (v2 : Int32) (uP : Nat → Nat → Int32), f_P_become_6 uD n v2 uP = some wP → mk_Go p l e (headSpec (mk_ws yX3_become cX3_become 3 none) ({ frames := 2, cells := 0, slots := 0, locals := 45 })).room s m args below meth c D A 3 0 0 (MQ below (mk_Q none D (wPlan aP cI wP ++ (wPlan aD cI uD)) A) args s 0 0 A) 6 (wPlan aP cI uP ++ (wPlan aD cI uD)) [(0, .ref (aP 0)), (1, .ref (aD 0)), (2, .int v2)] [] := by
    intro  n
    induction n with
    | zero => intro v2 uP hf; exact nomatch (show (none : Option ((Nat → Nat → Int32))) = some _ from hf)
    | succ n ih =>
      intro v2 uP hf
      rw [f_P_become_6] at hf
      refine mk_iload_n C 2 dX3_become_6 rfl ?_
      refine mk_aload_n C 1 dX3_become_7 rfl ?_
      refine mk_get C mk_inX3 6 rfl rfl 5 (by decide) mw_79 (v := .int (uD 5 0)) rfl dX3_become_8 ?_
      refine mk_icmp_ge C 48 dX3_become_11 (by decide) (fun c4 => ?_) (fun c4 => ?_)
      · replace hf := (if_pos c4).symm.trans hf
        refine mk_iconst C (v := 0) dX3_become_48 (by decide) ?_
        refine mk_istore_n C (lv' := [(2, .int 0), (0, .ref (aP 0)), (1, .ref (aD 0))]) dX3_become_49 (by decide) rfl ?_
        exact mk_lvsub [1, 2, 0] rfl (wL50 600 _ _ hf)
      · replace hf := (if_neg c4).symm.trans hf
        refine mk_aload_n C 0 dX3_become_14 rfl ?_
        refine mk_aload_n C 1 dX3_become_15 rfl ?_
        refine mk_get C mk_inX3 6 rfl rfl 7 (by decide) mw_89 (v := .ref (aD 8)) rfl dX3_become_16 ?_
        refine mk_iload_n C 2 dX3_become_19 rfl ?_
        refine mk_callNi C (c_at l D cI cJ cB cZ cS X Y (aD 8) 10 (uD 7) v2) (List.mem_of_getElem? (i := 13) rfl) mw_377 mw_1 mw_378 mkn_X8_at rfl ⟨Nat.le_of_ble_eq_true rfl, Nat.le_of_ble_eq_true rfl⟩ (mk_Fr.at (q := 7) rfl) (Nat.le_of_ble_eq_true rfl) dX3_become_20 rfl ?_
        refine mk_aload_n C 1 dX3_become_23 rfl ?_
        refine mk_get C mk_inX3 6 rfl rfl 9 (by decide) mw_93 (v := .ref (aD 10)) rfl dX3_become_24 ?_
        refine mk_iload_n C 2 dX3_become_27 rfl ?_
        refine mk_callNi C (c_at l D cI cJ cB cZ cS X Y (aD 10) 10 (uD 9) v2) (List.mem_of_getElem? (i := 13) rfl) mw_377 mw_1 mw_378 mkn_X8_at rfl ⟨Nat.le_of_ble_eq_true rfl, Nat.le_of_ble_eq_true rfl⟩ (mk_Fr.at (q := 9) rfl) (Nat.le_of_ble_eq_true rfl) dX3_become_28 rfl ?_
        refine mk_aload_n C 1 dX3_become_31 rfl ?_
        refine mk_get C mk_inX3 6 rfl rfl 8 (by decide) mw_91 (v := .ref (aD 9)) rfl dX3_become_32 ?_
        refine mk_iload_n C 2 dX3_become_35 rfl ?_
        refine mk_callNi C (c_at l D cI cJ cB cZ cS X Y (aD 9) 10 (uD 8) v2) (List.mem_of_getElem? (i := 13) rfl) mw_377 mw_1 mw_378 mkn_X8_at rfl ⟨Nat.le_of_ble_eq_true rfl, Nat.le_of_ble_eq_true rfl⟩ (mk_Fr.at (q := 8) rfl) (Nat.le_of_ble_eq_true rfl) dX3_become_36 rfl ?_
        obtain ⟨uP_5, h6, hf⟩ := b1_some hf
        refine mk_callVv C (c_P_addSender l D cI cJ cB cZ cS X Y aP uP (mkAt 10 (uD 7) v2) (mkAt 10 (uD 9) v2) (mkAt 10 (uD 8) v2) uP_5 h6) mw_512 mw_479 mw_480 mw_4 mw_481 mkn_X3_addSender rfl ⟨Nat.le_of_ble_eq_true rfl, Nat.le_of_ble_eq_true rfl⟩ 0 rfl rfl rfl (fr_PPD_P cI cJ aP aD uP uD uP_5) (Nat.le_of_ble_eq_true rfl) dX3_become_39 rfl ?_
        refine mk_iinc C (v := (v2 + 1)) (lv' := [(2, .int (v2 + 1)), (0, .ref (aP 0)), (1, .ref (aD 0))]) 2 dX3_become_42 rfl rfl (by decide) rfl ?_
        refine mk_goto C 6 dX3_become_45 (by decide) ?_
        exact mk_lvsub [1, 2, 0] rfl (ih _ _ hf)
  show mk_Go p l e (headSpec (mk_ws yX3_become cX3_become 3 none) ({ frames := 2, cells := 0, slots := 0, locals := 45 })).room s m args below meth c D A 3 0 0 (MQ below (mk_Q none D (wPlan aP cI wP ++ (wPlan aD cI uD)) A) args s 0 0 A) 0 (wPlan aP cI uP ++ (wPlan aD cI uD)) [(0, .ref (aP 0)), (1, .ref (aD 0))] []
  unfold f_P_become at hf
  refine mk_aload_n C 0 dX3_become_0 rfl ?_
  obtain ⟨uP_7, h8, hf⟩ := b1_some hf
  refine mk_callVv C (c_P_clear l D cI cJ cB cZ cS X Y aP uP uP_7 h8) mw_511 mw_369 mw_370 mw_4 mw_371 mkn_X3_clear rfl ⟨Nat.le_of_ble_eq_true rfl, Nat.le_of_ble_eq_true rfl⟩ 0 rfl rfl rfl (fr_PPD_P cI cJ aP aD uP uD uP_7) (Nat.le_of_ble_eq_true rfl) dX3_become_1 rfl ?_
  refine mk_iconst C (v := 0) dX3_become_4 (by decide) ?_
  refine mk_istore_n C (lv' := [(2, .int 0), (0, .ref (aP 0)), (1, .ref (aD 0))]) dX3_become_5 (by decide) rfl ?_
  exact mk_lvsub [1, 2, 0] rfl (wL6 600 _ _ hf)
set_option maxHeartbeats 40000000 in
set_option maxRecDepth 100000 in
theorem c_C_clear (l : Launch) (D : va_G) (cI cJ cB cZ cS : ClassId) (X : Nat → Nat) (Y : mk_Y) (aC : Nat → Nat) (uC : Nat → Nat → Int32) (wC : Nat → Nat → Int32) (hf : f_C_clear uC = some wC) : mk_Met l yX1_clear cX1_clear 1 none ({ frames := 1, cells := 0, slots := 0, locals := 23 }) D (mk_TY cI cJ cB cZ cS) X Y [.ref (aC 0)] (wCourse aC cI uC) (wCourse aC cI wC) none 0 0 := by
  refine mk_start (own := RX1) (by decide) rfl (Nat.le_of_ble_eq_true rfl) ?_
  intro sz p e s m args below meth c A C hr hlk hnm
  replace C : mk_Cx p s m args c cX1_clear 1 RX1 D (mk_TY cI cJ cB cZ cS) X Y A := C
  show mk_Go p l e (headSpec (mk_ws yX1_clear cX1_clear 1 none) ({ frames := 1, cells := 0, slots := 0, locals := 23 })).room s m args below meth c D A 1 0 0 (MQ below (mk_Q none D (wCourse aC cI wC) A) args s 0 0 A) 0 (wCourse aC cI uC) [(0, .ref (aC 0))] []
  unfold f_C_clear at hf
  refine mk_aload_n C 0 dX1_clear_0 rfl ?_
  refine mk_get C mk_inX1 0 rfl rfl 2 (by decide) mw_193 (v := .ref (aC 3)) rfl dX1_clear_1 ?_
  refine mk_iconst C (v := (-1)) dX1_clear_4 (by decide) ?_
  refine mk_callSv C (c_fill l D cI cJ cB cZ cS X Y (aC 3) 200 (uC 2) (-1) (by decide)) mw_525 mw_519 mw_17 mw_520 mkn_J7_fill_53178 rfl ⟨Nat.le_of_ble_eq_true rfl, Nat.le_of_ble_eq_true rfl⟩ (mk_Fr.put (q := 3) (ws' := (wCourse aC cI (upR 2 (mkFill 200 (uC 2) (-1)) uC))) rfl (st_C_C_2 cI cJ aC uC (mkFill 200 (uC 2) (-1)))) (Nat.le_of_ble_eq_true rfl) dX1_clear_5 rfl ?_
  refine mk_aload_n C 0 dX1_clear_8 rfl ?_
  refine mk_get C mk_inX1 0 rfl rfl 4 (by decide) mw_198 (v := .ref (aC 5)) rfl dX1_clear_9 ?_
  refine mk_iconst C (v := 0) dX1_clear_12 (by decide) ?_
  refine mk_callSv C (c_fill l D cI cJ cB cZ cS X Y (aC 5) 200 (uC 4) 0 (by decide)) mw_525 mw_519 mw_17 mw_520 mkn_J7_fill_53178 rfl ⟨Nat.le_of_ble_eq_true rfl, Nat.le_of_ble_eq_true rfl⟩ (mk_Fr.put (q := 5) (ws' := (wCourse aC cI (upR 4 (mkFill 200 (uC 4) 0) (upR 2 (mkFill 200 (uC 2) (-1)) uC)))) rfl (st_C_C_4 cI cJ aC (upR 2 (mkFill 200 (uC 2) (-1)) uC) (mkFill 200 (uC 4) 0))) (Nat.le_of_ble_eq_true rfl) dX1_clear_13 rfl ?_
  refine mk_aload_n C 0 dX1_clear_16 rfl ?_
  refine mk_get C mk_inX1 0 rfl rfl 5 (by decide) mw_201 (v := .ref (aC 6)) rfl dX1_clear_17 ?_
  refine mk_iconst C (v := (-1)) dX1_clear_20 (by decide) ?_
  refine mk_callSv C (c_fill l D cI cJ cB cZ cS X Y (aC 6) 10 (uC 5) (-1) (by decide)) mw_525 mw_519 mw_17 mw_520 mkn_J7_fill_53178 rfl ⟨Nat.le_of_ble_eq_true rfl, Nat.le_of_ble_eq_true rfl⟩ (mk_Fr.put (q := 6) (ws' := (wCourse aC cI (upR 5 (mkFill 10 (uC 5) (-1)) (upR 4 (mkFill 200 (uC 4) 0) (upR 2 (mkFill 200 (uC 2) (-1)) uC))))) rfl (st_C_C_5 cI cJ aC (upR 4 (mkFill 200 (uC 4) 0) (upR 2 (mkFill 200 (uC 2) (-1)) uC)) (mkFill 10 (uC 5) (-1)))) (Nat.le_of_ble_eq_true rfl) dX1_clear_21 rfl ?_
  refine mk_aload_n C 0 dX1_clear_24 rfl ?_
  refine mk_get C mk_inX1 0 rfl rfl 6 (by decide) mw_203 (v := .ref (aC 7)) rfl dX1_clear_25 ?_
  refine mk_iconst C (v := 0) dX1_clear_28 (by decide) ?_
  refine mk_callSv C (c_fill l D cI cJ cB cZ cS X Y (aC 7) 10 (uC 6) 0 (by decide)) mw_525 mw_519 mw_17 mw_520 mkn_J7_fill_53178 rfl ⟨Nat.le_of_ble_eq_true rfl, Nat.le_of_ble_eq_true rfl⟩ (mk_Fr.put (q := 7) (ws' := (wCourse aC cI (upR 6 (mkFill 10 (uC 6) 0) (upR 5 (mkFill 10 (uC 5) (-1)) (upR 4 (mkFill 200 (uC 4) 0) (upR 2 (mkFill 200 (uC 2) (-1)) uC)))))) rfl (st_C_C_6 cI cJ aC (upR 5 (mkFill 10 (uC 5) (-1)) (upR 4 (mkFill 200 (uC 4) 0) (upR 2 (mkFill 200 (uC 2) (-1)) uC))) (mkFill 10 (uC 6) 0))) (Nat.le_of_ble_eq_true rfl) dX1_clear_29 rfl ?_
  refine mk_aload_n C 0 dX1_clear_32 rfl ?_
  refine mk_get C mk_inX1 0 rfl rfl 7 (by decide) mw_206 (v := .ref (aC 8)) rfl dX1_clear_33 ?_
  refine mk_iconst C (v := 0) dX1_clear_36 (by decide) ?_
  refine mk_callSv C (c_fill l D cI cJ cB cZ cS X Y (aC 8) 10 (uC 7) 0 (by decide)) mw_525 mw_519 mw_17 mw_520 mkn_J7_fill_53178 rfl ⟨Nat.le_of_ble_eq_true rfl, Nat.le_of_ble_eq_true rfl⟩ (mk_Fr.put (q := 8) (ws' := (wCourse aC cI (upR 7 (mkFill 10 (uC 7) 0) (upR 6 (mkFill 10 (uC 6) 0) (upR 5 (mkFill 10 (uC 5) (-1)) (upR 4 (mkFill 200 (uC 4) 0) (upR 2 (mkFill 200 (uC 2) (-1)) uC))))))) rfl (st_C_C_7 cI cJ aC (upR 6 (mkFill 10 (uC 6) 0) (upR 5 (mkFill 10 (uC 5) (-1)) (upR 4 (mkFill 200 (uC 4) 0) (upR 2 (mkFill 200 (uC 2) (-1)) uC)))) (mkFill 10 (uC 7) 0))) (Nat.le_of_ble_eq_true rfl) dX1_clear_37 rfl ?_
  refine mk_aload_n C 0 dX1_clear_40 rfl ?_
  refine mk_iconst C (v := 0) dX1_clear_41 (by decide) ?_
  refine mk_put C mk_inX1 tyX1 tyX1_ok nmX1 0 rfl rfl 9 (by decide) mw_211 rfl rfl rfl (Nat.le_of_ble_eq_true rfl) (ws' := (wCourse aC cI (upF 9 0 (upR 7 (mkFill 10 (uC 7) 0) (upR 6 (mkFill 10 (uC 6) 0) (upR 5 (mkFill 10 (uC 5) (-1)) (upR 4 (mkFill 200 (uC 4) 0) (upR 2 (mkFill 200 (uC 2) (-1)) uC)))))))) (st_C_C_9 cI cJ aC (upR 7 (mkFill 10 (uC 7) 0) (upR 6 (mkFill 10 (uC 6) 0) (upR 5 (mkFill 10 (uC 5) (-1)) (upR 4 (mkFill 200 (uC 4) 0) (upR 2 (mkFill 200 (uC 2) (-1)) uC))))) 0) dX1_clear_42 ?_
  refine mk_aload_n C 0 dX1_clear_45 rfl ?_
  refine mk_iconst C (v := 0) dX1_clear_46 (by decide) ?_
  refine mk_put C mk_inX1 tyX1 tyX1_ok nmX1 0 rfl rfl 13 (by decide) mw_218 rfl rfl rfl (Nat.le_of_ble_eq_true rfl) (ws' := (wCourse aC cI (upF 13 0 (upF 9 0 (upR 7 (mkFill 10 (uC 7) 0) (upR 6 (mkFill 10 (uC 6) 0) (upR 5 (mkFill 10 (uC 5) (-1)) (upR 4 (mkFill 200 (uC 4) 0) (upR 2 (mkFill 200 (uC 2) (-1)) uC))))))))) (st_C_C_13 cI cJ aC (upF 9 0 (upR 7 (mkFill 10 (uC 7) 0) (upR 6 (mkFill 10 (uC 6) 0) (upR 5 (mkFill 10 (uC 5) (-1)) (upR 4 (mkFill 200 (uC 4) 0) (upR 2 (mkFill 200 (uC 2) (-1)) uC)))))) 0) dX1_clear_47 ?_
  have e0 := Option.some.inj hf
  exact mk_vret C hr hlk (by rw [← e0]) dX1_clear_50
set_option maxHeartbeats 40000000 in
set_option maxRecDepth 100000 in
theorem c_C_deliver (l : Launch) (D : va_G) (cI cJ cB cZ cS : ClassId) (X : Nat → Nat) (Y : mk_Y) (aC : Nat → Nat) (uC : Nat → Nat → Int32) (p1 : Int32) (p2 : Int32) (wC : Nat → Nat → Int32) (hf : f_C_deliver uC p1 p2 = some wC) : mk_Met l yX1_deliver cX1_deliver 3 none ({ frames := 1, cells := 0, slots := 0, locals := 22 }) D (mk_TY cI cJ cB cZ cS) X Y [.ref (aC 0), .int p1, .int p2] (wCourse aC cI uC) (wCourse aC cI wC) none 0 0 := by
  refine mk_start (own := RX1) (by decide) rfl (Nat.le_of_ble_eq_true rfl) ?_
  intro sz p e s m args below meth c A C hr hlk hnm
  replace C : mk_Cx p s m args c cX1_deliver 3 RX1 D (mk_TY cI cJ cB cZ cS) X Y A := C
  show mk_Go p l e (headSpec (mk_ws yX1_deliver cX1_deliver 3 none) ({ frames := 1, cells := 0, slots := 0, locals := 22 })).room s m args below meth c D A 3 0 0 (MQ below (mk_Q none D (wCourse aC cI wC) A) args s 0 0 A) 0 (wCourse aC cI uC) [(0, .ref (aC 0)), (1, .int p1), (2, .int p2)] []
  unfold f_C_deliver at hf
  refine mk_aload_n C 0 dX1_deliver_0 rfl ?_
  refine mk_get C mk_inX1 0 rfl rfl 2 (by decide) mw_193 (v := .ref (aC 3)) rfl dX1_deliver_1 ?_
  refine mk_iload_n C 2 dX1_deliver_4 rfl ?_
  refine mk_iload_n C 1 dX1_deliver_5 rfl ?_
  refine mk_callNv C (c_put l D cI cJ cB cZ cS X Y (aC 3) 200 (uC 2) p2 p1) (List.mem_of_getElem? (i := 16) rfl) mw_483 mw_1 mw_484 mkn_X8_put rfl ⟨Nat.le_of_ble_eq_true rfl, Nat.le_of_ble_eq_true rfl⟩ (mk_Fr.put (q := 3) (ws' := (wCourse aC cI (upR 2 (mkPut 200 (uC 2) p2 p1) uC))) rfl (st_C_C_2 cI cJ aC uC (mkPut 200 (uC 2) p2 p1))) (Nat.le_of_ble_eq_true rfl) dX1_deliver_6 rfl ?_
  refine mk_aload_n C 0 dX1_deliver_9 rfl ?_
  refine mk_get C mk_inX1 0 rfl rfl 5 (by decide) mw_201 (v := .ref (aC 6)) rfl dX1_deliver_10 ?_
  refine mk_iload_n C 1 dX1_deliver_13 rfl ?_
  refine mk_iload_n C 2 dX1_deliver_14 rfl ?_
  refine mk_callNv C (c_put l D cI cJ cB cZ cS X Y (aC 6) 10 (uC 5) p1 p2) (List.mem_of_getElem? (i := 16) rfl) mw_483 mw_1 mw_484 mkn_X8_put rfl ⟨Nat.le_of_ble_eq_true rfl, Nat.le_of_ble_eq_true rfl⟩ (mk_Fr.put (q := 6) (ws' := (wCourse aC cI (upR 5 (mkPut 10 (uC 5) p1 p2) (upR 2 (mkPut 200 (uC 2) p2 p1) uC)))) rfl (st_C_C_5 cI cJ aC (upR 2 (mkPut 200 (uC 2) p2 p1) uC) (mkPut 10 (uC 5) p1 p2))) (Nat.le_of_ble_eq_true rfl) dX1_deliver_15 rfl ?_
  refine mk_aload_n C 0 dX1_deliver_18 rfl ?_
  refine mk_get C mk_inX1 0 rfl rfl 8 (by decide) mw_209 (v := .ref (aC 9)) rfl dX1_deliver_19 ?_
  refine mk_aload_n C 0 dX1_deliver_22 rfl ?_
  refine mk_get C mk_inX1 0 rfl rfl 9 (by decide) mw_211 (v := .int (uC 9 0)) rfl dX1_deliver_23 ?_
  refine mk_iload_n C 1 dX1_deliver_26 rfl ?_
  refine mk_callNv C (c_put l D cI cJ cB cZ cS X Y (aC 9) 10 (uC 8) (uC 9 0) p1) (List.mem_of_getElem? (i := 16) rfl) mw_483 mw_1 mw_484 mkn_X8_put rfl ⟨Nat.le_of_ble_eq_true rfl, Nat.le_of_ble_eq_true rfl⟩ (mk_Fr.put (q := 9) (ws' := (wCourse aC cI (upR 8 (mkPut 10 (uC 8) (uC 9 0) p1) (upR 5 (mkPut 10 (uC 5) p1 p2) (upR 2 (mkPut 200 (uC 2) p2 p1) uC))))) rfl (st_C_C_8 cI cJ aC (upR 5 (mkPut 10 (uC 5) p1 p2) (upR 2 (mkPut 200 (uC 2) p2 p1) uC)) (mkPut 10 (uC 8) (uC 9 0) p1))) (Nat.le_of_ble_eq_true rfl) dX1_deliver_27 rfl ?_
  refine mk_aload_n C 0 dX1_deliver_30 rfl ?_
  refine mk_dup C dX1_deliver_31 rfl ?_
  refine mk_get C mk_inX1 0 rfl rfl 9 (by decide) mw_211 (v := .int (uC 9 0)) rfl dX1_deliver_32 ?_
  refine mk_iconst C (v := 1) dX1_deliver_35 (by decide) ?_
  refine mk_iadd C dX1_deliver_36 ?_
  refine mk_put C mk_inX1 tyX1 tyX1_ok nmX1 0 rfl rfl 9 (by decide) mw_211 rfl rfl rfl (Nat.le_of_ble_eq_true rfl) (ws' := (wCourse aC cI (upF 9 ((uC 9 0) + 1) (upR 8 (mkPut 10 (uC 8) (uC 9 0) p1) (upR 5 (mkPut 10 (uC 5) p1 p2) (upR 2 (mkPut 200 (uC 2) p2 p1) uC)))))) (st_C_C_9 cI cJ aC (upR 8 (mkPut 10 (uC 8) (uC 9 0) p1) (upR 5 (mkPut 10 (uC 5) p1 p2) (upR 2 (mkPut 200 (uC 2) p2 p1) uC))) ((uC 9 0) + 1)) dX1_deliver_37 ?_
  have e0 := Option.some.inj hf
  exact mk_vret C hr hlk (by rw [← e0]) dX1_deliver_40
set_option maxHeartbeats 40000000 in
set_option maxRecDepth 100000 in
theorem c_P_moment (l : Launch) (D : va_G) (cI cJ cB cZ cS : ClassId) (X : Nat → Nat) (Y : mk_Y) (aP : Nat → Nat) (uP : Nat → Nat → Int32) (p1 : Int32) (r : Int32) (hf : f_P_moment uP p1 = some r) : mk_Met l yX3_moment cX3_moment 2 (some .int) ({ frames := 1, cells := 0, slots := 0, locals := 21 }) D (mk_TY cI cJ cB cZ cS) X Y [.ref (aP 0), .int p1] (wPlan aP cI uP) (wPlan aP cI uP) (some (.int r)) 0 0 := by
  refine mk_start (own := RX3) (by decide) rfl (Nat.le_of_ble_eq_true rfl) ?_
  intro sz p e s m args below meth c A C hr hlk hnm
  replace C : mk_Cx p s m args c cX3_moment 2 RX3 D (mk_TY cI cJ cB cZ cS) X Y A := C
  show mk_Go p l e (headSpec (mk_ws yX3_moment cX3_moment 2 (some .int)) ({ frames := 1, cells := 0, slots := 0, locals := 21 })).room s m args below meth c D A 2 0 0 (MQ below (mk_Q (some (.int r)) D (wPlan aP cI uP) A) args s 0 0 A) 0 (wPlan aP cI uP) [(0, .ref (aP 0)), (1, .int p1)] []
  unfold f_P_moment at hf
  refine mk_bipush C (v := 16) dX3_moment_0 (by decide) ?_
  refine mk_aload_n C 0 dX3_moment_2 rfl ?_
  refine mk_get C mk_inX3 0 rfl rfl 7 (by decide) mw_89 (v := .ref (aP 8)) rfl dX3_moment_3 ?_
  refine mk_iload_n C 1 dX3_moment_6 rfl ?_
  refine mk_callNi C (c_at l D cI cJ cB cZ cS X Y (aP 8) 10 (uP 7) p1) (List.mem_of_getElem? (i := 13) rfl) mw_377 mw_1 mw_378 mkn_X8_at rfl ⟨Nat.le_of_ble_eq_true rfl, Nat.le_of_ble_eq_true rfl⟩ (mk_Fr.at (q := 1) rfl) (Nat.le_of_ble_eq_true rfl) dX3_moment_7 rfl ?_
  refine mk_imul C dX3_moment_10 ?_
  refine mk_iload_n C 1 dX3_moment_11 rfl ?_
  refine mk_iadd C dX3_moment_12 ?_
  have e0 := Option.some.inj hf
  exact mk_iret C hr hlk e0 rfl dX3_moment_13
set_option maxHeartbeats 40000000 in
set_option maxRecDepth 100000 in
theorem c_S_push (l : Launch) (D : va_G) (cI cJ cB cZ cS : ClassId) (X : Nat → Nat) (Y : mk_Y) (aS : Nat → Nat) (uS : Nat → Nat → Int32) (p1 : Int32) (p2 : Int32) (p3 : Int32) (wS : Nat → Nat → Int32) (hf : f_S_push uS p1 p2 p3 = some wS) : mk_Met l yX6_push cX6_push 4 none ({ frames := 1, cells := 0, slots := 0, locals := 22 }) D (mk_TY cI cJ cB cZ cS) X Y [.ref (aS 0), .int p1, .int p2, .int p3] (wStack aS cI uS) (wStack aS cI wS) none 0 0 := by
  refine mk_start (own := RX6) (by decide) rfl (Nat.le_of_ble_eq_true rfl) ?_
  intro sz p e s m args below meth c A C hr hlk hnm
  replace C : mk_Cx p s m args c cX6_push 4 RX6 D (mk_TY cI cJ cB cZ cS) X Y A := C
  show mk_Go p l e (headSpec (mk_ws yX6_push cX6_push 4 none) ({ frames := 1, cells := 0, slots := 0, locals := 22 })).room s m args below meth c D A 4 0 0 (MQ below (mk_Q none D (wStack aS cI wS) A) args s 0 0 A) 0 (wStack aS cI uS) [(0, .ref (aS 0)), (1, .int p1), (2, .int p2), (3, .int p3)] []
  unfold f_S_push at hf
  refine mk_aload_n C 0 dX6_push_0 rfl ?_
  refine mk_get C mk_inX6 0 rfl rfl 0 (by decide) mw_165 (v := .ref (aS 1)) rfl dX6_push_1 ?_
  refine mk_aload_n C 0 dX6_push_4 rfl ?_
  refine mk_get C mk_inX6 0 rfl rfl 3 (by decide) mw_170 (v := .int (uS 3 0)) rfl dX6_push_5 ?_
  refine mk_iload_n C 1 dX6_push_8 rfl ?_
  refine mk_callNv C (c_put l D cI cJ cB cZ cS X Y (aS 1) 201 (uS 0) (uS 3 0) p1) (List.mem_of_getElem? (i := 17) rfl) mw_483 mw_1 mw_484 mkn_X8_put rfl ⟨Nat.le_of_ble_eq_true rfl, Nat.le_of_ble_eq_true rfl⟩ (mk_Fr.put (q := 1) (ws' := (wStack aS cI (upR 0 (mkPut 201 (uS 0) (uS 3 0) p1) uS))) rfl (st_S_S_0 cI cJ aS uS (mkPut 201 (uS 0) (uS 3 0) p1))) (Nat.le_of_ble_eq_true rfl) dX6_push_9 rfl ?_
  refine mk_aload_n C 0 dX6_push_12 rfl ?_
  refine mk_get C mk_inX6 0 rfl rfl 1 (by decide) mw_166 (v := .ref (aS 2)) rfl dX6_push_13 ?_
  refine mk_aload_n C 0 dX6_push_16 rfl ?_
  refine mk_get C mk_inX6 0 rfl rfl 3 (by decide) mw_170 (v := .int (uS 3 0)) rfl dX6_push_17 ?_
  refine mk_iload_n C 2 dX6_push_20 rfl ?_
  refine mk_callNv C (c_put l D cI cJ cB cZ cS X Y (aS 2) 201 (uS 1) (uS 3 0) p2) (List.mem_of_getElem? (i := 17) rfl) mw_483 mw_1 mw_484 mkn_X8_put rfl ⟨Nat.le_of_ble_eq_true rfl, Nat.le_of_ble_eq_true rfl⟩ (mk_Fr.put (q := 2) (ws' := (wStack aS cI (upR 1 (mkPut 201 (uS 1) (uS 3 0) p2) (upR 0 (mkPut 201 (uS 0) (uS 3 0) p1) uS)))) rfl (st_S_S_1 cI cJ aS (upR 0 (mkPut 201 (uS 0) (uS 3 0) p1) uS) (mkPut 201 (uS 1) (uS 3 0) p2))) (Nat.le_of_ble_eq_true rfl) dX6_push_21 rfl ?_
  refine mk_aload_n C 0 dX6_push_24 rfl ?_
  refine mk_get C mk_inX6 0 rfl rfl 2 (by decide) mw_168 (v := .ref (aS 3)) rfl dX6_push_25 ?_
  refine mk_aload_n C 0 dX6_push_28 rfl ?_
  refine mk_get C mk_inX6 0 rfl rfl 3 (by decide) mw_170 (v := .int (uS 3 0)) rfl dX6_push_29 ?_
  refine mk_iload_n C 3 dX6_push_32 rfl ?_
  refine mk_callNv C (c_put l D cI cJ cB cZ cS X Y (aS 3) 201 (uS 2) (uS 3 0) p3) (List.mem_of_getElem? (i := 17) rfl) mw_483 mw_1 mw_484 mkn_X8_put rfl ⟨Nat.le_of_ble_eq_true rfl, Nat.le_of_ble_eq_true rfl⟩ (mk_Fr.put (q := 3) (ws' := (wStack aS cI (upR 2 (mkPut 201 (uS 2) (uS 3 0) p3) (upR 1 (mkPut 201 (uS 1) (uS 3 0) p2) (upR 0 (mkPut 201 (uS 0) (uS 3 0) p1) uS))))) rfl (st_S_S_2 cI cJ aS (upR 1 (mkPut 201 (uS 1) (uS 3 0) p2) (upR 0 (mkPut 201 (uS 0) (uS 3 0) p1) uS)) (mkPut 201 (uS 2) (uS 3 0) p3))) (Nat.le_of_ble_eq_true rfl) dX6_push_33 rfl ?_
  refine mk_aload_n C 0 dX6_push_36 rfl ?_
  refine mk_dup C dX6_push_37 rfl ?_
  refine mk_get C mk_inX6 0 rfl rfl 3 (by decide) mw_170 (v := .int (uS 3 0)) rfl dX6_push_38 ?_
  refine mk_iconst C (v := 1) dX6_push_41 (by decide) ?_
  refine mk_iadd C dX6_push_42 ?_
  refine mk_put C mk_inX6 tyX6 tyX6_ok nmX6 0 rfl rfl 3 (by decide) mw_170 rfl rfl rfl (Nat.le_of_ble_eq_true rfl) (ws' := (wStack aS cI (upF 3 ((uS 3 0) + 1) (upR 2 (mkPut 201 (uS 2) (uS 3 0) p3) (upR 1 (mkPut 201 (uS 1) (uS 3 0) p2) (upR 0 (mkPut 201 (uS 0) (uS 3 0) p1) uS)))))) (st_S_S_3 cI cJ aS (upR 2 (mkPut 201 (uS 2) (uS 3 0) p3) (upR 1 (mkPut 201 (uS 1) (uS 3 0) p2) (upR 0 (mkPut 201 (uS 0) (uS 3 0) p1) uS))) ((uS 3 0) + 1)) dX6_push_43 ?_
  have e0 := Option.some.inj hf
  exact mk_vret C hr hlk (by rw [← e0]) dX6_push_46
set_option maxHeartbeats 40000000 in
set_option maxRecDepth 100000 in
theorem c_C_openEpoch (l : Launch) (D : va_G) (cI cJ cB cZ cS : ClassId) (X : Nat → Nat) (Y : mk_Y) (aC : Nat → Nat) (uC : Nat → Nat → Int32) (p1 : Int32) (p2 : Int32) (wC : Nat → Nat → Int32) (hf : f_C_openEpoch uC p1 p2 = some wC) : mk_Met l yX1_openEpoch cX1_openEpoch 3 none ({ frames := 1, cells := 0, slots := 0, locals := 22 }) D (mk_TY cI cJ cB cZ cS) X Y [.ref (aC 0), .int p1, .int p2] (wCourse aC cI uC) (wCourse aC cI wC) none 0 0 := by
  refine mk_start (own := RX1) (by decide) rfl (Nat.le_of_ble_eq_true rfl) ?_
  intro sz p e s m args below meth c A C hr hlk hnm
  replace C : mk_Cx p s m args c cX1_openEpoch 3 RX1 D (mk_TY cI cJ cB cZ cS) X Y A := C
  show mk_Go p l e (headSpec (mk_ws yX1_openEpoch cX1_openEpoch 3 none) ({ frames := 1, cells := 0, slots := 0, locals := 22 })).room s m args below meth c D A 3 0 0 (MQ below (mk_Q none D (wCourse aC cI wC) A) args s 0 0 A) 0 (wCourse aC cI uC) [(0, .ref (aC 0)), (1, .int p1), (2, .int p2)] []
  unfold f_C_openEpoch at hf
  refine mk_aload_n C 0 dX1_openEpoch_0 rfl ?_
  refine mk_get C mk_inX1 0 rfl rfl 10 (by decide) mw_214 (v := .ref (aC 11)) rfl dX1_openEpoch_1 ?_
  refine mk_aload_n C 0 dX1_openEpoch_4 rfl ?_
  refine mk_get C mk_inX1 0 rfl rfl 13 (by decide) mw_218 (v := .int (uC 13 0)) rfl dX1_openEpoch_5 ?_
  refine mk_iload_n C 1 dX1_openEpoch_8 rfl ?_
  refine mk_callNv C (c_put l D cI cJ cB cZ cS X Y (aC 11) 200 (uC 10) (uC 13 0) p1) (List.mem_of_getElem? (i := 16) rfl) mw_483 mw_1 mw_484 mkn_X8_put rfl ⟨Nat.le_of_ble_eq_true rfl, Nat.le_of_ble_eq_true rfl⟩ (mk_Fr.put (q := 10) (ws' := (wCourse aC cI (upR 10 (mkPut 200 (uC 10) (uC 13 0) p1) uC))) rfl (st_C_C_10 cI cJ aC uC (mkPut 200 (uC 10) (uC 13 0) p1))) (Nat.le_of_ble_eq_true rfl) dX1_openEpoch_9 rfl ?_
  refine mk_aload_n C 0 dX1_openEpoch_12 rfl ?_
  refine mk_get C mk_inX1 0 rfl rfl 11 (by decide) mw_215 (v := .ref (aC 12)) rfl dX1_openEpoch_13 ?_
  refine mk_aload_n C 0 dX1_openEpoch_16 rfl ?_
  refine mk_get C mk_inX1 0 rfl rfl 13 (by decide) mw_218 (v := .int (uC 13 0)) rfl dX1_openEpoch_17 ?_
  refine mk_iconst C (v := (-1)) dX1_openEpoch_20 (by decide) ?_
  refine mk_callNv C (c_put l D cI cJ cB cZ cS X Y (aC 12) 200 (uC 11) (uC 13 0) (-1)) (List.mem_of_getElem? (i := 16) rfl) mw_483 mw_1 mw_484 mkn_X8_put rfl ⟨Nat.le_of_ble_eq_true rfl, Nat.le_of_ble_eq_true rfl⟩ (mk_Fr.put (q := 11) (ws' := (wCourse aC cI (upR 11 (mkPut 200 (uC 11) (uC 13 0) (-1)) (upR 10 (mkPut 200 (uC 10) (uC 13 0) p1) uC)))) rfl (st_C_C_11 cI cJ aC (upR 10 (mkPut 200 (uC 10) (uC 13 0) p1) uC) (mkPut 200 (uC 11) (uC 13 0) (-1)))) (Nat.le_of_ble_eq_true rfl) dX1_openEpoch_21 rfl ?_
  refine mk_aload_n C 0 dX1_openEpoch_24 rfl ?_
  refine mk_get C mk_inX1 0 rfl rfl 12 (by decide) mw_217 (v := .ref (aC 13)) rfl dX1_openEpoch_25 ?_
  refine mk_aload_n C 0 dX1_openEpoch_28 rfl ?_
  refine mk_get C mk_inX1 0 rfl rfl 13 (by decide) mw_218 (v := .int (uC 13 0)) rfl dX1_openEpoch_29 ?_
  refine mk_iload_n C 2 dX1_openEpoch_32 rfl ?_
  refine mk_callNv C (c_put l D cI cJ cB cZ cS X Y (aC 13) 200 (uC 12) (uC 13 0) p2) (List.mem_of_getElem? (i := 16) rfl) mw_483 mw_1 mw_484 mkn_X8_put rfl ⟨Nat.le_of_ble_eq_true rfl, Nat.le_of_ble_eq_true rfl⟩ (mk_Fr.put (q := 12) (ws' := (wCourse aC cI (upR 12 (mkPut 200 (uC 12) (uC 13 0) p2) (upR 11 (mkPut 200 (uC 11) (uC 13 0) (-1)) (upR 10 (mkPut 200 (uC 10) (uC 13 0) p1) uC))))) rfl (st_C_C_12 cI cJ aC (upR 11 (mkPut 200 (uC 11) (uC 13 0) (-1)) (upR 10 (mkPut 200 (uC 10) (uC 13 0) p1) uC)) (mkPut 200 (uC 12) (uC 13 0) p2))) (Nat.le_of_ble_eq_true rfl) dX1_openEpoch_33 rfl ?_
  refine mk_aload_n C 0 dX1_openEpoch_36 rfl ?_
  refine mk_dup C dX1_openEpoch_37 rfl ?_
  refine mk_get C mk_inX1 0 rfl rfl 13 (by decide) mw_218 (v := .int (uC 13 0)) rfl dX1_openEpoch_38 ?_
  refine mk_iconst C (v := 1) dX1_openEpoch_41 (by decide) ?_
  refine mk_iadd C dX1_openEpoch_42 ?_
  refine mk_put C mk_inX1 tyX1 tyX1_ok nmX1 0 rfl rfl 13 (by decide) mw_218 rfl rfl rfl (Nat.le_of_ble_eq_true rfl) (ws' := (wCourse aC cI (upF 13 ((uC 13 0) + 1) (upR 12 (mkPut 200 (uC 12) (uC 13 0) p2) (upR 11 (mkPut 200 (uC 11) (uC 13 0) (-1)) (upR 10 (mkPut 200 (uC 10) (uC 13 0) p1) uC)))))) (st_C_C_13 cI cJ aC (upR 12 (mkPut 200 (uC 12) (uC 13 0) p2) (upR 11 (mkPut 200 (uC 11) (uC 13 0) (-1)) (upR 10 (mkPut 200 (uC 10) (uC 13 0) p1) uC))) ((uC 13 0) + 1)) dX1_openEpoch_43 ?_
  have e0 := Option.some.inj hf
  exact mk_vret C hr hlk (by rw [← e0]) dX1_openEpoch_46
set_option maxHeartbeats 40000000 in
set_option maxRecDepth 100000 in
theorem c_S_topWho (l : Launch) (D : va_G) (cI cJ cB cZ cS : ClassId) (X : Nat → Nat) (Y : mk_Y) (aS : Nat → Nat) (uS : Nat → Nat → Int32) (r : Int32) (hf : f_S_topWho uS = some r) : mk_Met l yX6_topWho cX6_topWho 1 (some .int) ({ frames := 1, cells := 0, slots := 0, locals := 21 }) D (mk_TY cI cJ cB cZ cS) X Y [.ref (aS 0)] (wStack aS cI uS) (wStack aS cI uS) (some (.int r)) 0 0 := by
  refine mk_start (own := RX6) (by decide) rfl (Nat.le_of_ble_eq_true rfl) ?_
  intro sz p e s m args below meth c A C hr hlk hnm
  replace C : mk_Cx p s m args c cX6_topWho 1 RX6 D (mk_TY cI cJ cB cZ cS) X Y A := C
  show mk_Go p l e (headSpec (mk_ws yX6_topWho cX6_topWho 1 (some .int)) ({ frames := 1, cells := 0, slots := 0, locals := 21 })).room s m args below meth c D A 1 0 0 (MQ below (mk_Q (some (.int r)) D (wStack aS cI uS) A) args s 0 0 A) 0 (wStack aS cI uS) [(0, .ref (aS 0))] []
  unfold f_S_topWho at hf
  refine mk_aload_n C 0 dX6_topWho_0 rfl ?_
  refine mk_get C mk_inX6 0 rfl rfl 0 (by decide) mw_165 (v := .ref (aS 1)) rfl dX6_topWho_1 ?_
  refine mk_aload_n C 0 dX6_topWho_4 rfl ?_
  refine mk_get C mk_inX6 0 rfl rfl 3 (by decide) mw_170 (v := .int (uS 3 0)) rfl dX6_topWho_5 ?_
  refine mk_iconst C (v := 1) dX6_topWho_8 (by decide) ?_
  refine mk_isub C dX6_topWho_9 ?_
  refine mk_callNi C (c_at l D cI cJ cB cZ cS X Y (aS 1) 201 (uS 0) ((uS 3 0) - 1)) (List.mem_of_getElem? (i := 18) rfl) mw_377 mw_1 mw_378 mkn_X8_at rfl ⟨Nat.le_of_ble_eq_true rfl, Nat.le_of_ble_eq_true rfl⟩ (mk_Fr.at (q := 1) rfl) (Nat.le_of_ble_eq_true rfl) dX6_topWho_10 rfl ?_
  have e0 := Option.some.inj hf
  exact mk_iret C hr hlk e0 rfl dX6_topWho_13
set_option maxHeartbeats 40000000 in
set_option maxRecDepth 100000 in
theorem c_S_pop (l : Launch) (D : va_G) (cI cJ cB cZ cS : ClassId) (X : Nat → Nat) (Y : mk_Y) (aS : Nat → Nat) (uS : Nat → Nat → Int32) (wS : Nat → Nat → Int32) (hf : f_S_pop uS = some wS) : mk_Met l yX6_pop cX6_pop 1 none ({ frames := 0, cells := 0, slots := 0, locals := 0 }) D (mk_TY cI cJ cB cZ cS) X Y [.ref (aS 0)] (wStack aS cI uS) (wStack aS cI wS) none 0 0 := by
  refine mk_start (own := RX6) (by decide) rfl (Nat.le_of_ble_eq_true rfl) ?_
  intro sz p e s m args below meth c A C hr hlk hnm
  replace C : mk_Cx p s m args c cX6_pop 1 RX6 D (mk_TY cI cJ cB cZ cS) X Y A := C
  show mk_Go p l e (headSpec (mk_ws yX6_pop cX6_pop 1 none) ({ frames := 0, cells := 0, slots := 0, locals := 0 })).room s m args below meth c D A 1 0 0 (MQ below (mk_Q none D (wStack aS cI wS) A) args s 0 0 A) 0 (wStack aS cI uS) [(0, .ref (aS 0))] []
  unfold f_S_pop at hf
  refine mk_aload_n C 0 dX6_pop_0 rfl ?_
  refine mk_get C mk_inX6 0 rfl rfl 3 (by decide) mw_170 (v := .int (uS 3 0)) rfl dX6_pop_1 ?_
  refine mk_if_le C 17 dX6_pop_4 (by decide) (fun c1 => ?_) (fun c1 => ?_)
  · replace hf := (if_pos c1).symm.trans hf
    have e0 := Option.some.inj hf
    exact mk_vret C hr hlk (by rw [← e0]) dX6_pop_17
  · replace hf := (if_neg c1).symm.trans hf
    refine mk_aload_n C 0 dX6_pop_7 rfl ?_
    refine mk_dup C dX6_pop_8 rfl ?_
    refine mk_get C mk_inX6 0 rfl rfl 3 (by decide) mw_170 (v := .int (uS 3 0)) rfl dX6_pop_9 ?_
    refine mk_iconst C (v := 1) dX6_pop_12 (by decide) ?_
    refine mk_isub C dX6_pop_13 ?_
    refine mk_put C mk_inX6 tyX6 tyX6_ok nmX6 0 rfl rfl 3 (by decide) mw_170 rfl rfl rfl (Nat.le_of_ble_eq_true rfl) (ws' := (wStack aS cI (upF 3 ((uS 3 0) - 1) uS))) (st_S_S_3 cI cJ aS uS ((uS 3 0) - 1)) dX6_pop_14 ?_
    have e0 := Option.some.inj hf
    exact mk_vret C hr hlk (by rw [← e0]) dX6_pop_17
set_option maxHeartbeats 40000000 in
set_option maxRecDepth 100000 in
theorem c_P_hasSlot (l : Launch) (D : va_G) (cI cJ cB cZ cS : ClassId) (X : Nat → Nat) (Y : mk_Y) (aP : Nat → Nat) (uP : Nat → Nat → Int32) (p1 : Int32) (r : Int32) (hf : f_P_hasSlot uP p1 = some r) : mk_Met l yX3_hasSlot cX3_hasSlot 2 (some .boolean) ({ frames := 0, cells := 0, slots := 0, locals := 0 }) D (mk_TY cI cJ cB cZ cS) X Y [.ref (aP 0), .int p1] (wPlan aP cI uP) (wPlan aP cI uP) (some (.int r)) 0 0 := by
  refine mk_start (own := RX3) (by decide) rfl (Nat.le_of_ble_eq_true rfl) ?_
  intro sz p e s m args below meth c A C hr hlk hnm
  replace C : mk_Cx p s m args c cX3_hasSlot 2 RX3 D (mk_TY cI cJ cB cZ cS) X Y A := C
  show mk_Go p l e (headSpec (mk_ws yX3_hasSlot cX3_hasSlot 2 (some .boolean)) ({ frames := 0, cells := 0, slots := 0, locals := 0 })).room s m args below meth c D A 2 0 0 (MQ below (mk_Q (some (.int r)) D (wPlan aP cI uP) A) args s 0 0 A) 0 (wPlan aP cI uP) [(0, .ref (aP 0)), (1, .int p1)] []
  unfold f_P_hasSlot at hf
  refine mk_iload_n C 1 dX3_hasSlot_0 rfl ?_
  refine mk_if_lt C 16 dX3_hasSlot_1 (by decide) (fun c1 => ?_) (fun c1 => ?_)
  · replace hf := (if_pos c1).symm.trans hf
    refine mk_iconst C (v := 0) dX3_hasSlot_16 (by decide) ?_
    have e0 := Option.some.inj hf
    exact mk_zret C hr hlk rfl e0 rfl dX3_hasSlot_17
  · replace hf := (if_neg c1).symm.trans hf
    refine mk_iload_n C 1 dX3_hasSlot_4 rfl ?_
    refine mk_aload_n C 0 dX3_hasSlot_5 rfl ?_
    refine mk_get C mk_inX3 0 rfl rfl 1 (by decide) mw_64 (v := .int (uP 1 0)) rfl dX3_hasSlot_6 ?_
    refine mk_icmp_ge C 16 dX3_hasSlot_9 (by decide) (fun c2 => ?_) (fun c2 => ?_)
    · replace hf := (if_pos c2).symm.trans hf
      refine mk_iconst C (v := 0) dX3_hasSlot_16 (by decide) ?_
      have e0 := Option.some.inj hf
      exact mk_zret C hr hlk rfl e0 rfl dX3_hasSlot_17
    · replace hf := (if_neg c2).symm.trans hf
      refine mk_iconst C (v := 1) dX3_hasSlot_12 (by decide) ?_
      refine mk_goto C 17 dX3_hasSlot_13 (by decide) ?_
      have e0 := Option.some.inj hf
      exact mk_zret C hr hlk rfl e0 rfl dX3_hasSlot_17
set_option maxHeartbeats 40000000 in
set_option maxRecDepth 100000 in
theorem c_P_hasSender (l : Launch) (D : va_G) (cI cJ cB cZ cS : ClassId) (X : Nat → Nat) (Y : mk_Y) (aP : Nat → Nat) (uP : Nat → Nat → Int32) (p1 : Int32) (r : Int32) (hf : f_P_hasSender uP p1 = some r) : mk_Met l yX3_hasSender cX3_hasSender 2 (some .boolean) ({ frames := 0, cells := 0, slots := 0, locals := 0 }) D (mk_TY cI cJ cB cZ cS) X Y [.ref (aP 0), .int p1] (wPlan aP cI uP) (wPlan aP cI uP) (some (.int r)) 0 0 := by
  refine mk_start (own := RX3) (by decide) rfl (Nat.le_of_ble_eq_true rfl) ?_
  intro sz p e s m args below meth c A C hr hlk hnm
  replace C : mk_Cx p s m args c cX3_hasSender 2 RX3 D (mk_TY cI cJ cB cZ cS) X Y A := C
  show mk_Go p l e (headSpec (mk_ws yX3_hasSender cX3_hasSender 2 (some .boolean)) ({ frames := 0, cells := 0, slots := 0, locals := 0 })).room s m args below meth c D A 2 0 0 (MQ below (mk_Q (some (.int r)) D (wPlan aP cI uP) A) args s 0 0 A) 0 (wPlan aP cI uP) [(0, .ref (aP 0)), (1, .int p1)] []
  unfold f_P_hasSender at hf
  refine mk_iload_n C 1 dX3_hasSender_0 rfl ?_
  refine mk_if_lt C 16 dX3_hasSender_1 (by decide) (fun c1 => ?_) (fun c1 => ?_)
  · replace hf := (if_pos c1).symm.trans hf
    refine mk_iconst C (v := 0) dX3_hasSender_16 (by decide) ?_
    have e0 := Option.some.inj hf
    exact mk_zret C hr hlk rfl e0 rfl dX3_hasSender_17
  · replace hf := (if_neg c1).symm.trans hf
    refine mk_iload_n C 1 dX3_hasSender_4 rfl ?_
    refine mk_aload_n C 0 dX3_hasSender_5 rfl ?_
    refine mk_get C mk_inX3 0 rfl rfl 5 (by decide) mw_79 (v := .int (uP 5 0)) rfl dX3_hasSender_6 ?_
    refine mk_icmp_ge C 16 dX3_hasSender_9 (by decide) (fun c2 => ?_) (fun c2 => ?_)
    · replace hf := (if_pos c2).symm.trans hf
      refine mk_iconst C (v := 0) dX3_hasSender_16 (by decide) ?_
      have e0 := Option.some.inj hf
      exact mk_zret C hr hlk rfl e0 rfl dX3_hasSender_17
    · replace hf := (if_neg c2).symm.trans hf
      refine mk_iconst C (v := 1) dX3_hasSender_12 (by decide) ?_
      refine mk_goto C 17 dX3_hasSender_13 (by decide) ?_
      have e0 := Option.some.inj hf
      exact mk_zret C hr hlk rfl e0 rfl dX3_hasSender_17
set_option maxHeartbeats 40000000 in
set_option maxRecDepth 100000 in
theorem c_P_stands (l : Launch) (D : va_G) (cI cJ cB cZ cS : ClassId) (X : Nat → Nat) (Y : mk_Y) (aP : Nat → Nat) (uP : Nat → Nat → Int32) (r : Int32) (hf : f_P_stands uP = some r) : mk_Met l yX3_stands cX3_stands 1 (some .boolean) ({ frames := 0, cells := 0, slots := 0, locals := 0 }) D (mk_TY cI cJ cB cZ cS) X Y [.ref (aP 0)] (wPlan aP cI uP) (wPlan aP cI uP) (some (.int r)) 0 0 := by
  refine mk_start (own := RX3) (by decide) rfl (Nat.le_of_ble_eq_true rfl) ?_
  intro sz p e s m args below meth c A C hr hlk hnm
  replace C : mk_Cx p s m args c cX3_stands 1 RX3 D (mk_TY cI cJ cB cZ cS) X Y A := C
  show mk_Go p l e (headSpec (mk_ws yX3_stands cX3_stands 1 (some .boolean)) ({ frames := 0, cells := 0, slots := 0, locals := 0 })).room s m args below meth c D A 1 0 0 (MQ below (mk_Q (some (.int r)) D (wPlan aP cI uP) A) args s 0 0 A) 0 (wPlan aP cI uP) [(0, .ref (aP 0))] []
  unfold f_P_stands at hf
  refine mk_aload_n C 0 dX3_stands_0 rfl ?_
  refine mk_get C mk_inX3 0 rfl rfl 1 (by decide) mw_64 (v := .int (uP 1 0)) rfl dX3_stands_1 ?_
  refine mk_if_le C 11 dX3_stands_4 (by decide) (fun c1 => ?_) (fun c1 => ?_)
  · replace hf := (if_pos c1).symm.trans hf
    refine mk_iconst C (v := 0) dX3_stands_11 (by decide) ?_
    have e0 := Option.some.inj hf
    exact mk_zret C hr hlk rfl e0 rfl dX3_stands_12
  · replace hf := (if_neg c1).symm.trans hf
    refine mk_iconst C (v := 1) dX3_stands_7 (by decide) ?_
    refine mk_goto C 12 dX3_stands_8 (by decide) ?_
    have e0 := Option.some.inj hf
    exact mk_zret C hr hlk rfl e0 rfl dX3_stands_12
set_option maxHeartbeats 40000000 in
set_option maxRecDepth 100000 in
theorem c_C_lastSlot (l : Launch) (D : va_G) (cI cJ cB cZ cS : ClassId) (X : Nat → Nat) (Y : mk_Y) (aC : Nat → Nat) (uC : Nat → Nat → Int32) (p1 : Int32) (r : Int32) (hf : f_C_lastSlot uC p1 = some r) : mk_Met l yX1_lastSlot cX1_lastSlot 2 (some .int) ({ frames := 1, cells := 0, slots := 0, locals := 21 }) D (mk_TY cI cJ cB cZ cS) X Y [.ref (aC 0), .int p1] (wCourse aC cI uC) (wCourse aC cI uC) (some (.int r)) 0 0 := by
  refine mk_start (own := RX1) (by decide) rfl (Nat.le_of_ble_eq_true rfl) ?_
  intro sz p e s m args below meth c A C hr hlk hnm
  replace C : mk_Cx p s m args c cX1_lastSlot 2 RX1 D (mk_TY cI cJ cB cZ cS) X Y A := C
  show mk_Go p l e (headSpec (mk_ws yX1_lastSlot cX1_lastSlot 2 (some .int)) ({ frames := 1, cells := 0, slots := 0, locals := 21 })).room s m args below meth c D A 2 0 0 (MQ below (mk_Q (some (.int r)) D (wCourse aC cI uC) A) args s 0 0 A) 0 (wCourse aC cI uC) [(0, .ref (aC 0)), (1, .int p1)] []
  unfold f_C_lastSlot at hf
  refine mk_iload_n C 1 dX1_lastSlot_0 rfl ?_
  refine mk_if_eq C 12 dX1_lastSlot_1 (by decide) (fun c1 => ?_) (fun c1 => ?_)
  · replace hf := (if_pos c1).symm.trans hf
    refine mk_iconst C (v := (-1)) dX1_lastSlot_12 (by decide) ?_
    have e0 := Option.some.inj hf
    exact mk_iret C hr hlk e0 rfl dX1_lastSlot_13
  · replace hf := (if_neg c1).symm.trans hf
    refine mk_aload_n C 0 dX1_lastSlot_4 rfl ?_
    refine mk_get C mk_inX1 0 rfl rfl 9 (by decide) mw_211 (v := .int (uC 9 0)) rfl dX1_lastSlot_5 ?_
    refine mk_iload_n C 1 dX1_lastSlot_8 rfl ?_
    refine mk_icmp_ge C 14 dX1_lastSlot_9 (by decide) (fun c2 => ?_) (fun c2 => ?_)
    · replace hf := (if_pos c2).symm.trans hf
      refine mk_aload_n C 0 dX1_lastSlot_14 rfl ?_
      refine mk_get C mk_inX1 0 rfl rfl 5 (by decide) mw_201 (v := .ref (aC 6)) rfl dX1_lastSlot_15 ?_
      refine mk_aload_n C 0 dX1_lastSlot_18 rfl ?_
      refine mk_get C mk_inX1 0 rfl rfl 8 (by decide) mw_209 (v := .ref (aC 9)) rfl dX1_lastSlot_19 ?_
      refine mk_aload_n C 0 dX1_lastSlot_22 rfl ?_
      refine mk_get C mk_inX1 0 rfl rfl 9 (by decide) mw_211 (v := .int (uC 9 0)) rfl dX1_lastSlot_23 ?_
      refine mk_iconst C (v := 1) dX1_lastSlot_26 (by decide) ?_
      refine mk_isub C dX1_lastSlot_27 ?_
      refine mk_callNi C (c_at l D cI cJ cB cZ cS X Y (aC 9) 10 (uC 8) ((uC 9 0) - 1)) (List.mem_of_getElem? (i := 19) rfl) mw_377 mw_1 mw_378 mkn_X8_at rfl ⟨Nat.le_of_ble_eq_true rfl, Nat.le_of_ble_eq_true rfl⟩ (mk_Fr.at (q := 9) rfl) (Nat.le_of_ble_eq_true rfl) dX1_lastSlot_28 rfl ?_
      refine mk_callNi C (c_at l D cI cJ cB cZ cS X Y (aC 6) 10 (uC 5) (mkAt 10 (uC 8) ((uC 9 0) - 1))) (List.mem_of_getElem? (i := 19) rfl) mw_377 mw_1 mw_378 mkn_X8_at rfl ⟨Nat.le_of_ble_eq_true rfl, Nat.le_of_ble_eq_true rfl⟩ (mk_Fr.at (q := 6) rfl) (Nat.le_of_ble_eq_true rfl) dX1_lastSlot_31 rfl ?_
      have e0 := Option.some.inj hf
      exact mk_iret C hr hlk e0 rfl dX1_lastSlot_34
    · replace hf := (if_neg c2).symm.trans hf
      refine mk_iconst C (v := (-1)) dX1_lastSlot_12 (by decide) ?_
      have e0 := Option.some.inj hf
      exact mk_iret C hr hlk e0 rfl dX1_lastSlot_13
set_option maxHeartbeats 40000000 in
set_option maxRecDepth 100000 in
theorem c_C_slotsHeard (l : Launch) (D : va_G) (cI cJ cB cZ cS : ClassId) (X : Nat → Nat) (Y : mk_Y) (aC : Nat → Nat) (uC : Nat → Nat → Int32) (p1 : Int32) (p2 : Int32) (r : Int32) (hf : f_C_slotsHeard uC p1 p2 = some r) : mk_Met l yX1_slotsHeard cX1_slotsHeard 5 (some .int) ({ frames := 1, cells := 0, slots := 0, locals := 21 }) D (mk_TY cI cJ cB cZ cS) X Y [.ref (aC 0), .int p1, .int p2] (wCourse aC cI uC) (wCourse aC cI uC) (some (.int r)) 0 0 := by
  refine mk_start (own := RX1) (by decide) rfl (Nat.le_of_ble_eq_true rfl) ?_
  intro sz p e s m args below meth c A C hr hlk hnm
  replace C : mk_Cx p s m args c cX1_slotsHeard 5 RX1 D (mk_TY cI cJ cB cZ cS) X Y A := C
  have wL5 : ∀ (n : Nat) (v3 : Int32) (v4 : Int32), f_C_slotsHeard_5 uC p1 p2 n v3 v4 = some r → mk_Go p l e (headSpec (mk_ws yX1_slotsHeard cX1_slotsHeard 5 (some .int)) ({ frames := 1, cells := 0, slots := 0, locals := 21 })).room s m args below meth c D A 5 0 0 (MQ below (mk_Q (some (.int r)) D (wCourse aC cI uC) A) args s 0 0 A) 5 (wCourse aC cI uC) [(0, .ref (aC 0)), (1, .int p1), (2, .int p2), (3, .int v3), (4, .int v4)] [] := by
    intro  n
    induction n with
    | zero => intro v3 v4 hf; exact nomatch (show (none : Option (Int32)) = some _ from hf)
    | succ n ih =>
      intro v3 v4 hf
      rw [f_C_slotsHeard_5] at hf
      refine mk_iload C 4 dX1_slotsHeard_5 rfl ?_
      refine mk_iload_n C 2 dX1_slotsHeard_7 rfl ?_
      refine mk_icmp_ge C 33 dX1_slotsHeard_8 (by decide) (fun c1 => ?_) (fun c1 => ?_)
      · replace hf := (if_pos c1).symm.trans hf
        refine mk_iload_n C 3 dX1_slotsHeard_33 rfl ?_
        have e0 := Option.some.inj hf
        exact mk_iret C hr hlk e0 rfl dX1_slotsHeard_34
      · replace hf := (if_neg c1).symm.trans hf
        refine mk_aload_n C 0 dX1_slotsHeard_11 rfl ?_
        refine mk_get C mk_inX1 0 rfl rfl 1 (by decide) mw_190 (v := .ref (aC 2)) rfl dX1_slotsHeard_12 ?_
        refine mk_iload C 4 dX1_slotsHeard_15 rfl ?_
        refine mk_callNi C (c_at l D cI cJ cB cZ cS X Y (aC 2) 200 (uC 1) v4) (List.mem_of_getElem? (i := 19) rfl) mw_377 mw_1 mw_378 mkn_X8_at rfl ⟨Nat.le_of_ble_eq_true rfl, Nat.le_of_ble_eq_true rfl⟩ (mk_Fr.at (q := 2) rfl) (Nat.le_of_ble_eq_true rfl) dX1_slotsHeard_17 rfl ?_
        refine mk_iload_n C 1 dX1_slotsHeard_20 rfl ?_
        refine mk_icmp_ne C 27 dX1_slotsHeard_21 (by decide) (fun c2 => ?_) (fun c2 => ?_)
        · replace hf := (if_neg c2).symm.trans hf
          refine mk_iinc C (v := (v4 + 1)) (lv' := [(4, .int (v4 + 1)), (0, .ref (aC 0)), (1, .int p1), (2, .int p2), (3, .int v3)]) 4 dX1_slotsHeard_27 rfl rfl (by decide) rfl ?_
          refine mk_goto C 5 dX1_slotsHeard_30 (by decide) ?_
          exact mk_lvsub [1, 2, 3, 4, 0] rfl (ih _ _ hf)
        · replace hf := (if_pos c2).symm.trans hf
          refine mk_iinc C (v := (v3 + 1)) (lv' := [(3, .int (v3 + 1)), (0, .ref (aC 0)), (1, .int p1), (2, .int p2), (4, .int v4)]) 3 dX1_slotsHeard_24 rfl rfl (by decide) rfl ?_
          refine mk_iinc C (v := (v4 + 1)) (lv' := [(4, .int (v4 + 1)), (3, .int (v3 + 1)), (0, .ref (aC 0)), (1, .int p1), (2, .int p2)]) 4 dX1_slotsHeard_27 rfl rfl (by decide) rfl ?_
          refine mk_goto C 5 dX1_slotsHeard_30 (by decide) ?_
          exact mk_lvsub [2, 3, 4, 1, 0] rfl (ih _ _ hf)
  show mk_Go p l e (headSpec (mk_ws yX1_slotsHeard cX1_slotsHeard 5 (some .int)) ({ frames := 1, cells := 0, slots := 0, locals := 21 })).room s m args below meth c D A 5 0 0 (MQ below (mk_Q (some (.int r)) D (wCourse aC cI uC) A) args s 0 0 A) 0 (wCourse aC cI uC) [(0, .ref (aC 0)), (1, .int p1), (2, .int p2)] []
  unfold f_C_slotsHeard at hf
  refine mk_iconst C (v := 0) dX1_slotsHeard_0 (by decide) ?_
  refine mk_istore_n C (lv' := [(3, .int 0), (0, .ref (aC 0)), (1, .int p1), (2, .int p2)]) dX1_slotsHeard_1 (by decide) rfl ?_
  refine mk_iconst C (v := 0) dX1_slotsHeard_2 (by decide) ?_
  refine mk_istore C (lv' := [(4, .int 0), (3, .int 0), (0, .ref (aC 0)), (1, .int p1), (2, .int p2)]) dX1_slotsHeard_3 (by decide) rfl ?_
  exact mk_lvsub [2, 3, 4, 1, 0] rfl (wL5 600 _ _ hf)
set_option maxHeartbeats 40000000 in
set_option maxRecDepth 100000 in
theorem c_C_collisions (l : Launch) (D : va_G) (cI cJ cB cZ cS : ClassId) (X : Nat → Nat) (Y : mk_Y) (aC : Nat → Nat) (uC : Nat → Nat → Int32) (p1 : Int32) (r : Int32) (hf : f_C_collisions uC p1 = some r) : mk_Met l yX1_collisions cX1_collisions 4 (some .int) ({ frames := 1, cells := 0, slots := 0, locals := 21 }) D (mk_TY cI cJ cB cZ cS) X Y [.ref (aC 0), .int p1] (wCourse aC cI uC) (wCourse aC cI uC) (some (.int r)) 0 0 := by
  refine mk_start (own := RX1) (by decide) rfl (Nat.le_of_ble_eq_true rfl) ?_
  intro sz p e s m args below meth c A C hr hlk hnm
  replace C : mk_Cx p s m args c cX1_collisions 4 RX1 D (mk_TY cI cJ cB cZ cS) X Y A := C
  have wL4 : ∀ (n : Nat) (v2 : Int32) (v3 : Int32), f_C_collisions_4 uC p1 n v2 v3 = some r → mk_Go p l e (headSpec (mk_ws yX1_collisions cX1_collisions 4 (some .int)) ({ frames := 1, cells := 0, slots := 0, locals := 21 })).room s m args below meth c D A 4 0 0 (MQ below (mk_Q (some (.int r)) D (wCourse aC cI uC) A) args s 0 0 A) 4 (wCourse aC cI uC) [(0, .ref (aC 0)), (1, .int p1), (2, .int v2), (3, .int v3)] [] := by
    intro  n
    induction n with
    | zero => intro v2 v3 hf; exact nomatch (show (none : Option (Int32)) = some _ from hf)
    | succ n ih =>
      intro v2 v3 hf
      rw [f_C_collisions_4] at hf
      refine mk_iload_n C 3 dX1_collisions_4 rfl ?_
      refine mk_iload_n C 1 dX1_collisions_5 rfl ?_
      refine mk_icmp_ge C 33 dX1_collisions_6 (by decide) (fun c1 => ?_) (fun c1 => ?_)
      · replace hf := (if_pos c1).symm.trans hf
        refine mk_iload_n C 2 dX1_collisions_33 rfl ?_
        have e0 := Option.some.inj hf
        exact mk_iret C hr hlk e0 rfl dX1_collisions_34
      · replace hf := (if_neg c1).symm.trans hf
        refine mk_aload_n C 0 dX1_collisions_9 rfl ?_
        refine mk_get C mk_inX1 0 rfl rfl 0 (by decide) mw_187 (v := .ref (aC 1)) rfl dX1_collisions_10 ?_
        refine mk_iload_n C 3 dX1_collisions_13 rfl ?_
        refine mk_callNi C (c_at l D cI cJ cB cZ cS X Y (aC 1) 200 (uC 0) v3) (List.mem_of_getElem? (i := 19) rfl) mw_377 mw_1 mw_378 mkn_X8_at rfl ⟨Nat.le_of_ble_eq_true rfl, Nat.le_of_ble_eq_true rfl⟩ (mk_Fr.at (q := 1) rfl) (Nat.le_of_ble_eq_true rfl) dX1_collisions_14 rfl ?_
        refine mk_callSi C (c_bits l D cI cJ cB cZ cS X Y (mkAt 200 (uC 0) v3)) mw_649 mw_540 mw_22 mw_541 mkn_J6_bitCount_0f7a4 rfl ⟨Nat.le_of_ble_eq_true rfl, Nat.le_of_ble_eq_true rfl⟩ (mk_Fr.nil _) (Nat.le_of_ble_eq_true rfl) dX1_collisions_17 rfl ?_
        refine mk_iconst C (v := 1) dX1_collisions_20 (by decide) ?_
        refine mk_icmp_le C 27 dX1_collisions_21 (by decide) (fun c2 => ?_) (fun c2 => ?_)
        · replace hf := (if_pos c2).symm.trans hf
          refine mk_iinc C (v := (v3 + 1)) (lv' := [(3, .int (v3 + 1)), (0, .ref (aC 0)), (1, .int p1), (2, .int v2)]) 3 dX1_collisions_27 rfl rfl (by decide) rfl ?_
          refine mk_goto C 4 dX1_collisions_30 (by decide) ?_
          exact mk_lvsub [1, 2, 3, 0] rfl (ih _ _ hf)
        · replace hf := (if_neg c2).symm.trans hf
          refine mk_iinc C (v := (v2 + 1)) (lv' := [(2, .int (v2 + 1)), (0, .ref (aC 0)), (1, .int p1), (3, .int v3)]) 2 dX1_collisions_24 rfl rfl (by decide) rfl ?_
          refine mk_iinc C (v := (v3 + 1)) (lv' := [(3, .int (v3 + 1)), (2, .int (v2 + 1)), (0, .ref (aC 0)), (1, .int p1)]) 3 dX1_collisions_27 rfl rfl (by decide) rfl ?_
          refine mk_goto C 4 dX1_collisions_30 (by decide) ?_
          exact mk_lvsub [2, 3, 1, 0] rfl (ih _ _ hf)
  show mk_Go p l e (headSpec (mk_ws yX1_collisions cX1_collisions 4 (some .int)) ({ frames := 1, cells := 0, slots := 0, locals := 21 })).room s m args below meth c D A 4 0 0 (MQ below (mk_Q (some (.int r)) D (wCourse aC cI uC) A) args s 0 0 A) 0 (wCourse aC cI uC) [(0, .ref (aC 0)), (1, .int p1)] []
  unfold f_C_collisions at hf
  refine mk_iconst C (v := 0) dX1_collisions_0 (by decide) ?_
  refine mk_istore_n C (lv' := [(2, .int 0), (0, .ref (aC 0)), (1, .int p1)]) dX1_collisions_1 (by decide) rfl ?_
  refine mk_iconst C (v := 0) dX1_collisions_2 (by decide) ?_
  refine mk_istore_n C (lv' := [(3, .int 0), (2, .int 0), (0, .ref (aC 0)), (1, .int p1)]) dX1_collisions_3 (by decide) rfl ?_
  exact mk_lvsub [2, 3, 1, 0] rfl (wL4 600 _ _ hf)
set_option maxHeartbeats 40000000 in
set_option maxRecDepth 100000 in
theorem c_C_skipsMade (l : Launch) (D : va_G) (cI cJ cB cZ cS : ClassId) (X : Nat → Nat) (Y : mk_Y) (aC : Nat → Nat) (uC : Nat → Nat → Int32) (p1 : Int32) (r : Int32) (hf : f_C_skipsMade uC p1 = some r) : mk_Met l yX1_skipsMade cX1_skipsMade 4 (some .int) ({ frames := 1, cells := 0, slots := 0, locals := 21 }) D (mk_TY cI cJ cB cZ cS) X Y [.ref (aC 0), .int p1] (wCourse aC cI uC) (wCourse aC cI uC) (some (.int r)) 0 0 := by
  refine mk_start (own := RX1) (by decide) rfl (Nat.le_of_ble_eq_true rfl) ?_
  intro sz p e s m args below meth c A C hr hlk hnm
  replace C : mk_Cx p s m args c cX1_skipsMade 4 RX1 D (mk_TY cI cJ cB cZ cS) X Y A := C
  have wL4 : ∀ (n : Nat) (v2 : Int32) (v3 : Int32), f_C_skipsMade_4 uC p1 n v2 v3 = some r → mk_Go p l e (headSpec (mk_ws yX1_skipsMade cX1_skipsMade 4 (some .int)) ({ frames := 1, cells := 0, slots := 0, locals := 21 })).room s m args below meth c D A 4 0 0 (MQ below (mk_Q (some (.int r)) D (wCourse aC cI uC) A) args s 0 0 A) 4 (wCourse aC cI uC) [(0, .ref (aC 0)), (1, .int p1), (2, .int v2), (3, .int v3)] [] := by
    intro  n
    induction n with
    | zero => intro v2 v3 hf; exact nomatch (show (none : Option (Int32)) = some _ from hf)
    | succ n ih =>
      intro v2 v3 hf
      rw [f_C_skipsMade_4] at hf
      refine mk_iload_n C 3 dX1_skipsMade_4 rfl ?_
      refine mk_iload_n C 1 dX1_skipsMade_5 rfl ?_
      refine mk_icmp_ge C 26 dX1_skipsMade_6 (by decide) (fun c1 => ?_) (fun c1 => ?_)
      · replace hf := (if_pos c1).symm.trans hf
        refine mk_iload_n C 2 dX1_skipsMade_26 rfl ?_
        have e0 := Option.some.inj hf
        exact mk_iret C hr hlk e0 rfl dX1_skipsMade_27
      · replace hf := (if_neg c1).symm.trans hf
        refine mk_iload_n C 2 dX1_skipsMade_9 rfl ?_
        refine mk_aload_n C 0 dX1_skipsMade_10 rfl ?_
        refine mk_get C mk_inX1 0 rfl rfl 4 (by decide) mw_198 (v := .ref (aC 5)) rfl dX1_skipsMade_11 ?_
        refine mk_iload_n C 3 dX1_skipsMade_14 rfl ?_
        refine mk_callNi C (c_at l D cI cJ cB cZ cS X Y (aC 5) 200 (uC 4) v3) (List.mem_of_getElem? (i := 19) rfl) mw_377 mw_1 mw_378 mkn_X8_at rfl ⟨Nat.le_of_ble_eq_true rfl, Nat.le_of_ble_eq_true rfl⟩ (mk_Fr.at (q := 5) rfl) (Nat.le_of_ble_eq_true rfl) dX1_skipsMade_15 rfl ?_
        refine mk_iadd C dX1_skipsMade_18 ?_
        refine mk_istore_n C (lv' := [(2, .int (v2 + (mkAt 200 (uC 4) v3))), (0, .ref (aC 0)), (1, .int p1), (3, .int v3)]) dX1_skipsMade_19 (by decide) rfl ?_
        refine mk_iinc C (v := (v3 + 1)) (lv' := [(3, .int (v3 + 1)), (2, .int (v2 + (mkAt 200 (uC 4) v3))), (0, .ref (aC 0)), (1, .int p1)]) 3 dX1_skipsMade_20 rfl rfl (by decide) rfl ?_
        refine mk_goto C 4 dX1_skipsMade_23 (by decide) ?_
        exact mk_lvsub [2, 3, 1, 0] rfl (ih _ _ hf)
  show mk_Go p l e (headSpec (mk_ws yX1_skipsMade cX1_skipsMade 4 (some .int)) ({ frames := 1, cells := 0, slots := 0, locals := 21 })).room s m args below meth c D A 4 0 0 (MQ below (mk_Q (some (.int r)) D (wCourse aC cI uC) A) args s 0 0 A) 0 (wCourse aC cI uC) [(0, .ref (aC 0)), (1, .int p1)] []
  unfold f_C_skipsMade at hf
  refine mk_iconst C (v := 0) dX1_skipsMade_0 (by decide) ?_
  refine mk_istore_n C (lv' := [(2, .int 0), (0, .ref (aC 0)), (1, .int p1)]) dX1_skipsMade_1 (by decide) rfl ?_
  refine mk_iconst C (v := 0) dX1_skipsMade_2 (by decide) ?_
  refine mk_istore_n C (lv' := [(3, .int 0), (2, .int 0), (0, .ref (aC 0)), (1, .int p1)]) dX1_skipsMade_3 (by decide) rfl ?_
  exact mk_lvsub [2, 3, 1, 0] rfl (wL4 600 _ _ hf)
set_option maxHeartbeats 40000000 in
set_option maxRecDepth 100000 in
theorem c_C_greatestDepth (l : Launch) (D : va_G) (cI cJ cB cZ cS : ClassId) (X : Nat → Nat) (Y : mk_Y) (aC : Nat → Nat) (uC : Nat → Nat → Int32) (p1 : Int32) (r : Int32) (hf : f_C_greatestDepth uC p1 = some r) : mk_Met l yX1_greatestDepth cX1_greatestDepth 4 (some .int) ({ frames := 1, cells := 0, slots := 0, locals := 23 }) D (mk_TY cI cJ cB cZ cS) X Y [.ref (aC 0), .int p1] (wCourse aC cI uC) (wCourse aC cI uC) (some (.int r)) 0 0 := by
  refine mk_start (own := RX1) (by decide) rfl (Nat.le_of_ble_eq_true rfl) ?_
  intro sz p e s m args below meth c A C hr hlk hnm
  replace C : mk_Cx p s m args c cX1_greatestDepth 4 RX1 D (mk_TY cI cJ cB cZ cS) X Y A := C
  have wL4 : ∀ (n : Nat) (v2 : Int32) (v3 : Int32), f_C_greatestDepth_4 uC p1 n v2 v3 = some r → mk_Go p l e (headSpec (mk_ws yX1_greatestDepth cX1_greatestDepth 4 (some .int)) ({ frames := 1, cells := 0, slots := 0, locals := 23 })).room s m args below meth c D A 4 0 0 (MQ below (mk_Q (some (.int r)) D (wCourse aC cI uC) A) args s 0 0 A) 4 (wCourse aC cI uC) [(0, .ref (aC 0)), (1, .int p1), (2, .int v2), (3, .int v3)] [] := by
    intro  n
    induction n with
    | zero => intro v2 v3 hf; exact nomatch (show (none : Option (Int32)) = some _ from hf)
    | succ n ih =>
      intro v2 v3 hf
      rw [f_C_greatestDepth_4] at hf
      refine mk_iload_n C 3 dX1_greatestDepth_4 rfl ?_
      refine mk_iload_n C 1 dX1_greatestDepth_5 rfl ?_
      refine mk_icmp_ge C 28 dX1_greatestDepth_6 (by decide) (fun c1 => ?_) (fun c1 => ?_)
      · replace hf := (if_pos c1).symm.trans hf
        refine mk_iload_n C 2 dX1_greatestDepth_28 rfl ?_
        have e0 := Option.some.inj hf
        exact mk_iret C hr hlk e0 rfl dX1_greatestDepth_29
      · replace hf := (if_neg c1).symm.trans hf
        refine mk_iload_n C 2 dX1_greatestDepth_9 rfl ?_
        refine mk_aload_n C 0 dX1_greatestDepth_10 rfl ?_
        refine mk_get C mk_inX1 0 rfl rfl 3 (by decide) mw_195 (v := .ref (aC 4)) rfl dX1_greatestDepth_11 ?_
        refine mk_iload_n C 3 dX1_greatestDepth_14 rfl ?_
        refine mk_callNi C (c_at l D cI cJ cB cZ cS X Y (aC 4) 200 (uC 3) v3) (List.mem_of_getElem? (i := 19) rfl) mw_377 mw_1 mw_378 mkn_X8_at rfl ⟨Nat.le_of_ble_eq_true rfl, Nat.le_of_ble_eq_true rfl⟩ (mk_Fr.at (q := 4) rfl) (Nat.le_of_ble_eq_true rfl) dX1_greatestDepth_15 rfl ?_
        refine mk_mmax C mw_1025 mw_567 mw_16 mw_568 ⟨Nat.le_of_ble_eq_true rfl, Nat.le_of_ble_eq_true rfl⟩ ⟨Nat.zero_le _, Nat.zero_le _⟩ dX1_greatestDepth_18 ?_
        refine mk_istore_n C (lv' := [(2, .int (if v2 < (mkAt 200 (uC 3) v3) then (mkAt 200 (uC 3) v3) else v2)), (0, .ref (aC 0)), (1, .int p1), (3, .int v3)]) dX1_greatestDepth_21 (by decide) rfl ?_
        refine mk_iinc C (v := (v3 + 1)) (lv' := [(3, .int (v3 + 1)), (2, .int (if v2 < (mkAt 200 (uC 3) v3) then (mkAt 200 (uC 3) v3) else v2)), (0, .ref (aC 0)), (1, .int p1)]) 3 dX1_greatestDepth_22 rfl rfl (by decide) rfl ?_
        refine mk_goto C 4 dX1_greatestDepth_25 (by decide) ?_
        exact mk_lvsub [2, 3, 1, 0] rfl (ih _ _ hf)
  show mk_Go p l e (headSpec (mk_ws yX1_greatestDepth cX1_greatestDepth 4 (some .int)) ({ frames := 1, cells := 0, slots := 0, locals := 23 })).room s m args below meth c D A 4 0 0 (MQ below (mk_Q (some (.int r)) D (wCourse aC cI uC) A) args s 0 0 A) 0 (wCourse aC cI uC) [(0, .ref (aC 0)), (1, .int p1)] []
  unfold f_C_greatestDepth at hf
  refine mk_iconst C (v := 0) dX1_greatestDepth_0 (by decide) ?_
  refine mk_istore_n C (lv' := [(2, .int 0), (0, .ref (aC 0)), (1, .int p1)]) dX1_greatestDepth_1 (by decide) rfl ?_
  refine mk_iconst C (v := 0) dX1_greatestDepth_2 (by decide) ?_
  refine mk_istore_n C (lv' := [(3, .int 0), (2, .int 0), (0, .ref (aC 0)), (1, .int p1)]) dX1_greatestDepth_3 (by decide) rfl ?_
  exact mk_lvsub [2, 3, 1, 0] rfl (wL4 600 _ _ hf)
set_option maxHeartbeats 40000000 in
set_option maxRecDepth 100000 in
theorem c_A_note (l : Launch) (D : va_G) (cI cJ cB cZ cS : ClassId) (X : Nat → Nat) (Y : mk_Y) (aA : Nat → Nat) (uA : Nat → Nat → Int32) (p1 : Int32) (p2 : Int32) (wA : Nat → Nat → Int32) (hf : f_A_note uA p1 p2 = some wA) : mk_Met l yX0_note cX0_note 3 none ({ frames := 1, cells := 0, slots := 0, locals := 22 }) D (mk_TY cI cJ cB cZ cS) X Y [.ref (aA 0), .int p1, .int p2] (wActs aA cI uA) (wActs aA cI wA) none 0 0 := by
  refine mk_start (own := RX0) (by decide) rfl (Nat.le_of_ble_eq_true rfl) ?_
  intro sz p e s m args below meth c A C hr hlk hnm
  replace C : mk_Cx p s m args c cX0_note 3 RX0 D (mk_TY cI cJ cB cZ cS) X Y A := C
  show mk_Go p l e (headSpec (mk_ws yX0_note cX0_note 3 none) ({ frames := 1, cells := 0, slots := 0, locals := 22 })).room s m args below meth c D A 3 0 0 (MQ below (mk_Q none D (wActs aA cI wA) A) args s 0 0 A) 0 (wActs aA cI uA) [(0, .ref (aA 0)), (1, .int p1), (2, .int p2)] []
  unfold f_A_note at hf
  refine mk_aload_n C 0 dX0_note_0 rfl ?_
  refine mk_get C mk_inX0 0 rfl rfl 0 (by decide) mw_300 (v := .ref (aA 1)) rfl dX0_note_1 ?_
  refine mk_aload_n C 0 dX0_note_4 rfl ?_
  refine mk_get C mk_inX0 0 rfl rfl 2 (by decide) mw_302 (v := .int (uA 2 0)) rfl dX0_note_5 ?_
  refine mk_iload_n C 1 dX0_note_8 rfl ?_
  refine mk_callNv C (c_put l D cI cJ cB cZ cS X Y (aA 1) 20 (uA 0) (uA 2 0) p1) (List.mem_of_getElem? (i := 20) rfl) mw_483 mw_1 mw_484 mkn_X8_put rfl ⟨Nat.le_of_ble_eq_true rfl, Nat.le_of_ble_eq_true rfl⟩ (mk_Fr.put (q := 1) (ws' := (wActs aA cI (upR 0 (mkPut 20 (uA 0) (uA 2 0) p1) uA))) rfl (st_A_A_0 cI cJ aA uA (mkPut 20 (uA 0) (uA 2 0) p1))) (Nat.le_of_ble_eq_true rfl) dX0_note_9 rfl ?_
  refine mk_aload_n C 0 dX0_note_12 rfl ?_
  refine mk_get C mk_inX0 0 rfl rfl 1 (by decide) mw_301 (v := .ref (aA 2)) rfl dX0_note_13 ?_
  refine mk_aload_n C 0 dX0_note_16 rfl ?_
  refine mk_get C mk_inX0 0 rfl rfl 2 (by decide) mw_302 (v := .int (uA 2 0)) rfl dX0_note_17 ?_
  refine mk_iload_n C 2 dX0_note_20 rfl ?_
  refine mk_callNv C (c_put l D cI cJ cB cZ cS X Y (aA 2) 20 (uA 1) (uA 2 0) p2) (List.mem_of_getElem? (i := 20) rfl) mw_483 mw_1 mw_484 mkn_X8_put rfl ⟨Nat.le_of_ble_eq_true rfl, Nat.le_of_ble_eq_true rfl⟩ (mk_Fr.put (q := 2) (ws' := (wActs aA cI (upR 1 (mkPut 20 (uA 1) (uA 2 0) p2) (upR 0 (mkPut 20 (uA 0) (uA 2 0) p1) uA)))) rfl (st_A_A_1 cI cJ aA (upR 0 (mkPut 20 (uA 0) (uA 2 0) p1) uA) (mkPut 20 (uA 1) (uA 2 0) p2))) (Nat.le_of_ble_eq_true rfl) dX0_note_21 rfl ?_
  refine mk_aload_n C 0 dX0_note_24 rfl ?_
  refine mk_dup C dX0_note_25 rfl ?_
  refine mk_get C mk_inX0 0 rfl rfl 2 (by decide) mw_302 (v := .int (uA 2 0)) rfl dX0_note_26 ?_
  refine mk_iconst C (v := 1) dX0_note_29 (by decide) ?_
  refine mk_iadd C dX0_note_30 ?_
  refine mk_put C mk_inX0 tyX0 tyX0_ok nmX0 0 rfl rfl 2 (by decide) mw_302 rfl rfl rfl (Nat.le_of_ble_eq_true rfl) (ws' := (wActs aA cI (upF 2 ((uA 2 0) + 1) (upR 1 (mkPut 20 (uA 1) (uA 2 0) p2) (upR 0 (mkPut 20 (uA 0) (uA 2 0) p1) uA))))) (st_A_A_2 cI cJ aA (upR 1 (mkPut 20 (uA 1) (uA 2 0) p2) (upR 0 (mkPut 20 (uA 0) (uA 2 0) p1) uA)) ((uA 2 0) + 1)) dX0_note_31 ?_
  have e0 := Option.some.inj hf
  exact mk_vret C hr hlk (by rw [← e0]) dX0_note_34
set_option maxHeartbeats 40000000 in
set_option maxRecDepth 100000 in
theorem c_A_takeBack (l : Launch) (D : va_G) (cI cJ cB cZ cS : ClassId) (X : Nat → Nat) (Y : mk_Y) (aA aP : Nat → Nat) (uA : Nat → Nat → Int32) (uP : Nat → Nat → Int32) (wA : Nat → Nat → Int32) (wP : Nat → Nat → Int32) (hf : f_A_takeBack uA uP = some (wA, wP)) : mk_Met l yX0_takeBack cX0_takeBack 3 none ({ frames := 1, cells := 0, slots := 0, locals := 21 }) D (mk_TY cI cJ cB cZ cS) X Y [.ref (aA 0), .ref (aP 0)] (wActs aA cI uA ++ (wPlan aP cI uP)) (wActs aA cI wA ++ (wPlan aP cI wP)) none 0 0 := by
  refine mk_start (own := RX0) (by decide) rfl (Nat.le_of_ble_eq_true rfl) ?_
  intro sz p e s m args below meth c A C hr hlk hnm
  replace C : mk_Cx p s m args c cX0_takeBack 3 RX0 D (mk_TY cI cJ cB cZ cS) X Y A := C
  show mk_Go p l e (headSpec (mk_ws yX0_takeBack cX0_takeBack 3 none) ({ frames := 1, cells := 0, slots := 0, locals := 21 })).room s m args below meth c D A 3 0 0 (MQ below (mk_Q none D (wActs aA cI wA ++ (wPlan aP cI wP)) A) args s 0 0 A) 0 (wActs aA cI uA ++ (wPlan aP cI uP)) [(0, .ref (aA 0)), (1, .ref (aP 0))] []
  unfold f_A_takeBack at hf
  refine mk_aload_n C 0 dX0_takeBack_0 rfl ?_
  refine mk_get C mk_inX0 0 rfl rfl 2 (by decide) mw_302 (v := .int (uA 2 0)) rfl dX0_takeBack_1 ?_
  refine mk_if_ne C 8 dX0_takeBack_4 (by decide) (fun c1 => ?_) (fun c1 => ?_)
  · replace hf := (if_neg c1).symm.trans hf
    refine mk_aload_n C 0 dX0_takeBack_8 rfl ?_
    refine mk_dup C dX0_takeBack_9 rfl ?_
    refine mk_get C mk_inX0 0 rfl rfl 2 (by decide) mw_302 (v := .int (uA 2 0)) rfl dX0_takeBack_10 ?_
    refine mk_iconst C (v := 1) dX0_takeBack_13 (by decide) ?_
    refine mk_isub C dX0_takeBack_14 ?_
    refine mk_put C mk_inX0 tyX0 tyX0_ok nmX0 0 rfl rfl 2 (by decide) mw_302 rfl rfl rfl (Nat.le_of_ble_eq_true rfl) (ws' := (wActs aA cI (upF 2 ((uA 2 0) - 1) uA) ++ (wPlan aP cI uP))) (st_AP_A_2 cI cJ aA aP uA uP ((uA 2 0) - 1)) dX0_takeBack_15 ?_
    refine mk_aload_n C 0 dX0_takeBack_18 rfl ?_
    refine mk_get C mk_inX0 0 rfl rfl 0 (by decide) mw_300 (v := .ref (aA 1)) rfl dX0_takeBack_19 ?_
    refine mk_aload_n C 0 dX0_takeBack_22 rfl ?_
    refine mk_get C mk_inX0 0 rfl rfl 2 (by decide) mw_302 (v := .int ((uA 2 0) - 1)) rfl dX0_takeBack_23 ?_
    refine mk_callNi C (c_at l D cI cJ cB cZ cS X Y (aA 1) 20 (uA 0) ((uA 2 0) - 1)) (List.mem_of_getElem? (i := 21) rfl) mw_377 mw_1 mw_378 mkn_X8_at rfl ⟨Nat.le_of_ble_eq_true rfl, Nat.le_of_ble_eq_true rfl⟩ (mk_Fr.at (q := 1) rfl) (Nat.le_of_ble_eq_true rfl) dX0_takeBack_26 rfl ?_
    refine mk_istore_n C (lv' := [(2, .int (mkAt 20 (uA 0) ((uA 2 0) - 1))), (0, .ref (aA 0)), (1, .ref (aP 0))]) dX0_takeBack_29 (by decide) rfl ?_
    refine mk_iload_n C 0 dX0_takeBack_30 rfl ?_
    refine mk_if_ne C 47 dX0_takeBack_31 (by decide) (fun c2 => ?_) (fun c2 => ?_)
    · replace hf := (if_neg c2).symm.trans hf
      refine mk_iload_n C 0 dX0_takeBack_47 rfl ?_
      refine mk_iconst C (v := 1) dX0_takeBack_48 (by decide) ?_
      refine mk_icmp_ne C 65 dX0_takeBack_49 (by decide) (fun c3 => ?_) (fun c3 => ?_)
      · replace hf := (if_neg c3).symm.trans hf
        refine mk_aload_n C 2 dX0_takeBack_65 rfl ?_
        refine mk_aload_n C 1 dX0_takeBack_66 rfl ?_
        refine mk_get C mk_inX0 0 rfl rfl 1 (by decide) mw_301 (v := .ref (aA 2)) rfl dX0_takeBack_67 ?_
        refine mk_aload_n C 1 dX0_takeBack_70 rfl ?_
        refine mk_get C mk_inX0 0 rfl rfl 2 (by decide) mw_302 (v := .int ((uA 2 0) - 1)) rfl dX0_takeBack_71 ?_
        refine mk_callNi C (c_at l D cI cJ cB cZ cS X Y (aA 2) 20 (uA 1) ((uA 2 0) - 1)) (List.mem_of_getElem? (i := 21) rfl) mw_377 mw_1 mw_378 mkn_X8_at rfl ⟨Nat.le_of_ble_eq_true rfl, Nat.le_of_ble_eq_true rfl⟩ (mk_Fr.at (q := 2) rfl) (Nat.le_of_ble_eq_true rfl) dX0_takeBack_74 rfl ?_
        refine mk_put C mk_inX3 tyX3 tyX3_ok nmX3 3 rfl rfl 0 (by decide) mw_61 rfl rfl rfl (Nat.le_of_ble_eq_true rfl) (ws' := (wActs aA cI (upF 2 ((uA 2 0) - 1) uA) ++ (wPlan aP cI (upF 0 (mkAt 20 (uA 1) ((uA 2 0) - 1)) uP)))) (st_AP_P_0 cI cJ aA aP (upF 2 ((uA 2 0) - 1) uA) uP (mkAt 20 (uA 1) ((uA 2 0) - 1))) dX0_takeBack_77 ?_
        have e := Option.some.inj hf
        obtain ⟨e0, e1⟩ := Prod.mk.inj e
        exact mk_vret C hr hlk (by rw [← e0, ← e1]) dX0_takeBack_80
      · replace hf := (if_pos c3).symm.trans hf
        refine mk_aload_n C 2 dX0_takeBack_52 rfl ?_
        refine mk_dup C dX0_takeBack_53 rfl ?_
        refine mk_get C mk_inX3 3 rfl rfl 6 (by decide) mw_85 (v := .int (uP 6 0)) rfl dX0_takeBack_54 ?_
        refine mk_iconst C (v := 1) dX0_takeBack_57 (by decide) ?_
        refine mk_isub C dX0_takeBack_58 ?_
        refine mk_put C mk_inX3 tyX3 tyX3_ok nmX3 3 rfl rfl 6 (by decide) mw_85 rfl rfl rfl (Nat.le_of_ble_eq_true rfl) (ws' := (wActs aA cI (upF 2 ((uA 2 0) - 1) uA) ++ (wPlan aP cI (upF 6 ((uP 6 0) - 1) uP)))) (st_AP_P_6 cI cJ aA aP (upF 2 ((uA 2 0) - 1) uA) uP ((uP 6 0) - 1)) dX0_takeBack_59 ?_
        refine mk_goto C 80 dX0_takeBack_62 (by decide) ?_
        have e := Option.some.inj hf
        obtain ⟨e0, e1⟩ := Prod.mk.inj e
        exact mk_vret C hr hlk (by rw [← e0, ← e1]) dX0_takeBack_80
    · replace hf := (if_pos c2).symm.trans hf
      refine mk_aload_n C 2 dX0_takeBack_34 rfl ?_
      refine mk_dup C dX0_takeBack_35 rfl ?_
      refine mk_get C mk_inX3 3 rfl rfl 5 (by decide) mw_81 (v := .int (uP 5 0)) rfl dX0_takeBack_36 ?_
      refine mk_iconst C (v := 1) dX0_takeBack_39 (by decide) ?_
      refine mk_isub C dX0_takeBack_40 ?_
      refine mk_put C mk_inX3 tyX3 tyX3_ok nmX3 3 rfl rfl 5 (by decide) mw_81 rfl rfl rfl (Nat.le_of_ble_eq_true rfl) (ws' := (wActs aA cI (upF 2 ((uA 2 0) - 1) uA) ++ (wPlan aP cI (upF 5 ((uP 5 0) - 1) uP)))) (st_AP_P_5 cI cJ aA aP (upF 2 ((uA 2 0) - 1) uA) uP ((uP 5 0) - 1)) dX0_takeBack_41 ?_
      refine mk_goto C 80 dX0_takeBack_44 (by decide) ?_
      have e := Option.some.inj hf
      obtain ⟨e0, e1⟩ := Prod.mk.inj e
      exact mk_vret C hr hlk (by rw [← e0, ← e1]) dX0_takeBack_80
  · replace hf := (if_pos c1).symm.trans hf
    have e := Option.some.inj hf
    obtain ⟨e0, e1⟩ := Prod.mk.inj e
    exact mk_vret C hr hlk (by rw [← e0, ← e1]) dX0_takeBack_7
