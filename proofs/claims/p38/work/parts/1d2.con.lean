set_option maxHeartbeats 40000000 in
set_option maxRecDepth 100000 in
theorem c_Y_endEpoch (l : Launch) (D : va_G) (cI cJ cB cZ cS : ClassId) (X : Nat → Nat) (Y : mk_Y) (aY aP aS aC : Nat → Nat) (uY : Nat → Nat → Int32) (uP : Nat → Nat → Int32) (uS : Nat → Nat → Int32) (uC : Nat → Nat → Int32) (p1 : Int32) (wY : Nat → Nat → Int32) (wC : Nat → Nat → Int32) (hf : f_Y_endEpoch uY uP uC p1 = some (wY, wC)) : mk_Met l yX4_endEpoch cX4_endEpoch 4 none ({ frames := 2, cells := 0, slots := 0, locals := 42 }) D (mk_TY cI cJ cB cZ cS) X Y [.ref (aY 0), .int p1] (wPlay aY aP aS (aC 0) cI uY ++ (wPlan aP cI uP ++ (wStack aS cI uS ++ (wCourse aC cI uC)))) (wPlay aY aP aS (aC 0) cI wY ++ (wPlan aP cI uP ++ (wStack aS cI uS ++ (wCourse aC cI wC)))) none 0 0 := by
  refine mk_start (own := RX4) (by decide) rfl (Nat.le_of_ble_eq_true rfl) ?_
  intro sz p e s m args below meth c A C hr hlk hnm
  replace C : mk_Cx p s m args c cX4_endEpoch 4 RX4 D (mk_TY cI cJ cB cZ cS) X Y A := C
  have wL39 : ∀ (n : Nat) (v2 : Int32) (v3 : Int32) (uY : Nat → Nat → Int32) (uC : Nat → Nat → Int32), f_Y_endEpoch_39 uP p1 n v2 v3 uY uC = some (wY, wC) → mk_Go p l e (headSpec (mk_ws yX4_endEpoch cX4_endEpoch 4 none) ({ frames := 2, cells := 0, slots := 0, locals := 42 })).room s m args below meth c D A 4 0 0 (MQ below (mk_Q none D (wPlay aY aP aS (aC 0) cI wY ++ (wPlan aP cI uP ++ (wStack aS cI uS ++ (wCourse aC cI wC)))) A) args s 0 0 A) 39 (wPlay aY aP aS (aC 0) cI uY ++ (wPlan aP cI uP ++ (wStack aS cI uS ++ (wCourse aC cI uC)))) [(0, .ref (aY 0)), (2, .int v2), (3, .int v3)] [] := by
    intro  n
    induction n with
    | zero => intro v2 v3 uY uC hf; exact nomatch (show (none : Option ((Nat → Nat → Int32) × (Nat → Nat → Int32))) = some _ from hf)
    | succ n ih =>
      intro v2 v3 uY uC hf
      rw [f_Y_endEpoch_39] at hf
      refine mk_iload_n C 2 dX4_endEpoch_39 rfl ?_
      refine mk_aload_n C 0 dX4_endEpoch_40 rfl ?_
      refine mk_get C mk_inX4 0 rfl rfl 0 (by decide) mw_250 (v := .ref (aP 0)) rfl dX4_endEpoch_41 ?_
      refine mk_get C mk_inX3 2 rfl rfl 5 (by decide) mw_80 (v := .int (uP 5 0)) rfl dX4_endEpoch_44 ?_
      refine mk_icmp_ge C 90 dX4_endEpoch_47 (by decide) (fun c1 => ?_) (fun c1 => ?_)
      · replace hf := (if_pos c1).symm.trans hf
        have e := Option.some.inj hf
        obtain ⟨e0, e1⟩ := Prod.mk.inj e
        exact mk_vret C hr hlk (by rw [← e0, ← e1]) dX4_endEpoch_90
      · replace hf := (if_neg c1).symm.trans hf
        refine mk_iload_n C 1 dX4_endEpoch_50 rfl ?_
        refine mk_iload_n C 2 dX4_endEpoch_51 rfl ?_
        refine mk_ishr C dX4_endEpoch_52 ?_
        refine mk_if_eq C 90 dX4_endEpoch_53 (by decide) (fun c2 => ?_) (fun c2 => ?_)
        · replace hf := (if_pos c2).symm.trans hf
          have e := Option.some.inj hf
          obtain ⟨e0, e1⟩ := Prod.mk.inj e
          exact mk_vret C hr hlk (by rw [← e0, ← e1]) dX4_endEpoch_90
        · replace hf := (if_neg c2).symm.trans hf
          refine mk_iload_n C 1 dX4_endEpoch_56 rfl ?_
          refine mk_iload_n C 2 dX4_endEpoch_57 rfl ?_
          refine mk_ishr C dX4_endEpoch_58 ?_
          refine mk_iconst C (v := 1) dX4_endEpoch_59 (by decide) ?_
          refine mk_iand C dX4_endEpoch_60 ?_
          refine mk_iconst C (v := 1) dX4_endEpoch_61 (by decide) ?_
          refine mk_icmp_ne C 84 dX4_endEpoch_62 (by decide) (fun c3 => ?_) (fun c3 => ?_)
          · replace hf := (if_neg c3).symm.trans hf
            refine mk_iinc C (v := (v3 + 1)) (lv' := [(3, .int (v3 + 1)), (0, .ref (aY 0)), (2, .int v2)]) 2 dX4_endEpoch_84 rfl rfl (by decide) rfl ?_
            refine mk_goto C 39 dX4_endEpoch_87 (by decide) ?_
            exact mk_lvsub [1, 2, 0] rfl (ih _ _ _ _ hf)
          · replace hf := (if_pos c3).symm.trans hf
            refine mk_aload_n C 0 dX4_endEpoch_65 rfl ?_
            refine mk_aload_n C 0 dX4_endEpoch_66 rfl ?_
            refine mk_get C mk_inX4 0 rfl rfl 9 (by decide) mw_261 (v := .int (uY 9 0)) rfl dX4_endEpoch_67 ?_
            refine mk_aload_n C 0 dX4_endEpoch_70 rfl ?_
            refine mk_get C mk_inX4 0 rfl rfl 0 (by decide) mw_250 (v := .ref (aP 0)) rfl dX4_endEpoch_71 ?_
            refine mk_iload_n C 2 dX4_endEpoch_74 rfl ?_
            obtain ⟨r4, h5, hf⟩ := b1_some hf
            refine mk_callVi C (c_P_moment l D cI cJ cB cZ cS X Y aP uP v3 r4 h5) mw_581 mw_582 mw_583 mw_4 mw_584 mkn_X3_moment rfl ⟨Nat.le_of_ble_eq_true rfl, Nat.le_of_ble_eq_true rfl⟩ 2 rfl rfl rfl (fr_Y_P cI cJ aY aP aS aC (aC 0) uY uP uS uC uP) (Nat.le_of_ble_eq_true rfl) dX4_endEpoch_75 rfl ?_
            refine mk_mmin C mw_545 mw_546 mw_16 mw_547 ⟨Nat.le_of_ble_eq_true rfl, Nat.le_of_ble_eq_true rfl⟩ ⟨Nat.zero_le _, Nat.zero_le _⟩ dX4_endEpoch_78 ?_
            refine mk_put C mk_inX4 tyX4 tyX4_ok nmX4 0 rfl rfl 9 (by decide) mw_261 rfl rfl rfl (Nat.le_of_ble_eq_true rfl) (ws' := (wPlay aY aP aS (aC 0) cI (upF 9 (if r4 < (uY 9 0) then r4 else (uY 9 0)) uY) ++ (wPlan aP cI uP ++ (wStack aS cI uS ++ (wCourse aC cI uC))))) (st_YPSC_Y_9 cI cJ aY aP aS aC (aC 0) uY uP uS uC (if r4 < (uY 9 0) then r4 else (uY 9 0))) dX4_endEpoch_81 ?_
            refine mk_iinc C (v := (v3 + 1)) (lv' := [(3, .int (v3 + 1)), (0, .ref (aY 0)), (2, .int v2)]) 2 dX4_endEpoch_84 rfl rfl (by decide) rfl ?_
            refine mk_goto C 39 dX4_endEpoch_87 (by decide) ?_
            exact mk_lvsub [1, 2, 0] rfl (ih _ _ _ _ hf)
  show mk_Go p l e (headSpec (mk_ws yX4_endEpoch cX4_endEpoch 4 none) ({ frames := 2, cells := 0, slots := 0, locals := 42 })).room s m args below meth c D A 4 0 0 (MQ below (mk_Q none D (wPlay aY aP aS (aC 0) cI wY ++ (wPlan aP cI uP ++ (wStack aS cI uS ++ (wCourse aC cI wC)))) A) args s 0 0 A) 0 (wPlay aY aP aS (aC 0) cI uY ++ (wPlan aP cI uP ++ (wStack aS cI uS ++ (wCourse aC cI uC)))) [(0, .ref (aY 0)), (1, .int p1)] []
  unfold f_Y_endEpoch at hf
  refine mk_aload_n C 0 dX4_endEpoch_0 rfl ?_
  refine mk_get C mk_inX4 0 rfl rfl 12 (by decide) mw_264 (v := .int (uY 12 0)) rfl dX4_endEpoch_1 ?_
  refine mk_if_eq C 27 dX4_endEpoch_4 (by decide) (fun c6 => ?_) (fun c6 => ?_)
  · replace hf := (if_pos c6).symm.trans hf
    refine mk_aload_n C 0 dX4_endEpoch_27 rfl ?_
    refine mk_get C mk_inX4 0 rfl rfl 8 (by decide) mw_260 (v := .int (uY 8 0)) rfl dX4_endEpoch_28 ?_
    refine mk_aload_n C 0 dX4_endEpoch_31 rfl ?_
    refine mk_get C mk_inX4 0 rfl rfl 7 (by decide) mw_259 (v := .int (uY 7 0)) rfl dX4_endEpoch_32 ?_
    refine mk_iand C dX4_endEpoch_35 ?_
    refine mk_istore_n C (lv' := [(2, .int ((uY 8 0) &&& (uY 7 0))), (0, .ref (aY 0)), (1, .int p1)]) dX4_endEpoch_36 (by decide) rfl ?_
    refine mk_iconst C (v := 0) dX4_endEpoch_37 (by decide) ?_
    refine mk_istore_n C (lv' := [(3, .int 0), (2, .int ((uY 8 0) &&& (uY 7 0))), (0, .ref (aY 0)), (1, .int p1)]) dX4_endEpoch_38 (by decide) rfl ?_
    exact mk_lvsub [2, 1, 0] rfl (wL39 600 _ _ _ _ hf)
  · replace hf := (if_neg c6).symm.trans hf
    refine mk_aload_n C 0 dX4_endEpoch_7 rfl ?_
    refine mk_get C mk_inX4 0 rfl rfl 3 (by decide) mw_254 (v := .ref (aC 0)) rfl dX4_endEpoch_8 ?_
    refine mk_get C mk_inX1 12 rfl rfl 11 (by decide) mw_216 (v := .ref (aC 12)) rfl dX4_endEpoch_11 ?_
    refine mk_aload_n C 0 dX4_endEpoch_14 rfl ?_
    refine mk_get C mk_inX4 0 rfl rfl 3 (by decide) mw_254 (v := .ref (aC 0)) rfl dX4_endEpoch_15 ?_
    refine mk_get C mk_inX1 12 rfl rfl 13 (by decide) mw_219 (v := .int (uC 13 0)) rfl dX4_endEpoch_18 ?_
    refine mk_iconst C (v := 1) dX4_endEpoch_21 (by decide) ?_
    refine mk_isub C dX4_endEpoch_22 ?_
    refine mk_iload_n C 1 dX4_endEpoch_23 rfl ?_
    refine mk_callNv C (c_put l D cI cJ cB cZ cS X Y (aC 12) 200 (uC 11) ((uC 13 0) - 1) p1) (List.mem_of_getElem? (i := 15) rfl) mw_483 mw_1 mw_484 mkn_X8_put rfl ⟨Nat.le_of_ble_eq_true rfl, Nat.le_of_ble_eq_true rfl⟩ (mk_Fr.put (q := 23) (ws' := (wPlay aY aP aS (aC 0) cI uY ++ (wPlan aP cI uP ++ (wStack aS cI uS ++ (wCourse aC cI (upR 11 (mkPut 200 (uC 11) ((uC 13 0) - 1) p1) uC)))))) rfl (st_YPSC_C_11 cI cJ aY aP aS aC (aC 0) uY uP uS uC (mkPut 200 (uC 11) ((uC 13 0) - 1) p1))) (Nat.le_of_ble_eq_true rfl) dX4_endEpoch_24 rfl ?_
    refine mk_aload_n C 0 dX4_endEpoch_27 rfl ?_
    refine mk_get C mk_inX4 0 rfl rfl 8 (by decide) mw_260 (v := .int (uY 8 0)) rfl dX4_endEpoch_28 ?_
    refine mk_aload_n C 0 dX4_endEpoch_31 rfl ?_
    refine mk_get C mk_inX4 0 rfl rfl 7 (by decide) mw_259 (v := .int (uY 7 0)) rfl dX4_endEpoch_32 ?_
    refine mk_iand C dX4_endEpoch_35 ?_
    refine mk_istore_n C (lv' := [(2, .int ((uY 8 0) &&& (uY 7 0))), (0, .ref (aY 0)), (1, .int p1)]) dX4_endEpoch_36 (by decide) rfl ?_
    refine mk_iconst C (v := 0) dX4_endEpoch_37 (by decide) ?_
    refine mk_istore_n C (lv' := [(3, .int 0), (2, .int ((uY 8 0) &&& (uY 7 0))), (0, .ref (aY 0)), (1, .int p1)]) dX4_endEpoch_38 (by decide) rfl ?_
    exact mk_lvsub [2, 1, 0] rfl (wL39 600 _ _ _ _ hf)
set_option maxHeartbeats 40000000 in
set_option maxRecDepth 100000 in
theorem c_Y_playByGroups (l : Launch) (D : va_G) (cI cJ cB cZ cS : ClassId) (X : Nat → Nat) (Y : mk_Y) (aY aP aS aC : Nat → Nat) (uY : Nat → Nat → Int32) (uP : Nat → Nat → Int32) (uS : Nat → Nat → Int32) (uC : Nat → Nat → Int32) (p1 : Int32) (wY : Nat → Nat → Int32) (wS : Nat → Nat → Int32) (wC : Nat → Nat → Int32) (hf : f_Y_playByGroups uY uP uS uC p1 = some (wY, wS, wC)) : mk_Met l yX4_playByGroups cX4_playByGroups 5 none ({ frames := 4, cells := 0, slots := 0, locals := 93 }) D (mk_TY cI cJ cB cZ cS) X Y [.ref (aY 0), .int p1] (wPlay aY aP aS (aC 0) cI uY ++ (wPlan aP cI uP ++ (wStack aS cI uS ++ (wCourse aC cI uC)))) (wPlay aY aP aS (aC 0) cI wY ++ (wPlan aP cI uP ++ (wStack aS cI wS ++ (wCourse aC cI wC)))) none 0 0 := by
  refine mk_start (own := RX4) (by decide) rfl (Nat.le_of_ble_eq_true rfl) ?_
  intro sz p e s m args below meth c A C hr hlk hnm
  replace C : mk_Cx p s m args c cX4_playByGroups 5 RX4 D (mk_TY cI cJ cB cZ cS) X Y A := C
  have wL130 : ∀ (uY : Nat → Nat → Int32) (uS : Nat → Nat → Int32) (uC : Nat → Nat → Int32), f_Y_playByGroups_130 uP p1 uY uS uC = some (wY, wS, wC) → mk_Go p l e (headSpec (mk_ws yX4_playByGroups cX4_playByGroups 5 none) ({ frames := 4, cells := 0, slots := 0, locals := 93 })).room s m args below meth c D A 5 0 0 (MQ below (mk_Q none D (wPlay aY aP aS (aC 0) cI wY ++ (wPlan aP cI uP ++ (wStack aS cI wS ++ (wCourse aC cI wC)))) A) args s 0 0 A) 130 (wPlay aY aP aS (aC 0) cI uY ++ (wPlan aP cI uP ++ (wStack aS cI uS ++ (wCourse aC cI uC)))) [(0, .ref (aY 0)), (1, .int p1)] [] := by
    intro  uY uS uC hf
    unfold f_Y_playByGroups_130 at hf
    refine mk_aload_n C 0 dX4_playByGroups_130 rfl ?_
    refine mk_get C mk_inX4 0 rfl rfl 3 (by decide) mw_254 (v := .ref (aC 0)) rfl dX4_playByGroups_131 ?_
    refine mk_get C mk_inX1 12 rfl rfl 3 (by decide) mw_196 (v := .ref (aC 4)) rfl dX4_playByGroups_134 ?_
    refine mk_iload_n C 1 dX4_playByGroups_137 rfl ?_
    refine mk_aload_n C 0 dX4_playByGroups_138 rfl ?_
    refine mk_get C mk_inX4 0 rfl rfl 1 (by decide) mw_252 (v := .ref (aS 0)) rfl dX4_playByGroups_139 ?_
    refine mk_get C mk_inX6 8 rfl rfl 3 (by decide) mw_171 (v := .int (uS 3 0)) rfl dX4_playByGroups_142 ?_
    refine mk_callNv C (c_put l D cI cJ cB cZ cS X Y (aC 4) 200 (uC 3) p1 (uS 3 0)) (List.mem_of_getElem? (i := 15) rfl) mw_483 mw_1 mw_484 mkn_X8_put rfl ⟨Nat.le_of_ble_eq_true rfl, Nat.le_of_ble_eq_true rfl⟩ (mk_Fr.put (q := 16) (ws' := (wPlay aY aP aS (aC 0) cI uY ++ (wPlan aP cI uP ++ (wStack aS cI uS ++ (wCourse aC cI (upR 3 (mkPut 200 (uC 3) p1 (uS 3 0)) uC)))))) rfl (st_YPSC_C_3 cI cJ aY aP aS aC (aC 0) uY uP uS uC (mkPut 200 (uC 3) p1 (uS 3 0)))) (Nat.le_of_ble_eq_true rfl) dX4_playByGroups_145 rfl ?_
    have e := Option.some.inj hf
    simp only [Prod.mk.injEq] at e
    obtain ⟨e0, e1, e2⟩ := e
    exact mk_vret C hr hlk (by rw [← e0, ← e1, ← e2]) dX4_playByGroups_148
  have wL115 : ∀ (uY : Nat → Nat → Int32) (uS : Nat → Nat → Int32) (uC : Nat → Nat → Int32), f_Y_playByGroups_115 uP p1 uY uS uC = some (wY, wS, wC) → mk_Go p l e (headSpec (mk_ws yX4_playByGroups cX4_playByGroups 5 none) ({ frames := 4, cells := 0, slots := 0, locals := 93 })).room s m args below meth c D A 5 0 0 (MQ below (mk_Q none D (wPlay aY aP aS (aC 0) cI wY ++ (wPlan aP cI uP ++ (wStack aS cI wS ++ (wCourse aC cI wC)))) A) args s 0 0 A) 115 (wPlay aY aP aS (aC 0) cI uY ++ (wPlan aP cI uP ++ (wStack aS cI uS ++ (wCourse aC cI uC)))) [(0, .ref (aY 0)), (1, .int p1)] [] := by
    intro  uY uS uC hf
    unfold f_Y_playByGroups_115 at hf
    refine mk_aload_n C 0 dX4_playByGroups_115 rfl ?_
    refine mk_get C mk_inX4 0 rfl rfl 1 (by decide) mw_252 (v := .ref (aS 0)) rfl dX4_playByGroups_116 ?_
    refine mk_get C mk_inX6 8 rfl rfl 3 (by decide) mw_171 (v := .int (uS 3 0)) rfl dX4_playByGroups_119 ?_
    refine mk_if_ne C 130 dX4_playByGroups_122 (by decide) (fun c1 => ?_) (fun c1 => ?_)
    · replace hf := (if_neg c1).symm.trans hf
      exact mk_lvsub [0, 1] rfl (wL130 _ _ _ hf)
    · replace hf := (if_pos c1).symm.trans hf
      refine mk_aload_n C 0 dX4_playByGroups_125 rfl ?_
      refine mk_iload_n C 1 dX4_playByGroups_126 rfl ?_
      obtain ⟨uY_2, uC_3, h4, hf⟩ := b2_some hf
      refine mk_callVv C (c_Y_endEpoch l D cI cJ cB cZ cS X Y aY aP aS aC uY uP uS uC p1 uY_2 uC_3 h4) mw_615 mw_616 mw_617 mw_5 mw_618 mkn_X4_endEpoch rfl ⟨Nat.le_of_ble_eq_true rfl, Nat.le_of_ble_eq_true rfl⟩ 0 rfl rfl rfl (mk_Fr.all _ _) (Nat.le_of_ble_eq_true rfl) dX4_playByGroups_127 rfl ?_
      exact mk_lvsub [0, 1] rfl (wL130 _ _ _ hf)
  have wL70 : ∀ (t0 : Int32) (uY : Nat → Nat → Int32) (uS : Nat → Nat → Int32) (uC : Nat → Nat → Int32), f_Y_playByGroups_70 uP p1 t0 uY uS uC = some (wY, wS, wC) → mk_Go p l e (headSpec (mk_ws yX4_playByGroups cX4_playByGroups 5 none) ({ frames := 4, cells := 0, slots := 0, locals := 93 })).room s m args below meth c D A 5 0 0 (MQ below (mk_Q none D (wPlay aY aP aS (aC 0) cI wY ++ (wPlan aP cI uP ++ (wStack aS cI wS ++ (wCourse aC cI wC)))) A) args s 0 0 A) 70 (wPlay aY aP aS (aC 0) cI uY ++ (wPlan aP cI uP ++ (wStack aS cI uS ++ (wCourse aC cI uC)))) [(0, .ref (aY 0)), (1, .int p1)] [.int t0] := by
    intro  t0 uY uS uC hf
    unfold f_Y_playByGroups_70 at hf
    refine mk_istore C (lv' := [(4, .int t0), (0, .ref (aY 0)), (1, .int p1)]) dX4_playByGroups_70 (by decide) rfl ?_
    refine mk_aload_n C 1 dX4_playByGroups_72 rfl ?_
    refine mk_get C mk_inX4 0 rfl rfl 1 (by decide) mw_252 (v := .ref (aS 0)) rfl dX4_playByGroups_73 ?_
    obtain ⟨uS_5, h6, hf⟩ := b1_some hf
    refine mk_callVv C (c_S_pop l D cI cJ cB cZ cS X Y aS uS uS_5 h6) mw_607 mw_608 mw_609 mw_6 mw_610 mkn_X6_pop rfl ⟨Nat.le_of_ble_eq_true rfl, Nat.le_of_ble_eq_true rfl⟩ 8 rfl rfl rfl (fr_Y_S cI cJ aY aP aS aC (aC 0) uY uP uS uC uS_5) (Nat.le_of_ble_eq_true rfl) dX4_playByGroups_76 rfl ?_
    refine mk_aload_n C 1 dX4_playByGroups_79 rfl ?_
    refine mk_iconst C (v := 0) dX4_playByGroups_80 (by decide) ?_
    refine mk_put C mk_inX4 tyX4 tyX4_ok nmX4 0 rfl rfl 10 (by decide) mw_262 rfl rfl rfl (Nat.le_of_ble_eq_true rfl) (ws' := (wPlay aY aP aS (aC 0) cI (upF 10 0 uY) ++ (wPlan aP cI uP ++ (wStack aS cI uS_5 ++ (wCourse aC cI uC))))) (st_YPSC_Y_10 cI cJ aY aP aS aC (aC 0) uY uP uS_5 uC 0) dX4_playByGroups_81 ?_
    refine mk_iload C 0 dX4_playByGroups_84 rfl ?_
    refine mk_if_eq C 115 dX4_playByGroups_86 (by decide) (fun c7 => ?_) (fun c7 => ?_)
    · replace hf := (if_pos c7).symm.trans hf
      exact mk_lvsub [1, 2] rfl (wL115 _ _ _ hf)
    · replace hf := (if_neg c7).symm.trans hf
      refine mk_aload_n C 1 dX4_playByGroups_89 rfl ?_
      obtain ⟨uY_8, uS_9, uC_10, h11, hf⟩ := b3_some hf
      refine mk_callVv C (c_Y_splitTop l D cI cJ cB cZ cS X Y aY aP aS aC (upF 10 0 uY) uP uS_5 uC uY_8 uS_9 uC_10 h11) mw_599 mw_600 mw_601 mw_5 mw_602 mkn_X4_splitTop rfl ⟨Nat.le_of_ble_eq_true rfl, Nat.le_of_ble_eq_true rfl⟩ 0 rfl rfl rfl (mk_Fr.all _ _) (Nat.le_of_ble_eq_true rfl) dX4_playByGroups_90 rfl ?_
      refine mk_aload_n C 1 dX4_playByGroups_93 rfl ?_
      refine mk_dup C dX4_playByGroups_94 rfl ?_
      refine mk_get C mk_inX4 0 rfl rfl 11 (by decide) mw_263 (v := .int (uY_8 11 0)) rfl dX4_playByGroups_95 ?_
      refine mk_iconst C (v := 1) dX4_playByGroups_98 (by decide) ?_
      refine mk_iadd C dX4_playByGroups_99 ?_
      refine mk_put C mk_inX4 tyX4 tyX4_ok nmX4 0 rfl rfl 11 (by decide) mw_263 rfl rfl rfl (Nat.le_of_ble_eq_true rfl) (ws' := (wPlay aY aP aS (aC 0) cI (upF 11 ((uY_8 11 0) + 1) uY_8) ++ (wPlan aP cI uP ++ (wStack aS cI uS_9 ++ (wCourse aC cI uC_10))))) (st_YPSC_Y_11 cI cJ aY aP aS aC (aC 0) uY_8 uP uS_9 uC_10 ((uY_8 11 0) + 1)) dX4_playByGroups_100 ?_
      refine mk_aload_n C 1 dX4_playByGroups_103 rfl ?_
      refine mk_get C mk_inX4 0 rfl rfl 3 (by decide) mw_254 (v := .ref (aC 0)) rfl dX4_playByGroups_104 ?_
      refine mk_get C mk_inX1 12 rfl rfl 4 (by decide) mw_199 (v := .ref (aC 5)) rfl dX4_playByGroups_107 ?_
      refine mk_iload_n C 2 dX4_playByGroups_110 rfl ?_
      refine mk_iconst C (v := 1) dX4_playByGroups_111 (by decide) ?_
      refine mk_callNv C (c_put l D cI cJ cB cZ cS X Y (aC 5) 200 (uC_10 4) p1 1) (List.mem_of_getElem? (i := 15) rfl) mw_483 mw_1 mw_484 mkn_X8_put rfl ⟨Nat.le_of_ble_eq_true rfl, Nat.le_of_ble_eq_true rfl⟩ (mk_Fr.put (q := 17) (ws' := (wPlay aY aP aS (aC 0) cI (upF 11 ((uY_8 11 0) + 1) uY_8) ++ (wPlan aP cI uP ++ (wStack aS cI uS_9 ++ (wCourse aC cI (upR 4 (mkPut 200 (uC_10 4) p1 1) uC_10)))))) rfl (st_YPSC_C_4 cI cJ aY aP aS aC (aC 0) (upF 11 ((uY_8 11 0) + 1) uY_8) uP uS_9 uC_10 (mkPut 200 (uC_10 4) p1 1))) (Nat.le_of_ble_eq_true rfl) dX4_playByGroups_112 rfl ?_
      exact mk_lvsub [1, 2] rfl (wL115 _ _ _ hf)
  have wL69 : ∀ (uY : Nat → Nat → Int32) (uS : Nat → Nat → Int32) (uC : Nat → Nat → Int32), f_Y_playByGroups_69 uP p1 uY uS uC = some (wY, wS, wC) → mk_Go p l e (headSpec (mk_ws yX4_playByGroups cX4_playByGroups 5 none) ({ frames := 4, cells := 0, slots := 0, locals := 93 })).room s m args below meth c D A 5 0 0 (MQ below (mk_Q none D (wPlay aY aP aS (aC 0) cI wY ++ (wPlan aP cI uP ++ (wStack aS cI wS ++ (wCourse aC cI wC)))) A) args s 0 0 A) 69 (wPlay aY aP aS (aC 0) cI uY ++ (wPlan aP cI uP ++ (wStack aS cI uS ++ (wCourse aC cI uC)))) [(0, .ref (aY 0)), (1, .int p1)] [] := by
    intro  uY uS uC hf
    unfold f_Y_playByGroups_69 at hf
    refine mk_iconst C (v := 0) dX4_playByGroups_69 (by decide) ?_
    exact mk_lvsub [0, 1] rfl (wL70 _ _ _ _ hf)
  have wL15 : ∀ (uY : Nat → Nat → Int32) (uS : Nat → Nat → Int32) (uC : Nat → Nat → Int32), f_Y_playByGroups_15 uP p1 uY uS uC = some (wY, wS, wC) → mk_Go p l e (headSpec (mk_ws yX4_playByGroups cX4_playByGroups 5 none) ({ frames := 4, cells := 0, slots := 0, locals := 93 })).room s m args below meth c D A 5 0 0 (MQ below (mk_Q none D (wPlay aY aP aS (aC 0) cI wY ++ (wPlan aP cI uP ++ (wStack aS cI wS ++ (wCourse aC cI wC)))) A) args s 0 0 A) 15 (wPlay aY aP aS (aC 0) cI uY ++ (wPlan aP cI uP ++ (wStack aS cI uS ++ (wCourse aC cI uC)))) [(0, .ref (aY 0)), (1, .int p1)] [] := by
    intro  uY uS uC hf
    unfold f_Y_playByGroups_15 at hf
    refine mk_aload_n C 0 dX4_playByGroups_15 rfl ?_
    refine mk_get C mk_inX4 0 rfl rfl 1 (by decide) mw_252 (v := .ref (aS 0)) rfl dX4_playByGroups_16 ?_
    obtain ⟨r12, h13, hf⟩ := b1_some hf
    refine mk_callVi C (c_S_topWho l D cI cJ cB cZ cS X Y aS uS r12 h13) mw_594 mw_595 mw_596 mw_6 mw_597 mkn_X6_topWho rfl ⟨Nat.le_of_ble_eq_true rfl, Nat.le_of_ble_eq_true rfl⟩ 8 rfl rfl rfl (fr_Y_S cI cJ aY aP aS aC (aC 0) uY uP uS uC uS) (Nat.le_of_ble_eq_true rfl) dX4_playByGroups_19 rfl ?_
    refine mk_istore_n C (lv' := [(2, .int r12), (0, .ref (aY 0)), (1, .int p1)]) dX4_playByGroups_22 (by decide) rfl ?_
    refine mk_aload_n C 1 dX4_playByGroups_23 rfl ?_
    refine mk_iload_n C 2 dX4_playByGroups_24 rfl ?_
    refine mk_iload_n C 0 dX4_playByGroups_25 rfl ?_
    obtain ⟨r14, uY_15, uC_16, h17, hf⟩ := b3_some hf
    refine mk_callVi C (c_Y_listen l D cI cJ cB cZ cS X Y aY aP aS aC uY uP uS uC p1 r12 r14 uY_15 uC_16 h17) mw_535 mw_536 mw_537 mw_5 mw_538 mkn_X4_listen rfl ⟨Nat.le_of_ble_eq_true rfl, Nat.le_of_ble_eq_true rfl⟩ 0 rfl rfl rfl (mk_Fr.all _ _) (Nat.le_of_ble_eq_true rfl) dX4_playByGroups_26 rfl ?_
    refine mk_istore_n C (lv' := [(3, .int r14), (2, .int r12), (0, .ref (aY 0)), (1, .int p1)]) dX4_playByGroups_29 (by decide) rfl ?_
    refine mk_iload_n C 0 dX4_playByGroups_30 rfl ?_
    refine mk_iconst C (v := 2) dX4_playByGroups_31 (by decide) ?_
    refine mk_icmp_ne C 47 dX4_playByGroups_32 (by decide) (fun c18 => ?_) (fun c18 => ?_)
    · replace hf := (if_neg c18).symm.trans hf
      refine mk_iload_n C 0 dX4_playByGroups_47 rfl ?_
      refine mk_if_ne C 69 dX4_playByGroups_48 (by decide) (fun c19 => ?_) (fun c19 => ?_)
      · replace hf := (if_neg c19).symm.trans hf
        exact mk_lvsub [2, 3] rfl (wL69 _ _ _ hf)
      · replace hf := (if_pos c19).symm.trans hf
        refine mk_aload_n C 2 dX4_playByGroups_51 rfl ?_
        refine mk_get C mk_inX4 0 rfl rfl 10 (by decide) mw_262 (v := .int (uY_15 10 0)) rfl dX4_playByGroups_52 ?_
        refine mk_if_eq C 69 dX4_playByGroups_55 (by decide) (fun c20 => ?_) (fun c20 => ?_)
        · replace hf := (if_pos c20).symm.trans hf
          exact mk_lvsub [2, 3] rfl (wL69 _ _ _ hf)
        · replace hf := (if_neg c20).symm.trans hf
          refine mk_aload_n C 2 dX4_playByGroups_58 rfl ?_
          obtain ⟨r21, h22, hf⟩ := b1_some hf
          refine mk_callVi C (c_Y_maySkip l D cI cJ cB cZ cS X Y aY aP aS aC uY_15 uP uS uC_16 r21 h22) mw_611 mw_612 mw_613 mw_5 mw_614 mkn_X4_maySkip rfl ⟨Nat.le_of_ble_eq_true rfl, Nat.le_of_ble_eq_true rfl⟩ 0 rfl rfl rfl (mk_Fr.all _ _) (Nat.le_of_ble_eq_true rfl) dX4_playByGroups_59 rfl ?_
          refine mk_if_eq C 69 dX4_playByGroups_62 (by decide) (fun c23 => ?_) (fun c23 => ?_)
          · replace hf := (if_pos c23).symm.trans hf
            exact mk_lvsub [2, 3] rfl (wL69 _ _ _ hf)
          · replace hf := (if_neg c23).symm.trans hf
            refine mk_iconst C (v := 1) dX4_playByGroups_65 (by decide) ?_
            refine mk_goto C 70 dX4_playByGroups_66 (by decide) ?_
            exact mk_lvsub [2, 3] rfl (wL70 _ _ _ _ hf)
    · replace hf := (if_pos c18).symm.trans hf
      refine mk_aload_n C 2 dX4_playByGroups_35 rfl ?_
      obtain ⟨uY_24, uS_25, uC_26, h27, hf⟩ := b3_some hf
      refine mk_callVv C (c_Y_splitTop l D cI cJ cB cZ cS X Y aY aP aS aC uY_15 uP uS uC_16 uY_24 uS_25 uC_26 h27) mw_599 mw_600 mw_601 mw_5 mw_602 mkn_X4_splitTop rfl ⟨Nat.le_of_ble_eq_true rfl, Nat.le_of_ble_eq_true rfl⟩ 0 rfl rfl rfl (mk_Fr.all _ _) (Nat.le_of_ble_eq_true rfl) dX4_playByGroups_36 rfl ?_
      refine mk_aload_n C 2 dX4_playByGroups_39 rfl ?_
      refine mk_iconst C (v := 0) dX4_playByGroups_40 (by decide) ?_
      refine mk_put C mk_inX4 tyX4 tyX4_ok nmX4 0 rfl rfl 11 (by decide) mw_263 rfl rfl rfl (Nat.le_of_ble_eq_true rfl) (ws' := (wPlay aY aP aS (aC 0) cI (upF 11 0 uY_24) ++ (wPlan aP cI uP ++ (wStack aS cI uS_25 ++ (wCourse aC cI uC_26))))) (st_YPSC_Y_11 cI cJ aY aP aS aC (aC 0) uY_24 uP uS_25 uC_26 0) dX4_playByGroups_41 ?_
      refine mk_goto C 115 dX4_playByGroups_44 (by decide) ?_
      exact mk_lvsub [2, 3] rfl (wL115 _ _ _ hf)
  show mk_Go p l e (headSpec (mk_ws yX4_playByGroups cX4_playByGroups 5 none) ({ frames := 4, cells := 0, slots := 0, locals := 93 })).room s m args below meth c D A 5 0 0 (MQ below (mk_Q none D (wPlay aY aP aS (aC 0) cI wY ++ (wPlan aP cI uP ++ (wStack aS cI wS ++ (wCourse aC cI wC)))) A) args s 0 0 A) 0 (wPlay aY aP aS (aC 0) cI uY ++ (wPlan aP cI uP ++ (wStack aS cI uS ++ (wCourse aC cI uC)))) [(0, .ref (aY 0)), (1, .int p1)] []
  unfold f_Y_playByGroups at hf
  refine mk_aload_n C 0 dX4_playByGroups_0 rfl ?_
  refine mk_get C mk_inX4 0 rfl rfl 1 (by decide) mw_252 (v := .ref (aS 0)) rfl dX4_playByGroups_1 ?_
  refine mk_get C mk_inX6 8 rfl rfl 3 (by decide) mw_171 (v := .int (uS 3 0)) rfl dX4_playByGroups_4 ?_
  refine mk_if_ne C 15 dX4_playByGroups_7 (by decide) (fun c28 => ?_) (fun c28 => ?_)
  · replace hf := (if_neg c28).symm.trans hf
    exact mk_lvsub [0, 1] rfl (wL15 _ _ _ hf)
  · replace hf := (if_pos c28).symm.trans hf
    refine mk_aload_n C 0 dX4_playByGroups_10 rfl ?_
    refine mk_iload_n C 1 dX4_playByGroups_11 rfl ?_
    obtain ⟨uY_29, uS_30, uC_31, h32, hf⟩ := b3_some hf
    refine mk_callVv C (c_Y_beginEpoch l D cI cJ cB cZ cS X Y aY aP aS aC uY uP uS uC p1 uY_29 uS_30 uC_31 h32) mw_573 mw_574 mw_575 mw_5 mw_576 mkn_X4_beginEpoch rfl ⟨Nat.le_of_ble_eq_true rfl, Nat.le_of_ble_eq_true rfl⟩ 0 rfl rfl rfl (mk_Fr.all _ _) (Nat.le_of_ble_eq_true rfl) dX4_playByGroups_12 rfl ?_
    exact mk_lvsub [0, 1] rfl (wL15 _ _ _ hf)
set_option maxHeartbeats 40000000 in
set_option maxRecDepth 100000 in
theorem c_Y_run (l : Launch) (D : va_G) (cI cJ cB cZ cS : ClassId) (X : Nat → Nat) (Y : mk_Y) (aY aP aS aC : Nat → Nat) (crs : Nat) (uY : Nat → Nat → Int32) (uP : Nat → Nat → Int32) (uS : Nat → Nat → Int32) (uC : Nat → Nat → Int32) (p2 : Int32) (p3 : Int32) (p4 : Int32) (r : Int32) (wY : Nat → Nat → Int32) (wS : Nat → Nat → Int32) (wC : Nat → Nat → Int32) (hf : f_Y_run uY uP uS uC p2 p3 p4 = some (r, wY, wS, wC)) : mk_Met l yX4_run cX4_run 6 (some .int) ({ frames := 5, cells := 0, slots := 0, locals := 117 }) D (mk_TY cI cJ cB cZ cS) X Y [.ref (aY 0), .ref (aC 0), .int p2, .int p3, .int p4] (wPlay aY aP aS crs cI uY ++ (wPlan aP cI uP ++ (wStack aS cI uS ++ (wCourse aC cI uC)))) (wPlay aY aP aS (aC 0) cI wY ++ (wPlan aP cI uP ++ (wStack aS cI wS ++ (wCourse aC cI wC)))) (some (.int r)) 0 0 := by
  refine mk_start (own := RX4) (by decide) rfl (Nat.le_of_ble_eq_true rfl) ?_
  intro sz p e s m args below meth c A C hr hlk hnm
  replace C : mk_Cx p s m args c cX4_run 6 RX4 D (mk_TY cI cJ cB cZ cS) X Y A := C
  have wL77 : ∀ (n : Nat) (v5 : Int32) (uY : Nat → Nat → Int32) (uS : Nat → Nat → Int32) (uC : Nat → Nat → Int32), f_Y_run_77 uP p2 p3 p4 n v5 uY uS uC = some (r, wY, wS, wC) → mk_Go p l e (headSpec (mk_ws yX4_run cX4_run 6 (some .int)) ({ frames := 5, cells := 0, slots := 0, locals := 117 })).room s m args below meth c D A 6 0 0 (MQ below (mk_Q (some (.int r)) D (wPlay aY aP aS (aC 0) cI wY ++ (wPlan aP cI uP ++ (wStack aS cI wS ++ (wCourse aC cI wC)))) A) args s 0 0 A) 77 (wPlay aY aP aS (aC 0) cI uY ++ (wPlan aP cI uP ++ (wStack aS cI uS ++ (wCourse aC cI uC)))) [(0, .ref (aY 0)), (5, .int v5)] [] := by
    intro  n
    induction n with
    | zero => intro v5 uY uS uC hf; exact nomatch (show (none : Option (Int32 × (Nat → Nat → Int32) × (Nat → Nat → Int32) × (Nat → Nat → Int32))) = some _ from hf)
    | succ n ih =>
      intro v5 uY uS uC hf
      rw [f_Y_run_77] at hf
      refine mk_iload C 1 dX4_run_77 rfl ?_
      refine mk_aload_n C 0 dX4_run_79 rfl ?_
      refine mk_get C mk_inX4 0 rfl rfl 0 (by decide) mw_250 (v := .ref (aP 0)) rfl dX4_run_80 ?_
      refine mk_get C mk_inX3 2 rfl rfl 1 (by decide) mw_65 (v := .int (uP 1 0)) rfl dX4_run_83 ?_
      refine mk_icmp_ge C 124 dX4_run_86 (by decide) (fun c1 => ?_) (fun c1 => ?_)
      · replace hf := (if_pos c1).symm.trans hf
        refine mk_aload_n C 0 dX4_run_124 rfl ?_
        refine mk_get C mk_inX4 0 rfl rfl 3 (by decide) mw_254 (v := .ref (aC 0)) rfl dX4_run_125 ?_
        refine mk_get C mk_inX1 12 rfl rfl 9 (by decide) mw_212 (v := .int (uC 9 0)) rfl dX4_run_128 ?_
        have e := Option.some.inj hf
        simp only [Prod.mk.injEq] at e
        obtain ⟨e0, e1, e2, e3⟩ := e
        exact mk_iret C hr hlk e0 (by rw [← e1, ← e2, ← e3]) dX4_run_131
      · replace hf := (if_neg c1).symm.trans hf
        refine mk_aload_n C 0 dX4_run_89 rfl ?_
        refine mk_iload C 1 dX4_run_90 rfl ?_
        obtain ⟨uY_2, h3, hf⟩ := b1_some hf
        refine mk_callVv C (c_Y_welcome l D cI cJ cB cZ cS X Y aY aP aS aC uY uP uS uC v5 uY_2 h3) mw_526 mw_527 mw_528 mw_5 mw_529 mkn_X4_welcome rfl ⟨Nat.le_of_ble_eq_true rfl, Nat.le_of_ble_eq_true rfl⟩ 0 rfl rfl rfl (mk_Fr.all _ _) (Nat.le_of_ble_eq_true rfl) dX4_run_92 rfl ?_
        refine mk_aload_n C 0 dX4_run_95 rfl ?_
        refine mk_get C mk_inX4 0 rfl rfl 4 (by decide) mw_256 (v := .int (uY_2 4 0)) rfl dX4_run_96 ?_
        refine mk_iconst C (v := 2) dX4_run_99 (by decide) ?_
        refine mk_icmp_ne C 112 dX4_run_100 (by decide) (fun c4 => ?_) (fun c4 => ?_)
        · replace hf := (if_neg c4).symm.trans hf
          refine mk_aload_n C 0 dX4_run_112 rfl ?_
          refine mk_iload C 1 dX4_run_113 rfl ?_
          obtain ⟨uY_5, uS_6, uC_7, h8, hf⟩ := b3_some hf
          refine mk_callVv C (c_Y_playByGroups l D cI cJ cB cZ cS X Y aY aP aS aC uY_2 uP uS uC v5 uY_5 uS_6 uC_7 h8) mw_569 mw_570 mw_571 mw_5 mw_572 mkn_X4_playByGroups rfl ⟨Nat.le_of_ble_eq_true rfl, Nat.le_of_ble_eq_true rfl⟩ 0 rfl rfl rfl (mk_Fr.all _ _) (Nat.le_of_ble_eq_true rfl) dX4_run_115 rfl ?_
          refine mk_iinc C (v := (v5 + 1)) (lv' := [(5, .int (v5 + 1)), (0, .ref (aY 0))]) 1 dX4_run_118 rfl rfl (by decide) rfl ?_
          refine mk_goto C 77 dX4_run_121 (by decide) ?_
          exact mk_lvsub [1, 0] rfl (ih _ _ _ _ hf)
        · replace hf := (if_pos c4).symm.trans hf
          refine mk_aload_n C 0 dX4_run_103 rfl ?_
          refine mk_iload C 1 dX4_run_104 rfl ?_
          obtain ⟨uY_9, uC_10, h11, hf⟩ := b2_some hf
          refine mk_callVv C (c_Y_playByCounters l D cI cJ cB cZ cS X Y aY aP aS aC uY_2 uP uS uC v5 uY_9 uC_10 h11) mw_531 mw_532 mw_533 mw_5 mw_534 mkn_X4_playByCounters rfl ⟨Nat.le_of_ble_eq_true rfl, Nat.le_of_ble_eq_true rfl⟩ 0 rfl rfl rfl (mk_Fr.all _ _) (Nat.le_of_ble_eq_true rfl) dX4_run_106 rfl ?_
          refine mk_goto C 118 dX4_run_109 (by decide) ?_
          refine mk_iinc C (v := (v5 + 1)) (lv' := [(5, .int (v5 + 1)), (0, .ref (aY 0))]) 1 dX4_run_118 rfl rfl (by decide) rfl ?_
          refine mk_goto C 77 dX4_run_121 (by decide) ?_
          exact mk_lvsub [1, 0] rfl (ih _ _ _ _ hf)
  show mk_Go p l e (headSpec (mk_ws yX4_run cX4_run 6 (some .int)) ({ frames := 5, cells := 0, slots := 0, locals := 117 })).room s m args below meth c D A 6 0 0 (MQ below (mk_Q (some (.int r)) D (wPlay aY aP aS (aC 0) cI wY ++ (wPlan aP cI uP ++ (wStack aS cI wS ++ (wCourse aC cI wC)))) A) args s 0 0 A) 0 (wPlay aY aP aS crs cI uY ++ (wPlan aP cI uP ++ (wStack aS cI uS ++ (wCourse aC cI uC)))) [(0, .ref (aY 0)), (1, .ref (aC 0)), (2, .int p2), (3, .int p3), (4, .int p4)] []
  unfold f_Y_run at hf
  refine mk_aload_n C 0 dX4_run_0 rfl ?_
  refine mk_aload_n C 1 dX4_run_1 rfl ?_
  refine mk_put C mk_inX4 tyX4 tyX4_ok nmX4 0 rfl rfl 3 (by decide) mw_254 rfl rfl rfl (Nat.le_of_ble_eq_true rfl) (ws' := (wPlay aY aP aS (aC 0) cI uY ++ (wPlan aP cI uP ++ (wStack aS cI uS ++ (wCourse aC cI uC))))) rfl dX4_run_2 ?_
  refine mk_aload_n C 0 dX4_run_5 rfl ?_
  refine mk_iload_n C 2 dX4_run_6 rfl ?_
  refine mk_put C mk_inX4 tyX4 tyX4_ok nmX4 0 rfl rfl 4 (by decide) mw_256 rfl rfl rfl (Nat.le_of_ble_eq_true rfl) (ws' := (wPlay aY aP aS (aC 0) cI (upF 4 p2 uY) ++ (wPlan aP cI uP ++ (wStack aS cI uS ++ (wCourse aC cI uC))))) (st_YPSC_Y_4 cI cJ aY aP aS aC (aC 0) uY uP uS uC p2) dX4_run_7 ?_
  refine mk_aload_n C 0 dX4_run_10 rfl ?_
  refine mk_iload_n C 3 dX4_run_11 rfl ?_
  refine mk_put C mk_inX4 tyX4 tyX4_ok nmX4 0 rfl rfl 5 (by decide) mw_257 rfl rfl rfl (Nat.le_of_ble_eq_true rfl) (ws' := (wPlay aY aP aS (aC 0) cI (upF 5 p3 (upF 4 p2 uY)) ++ (wPlan aP cI uP ++ (wStack aS cI uS ++ (wCourse aC cI uC))))) (st_YPSC_Y_5 cI cJ aY aP aS aC (aC 0) (upF 4 p2 uY) uP uS uC p3) dX4_run_12 ?_
  refine mk_aload_n C 0 dX4_run_15 rfl ?_
  refine mk_iload C 4 dX4_run_16 rfl ?_
  refine mk_put C mk_inX4 tyX4 tyX4_ok nmX4 0 rfl rfl 6 (by decide) mw_258 rfl rfl rfl (Nat.le_of_ble_eq_true rfl) (ws' := (wPlay aY aP aS (aC 0) cI (upF 6 p4 (upF 5 p3 (upF 4 p2 uY))) ++ (wPlan aP cI uP ++ (wStack aS cI uS ++ (wCourse aC cI uC))))) (st_YPSC_Y_6 cI cJ aY aP aS aC (aC 0) (upF 5 p3 (upF 4 p2 uY)) uP uS uC p4) dX4_run_18 ?_
  refine mk_aload_n C 0 dX4_run_21 rfl ?_
  refine mk_iconst C (v := 0) dX4_run_22 (by decide) ?_
  refine mk_put C mk_inX4 tyX4 tyX4_ok nmX4 0 rfl rfl 7 (by decide) mw_259 rfl rfl rfl (Nat.le_of_ble_eq_true rfl) (ws' := (wPlay aY aP aS (aC 0) cI (upF 7 0 (upF 6 p4 (upF 5 p3 (upF 4 p2 uY)))) ++ (wPlan aP cI uP ++ (wStack aS cI uS ++ (wCourse aC cI uC))))) (st_YPSC_Y_7 cI cJ aY aP aS aC (aC 0) (upF 6 p4 (upF 5 p3 (upF 4 p2 uY))) uP uS uC 0) dX4_run_23 ?_
  refine mk_aload_n C 0 dX4_run_26 rfl ?_
  refine mk_iconst C (v := 0) dX4_run_27 (by decide) ?_
  refine mk_put C mk_inX4 tyX4 tyX4_ok nmX4 0 rfl rfl 8 (by decide) mw_260 rfl rfl rfl (Nat.le_of_ble_eq_true rfl) (ws' := (wPlay aY aP aS (aC 0) cI (upF 8 0 (upF 7 0 (upF 6 p4 (upF 5 p3 (upF 4 p2 uY))))) ++ (wPlan aP cI uP ++ (wStack aS cI uS ++ (wCourse aC cI uC))))) (st_YPSC_Y_8 cI cJ aY aP aS aC (aC 0) (upF 7 0 (upF 6 p4 (upF 5 p3 (upF 4 p2 uY)))) uP uS uC 0) dX4_run_28 ?_
  refine mk_aload_n C 0 dX4_run_31 rfl ?_
  refine mk_iconst C (v := 0) dX4_run_32 (by decide) ?_
  refine mk_put C mk_inX4 tyX4 tyX4_ok nmX4 0 rfl rfl 9 (by decide) mw_261 rfl rfl rfl (Nat.le_of_ble_eq_true rfl) (ws' := (wPlay aY aP aS (aC 0) cI (upF 9 0 (upF 8 0 (upF 7 0 (upF 6 p4 (upF 5 p3 (upF 4 p2 uY)))))) ++ (wPlan aP cI uP ++ (wStack aS cI uS ++ (wCourse aC cI uC))))) (st_YPSC_Y_9 cI cJ aY aP aS aC (aC 0) (upF 8 0 (upF 7 0 (upF 6 p4 (upF 5 p3 (upF 4 p2 uY))))) uP uS uC 0) dX4_run_33 ?_
  refine mk_aload_n C 0 dX4_run_36 rfl ?_
  refine mk_iconst C (v := 0) dX4_run_37 (by decide) ?_
  refine mk_put C mk_inX4 tyX4 tyX4_ok nmX4 0 rfl rfl 10 (by decide) mw_262 rfl rfl rfl (Nat.le_of_ble_eq_true rfl) (ws' := (wPlay aY aP aS (aC 0) cI (upF 10 0 (upF 9 0 (upF 8 0 (upF 7 0 (upF 6 p4 (upF 5 p3 (upF 4 p2 uY))))))) ++ (wPlan aP cI uP ++ (wStack aS cI uS ++ (wCourse aC cI uC))))) (st_YPSC_Y_10 cI cJ aY aP aS aC (aC 0) (upF 9 0 (upF 8 0 (upF 7 0 (upF 6 p4 (upF 5 p3 (upF 4 p2 uY)))))) uP uS uC 0) dX4_run_38 ?_
  refine mk_aload_n C 0 dX4_run_41 rfl ?_
  refine mk_iconst C (v := 0) dX4_run_42 (by decide) ?_
  refine mk_put C mk_inX4 tyX4 tyX4_ok nmX4 0 rfl rfl 11 (by decide) mw_263 rfl rfl rfl (Nat.le_of_ble_eq_true rfl) (ws' := (wPlay aY aP aS (aC 0) cI (upF 11 0 (upF 10 0 (upF 9 0 (upF 8 0 (upF 7 0 (upF 6 p4 (upF 5 p3 (upF 4 p2 uY)))))))) ++ (wPlan aP cI uP ++ (wStack aS cI uS ++ (wCourse aC cI uC))))) (st_YPSC_Y_11 cI cJ aY aP aS aC (aC 0) (upF 10 0 (upF 9 0 (upF 8 0 (upF 7 0 (upF 6 p4 (upF 5 p3 (upF 4 p2 uY))))))) uP uS uC 0) dX4_run_43 ?_
  refine mk_aload_n C 0 dX4_run_46 rfl ?_
  refine mk_iconst C (v := 0) dX4_run_47 (by decide) ?_
  refine mk_put C mk_inX4 tyX4 tyX4_ok nmX4 0 rfl rfl 12 (by decide) mw_264 rfl rfl rfl (Nat.le_of_ble_eq_true rfl) (ws' := (wPlay aY aP aS (aC 0) cI (upF 12 0 (upF 11 0 (upF 10 0 (upF 9 0 (upF 8 0 (upF 7 0 (upF 6 p4 (upF 5 p3 (upF 4 p2 uY))))))))) ++ (wPlan aP cI uP ++ (wStack aS cI uS ++ (wCourse aC cI uC))))) (st_YPSC_Y_12 cI cJ aY aP aS aC (aC 0) (upF 11 0 (upF 10 0 (upF 9 0 (upF 8 0 (upF 7 0 (upF 6 p4 (upF 5 p3 (upF 4 p2 uY)))))))) uP uS uC 0) dX4_run_48 ?_
  refine mk_aload_n C 0 dX4_run_51 rfl ?_
  refine mk_get C mk_inX4 0 rfl rfl 1 (by decide) mw_252 (v := .ref (aS 0)) rfl dX4_run_52 ?_
  refine mk_iconst C (v := 0) dX4_run_55 (by decide) ?_
  refine mk_put C mk_inX6 tyX6 tyX6_ok nmX6 8 rfl rfl 3 (by decide) mw_171 rfl rfl rfl (Nat.le_of_ble_eq_true rfl) (ws' := (wPlay aY aP aS (aC 0) cI (upF 12 0 (upF 11 0 (upF 10 0 (upF 9 0 (upF 8 0 (upF 7 0 (upF 6 p4 (upF 5 p3 (upF 4 p2 uY))))))))) ++ (wPlan aP cI uP ++ (wStack aS cI (upF 3 0 uS) ++ (wCourse aC cI uC))))) (st_YPSC_S_3 cI cJ aY aP aS aC (aC 0) (upF 12 0 (upF 11 0 (upF 10 0 (upF 9 0 (upF 8 0 (upF 7 0 (upF 6 p4 (upF 5 p3 (upF 4 p2 uY))))))))) uP uS uC 0) dX4_run_56 ?_
  refine mk_aload_n C 0 dX4_run_59 rfl ?_
  refine mk_get C mk_inX4 0 rfl rfl 2 (by decide) mw_253 (v := .ref (aY 3)) rfl dX4_run_60 ?_
  refine mk_iconst C (v := 0) dX4_run_63 (by decide) ?_
  refine mk_callSv C (c_fill l D cI cJ cB cZ cS X Y (aY 3) 10 (uY 2) 0 (by decide)) mw_518 mw_519 mw_17 mw_520 mkn_J7_fill_53178 rfl ⟨Nat.le_of_ble_eq_true rfl, Nat.le_of_ble_eq_true rfl⟩ (mk_Fr.put (q := 1) (ws' := (wPlay aY aP aS (aC 0) cI (upR 2 (mkFill 10 (uY 2) 0) (upF 12 0 (upF 11 0 (upF 10 0 (upF 9 0 (upF 8 0 (upF 7 0 (upF 6 p4 (upF 5 p3 (upF 4 p2 uY)))))))))) ++ (wPlan aP cI uP ++ (wStack aS cI (upF 3 0 uS) ++ (wCourse aC cI uC))))) rfl (st_YPSC_Y_2 cI cJ aY aP aS aC (aC 0) (upF 12 0 (upF 11 0 (upF 10 0 (upF 9 0 (upF 8 0 (upF 7 0 (upF 6 p4 (upF 5 p3 (upF 4 p2 uY))))))))) uP (upF 3 0 uS) uC (mkFill 10 (uY 2) 0))) (Nat.le_of_ble_eq_true rfl) dX4_run_64 rfl ?_
  refine mk_aload_n C 0 dX4_run_67 rfl ?_
  refine mk_get C mk_inX4 0 rfl rfl 3 (by decide) mw_254 (v := .ref (aC 0)) rfl dX4_run_68 ?_
  obtain ⟨uC_12, h13, hf⟩ := b1_some hf
  refine mk_callVv C (c_C_clear l D cI cJ cB cZ cS X Y aC uC uC_12 h13) mw_521 mw_522 mw_523 mw_7 mw_524 mkn_X1_clear rfl ⟨Nat.le_of_ble_eq_true rfl, Nat.le_of_ble_eq_true rfl⟩ 12 rfl rfl rfl (fr_Y_C cI cJ aY aP aS aC (aC 0) (upR 2 (mkFill 10 (uY 2) 0) (upF 12 0 (upF 11 0 (upF 10 0 (upF 9 0 (upF 8 0 (upF 7 0 (upF 6 p4 (upF 5 p3 (upF 4 p2 uY)))))))))) uP (upF 3 0 uS) uC uC_12) (Nat.le_of_ble_eq_true rfl) dX4_run_71 rfl ?_
  refine mk_iconst C (v := 0) dX4_run_74 (by decide) ?_
  refine mk_istore C (lv' := [(5, .int 0), (0, .ref (aY 0)), (1, .ref (aC 0)), (2, .int p2), (3, .int p3), (4, .int p4)]) dX4_run_75 (by decide) rfl ?_
  exact mk_lvsub [1, 0] rfl (wL77 600 _ _ _ _ hf)
