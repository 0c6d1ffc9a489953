set_option maxHeartbeats 40000000 in
set_option maxRecDepth 100000 in
theorem c_R_readNoise (l : Launch) (D : va_G) (cI cJ cB cZ cS : ClassId) (X : Nat → Nat) (Y : mk_Y) (aR aT aD : Nat → Nat) (uR : Nat → Nat → Int32) (uT : Nat → Nat → Int32) (uD : Nat → Nat → Int32) (r : Int32) (wR : Nat → Nat → Int32) (wD : Nat → Nat → Int32) (hf : f_R_readNoise uR uT uD = some (r, wR, wD)) : mk_Met l yX5_readNoise cX5_readNoise 2 (some .boolean) ({ frames := 8, cells := 0, slots := 0, locals := 224 }) D (mk_TY cI cJ cB cZ cS) X Y [.ref (aR 0)] (wReader aR aT aD uR ++ (wTape aT cI uT ++ (wPlan aD cI uD))) (wReader aR aT aD wR ++ (wTape aT cI uT ++ (wPlan aD cI wD))) (some (.int r)) 0 0 := by
  refine mk_start (own := RX5) (by decide) rfl (Nat.le_of_ble_eq_true rfl) ?_
  intro sz p e s m args below meth c A C hr hlk hnm
  replace C : mk_Cx p s m args c cX5_readNoise 2 RX5 D (mk_TY cI cJ cB cZ cS) X Y A := C
  show mk_Go p l e (headSpec (mk_ws yX5_readNoise cX5_readNoise 2 (some .boolean)) ({ frames := 8, cells := 0, slots := 0, locals := 224 })).room s m args below meth c D A 2 0 0 (MQ below (mk_Q (some (.int r)) D (wReader aR aT aD wR ++ (wTape aT cI uT ++ (wPlan aD cI wD))) A) args s 0 0 A) 0 (wReader aR aT aD uR ++ (wTape aT cI uT ++ (wPlan aD cI uD))) [(0, .ref (aR 0))] []
  unfold f_R_readNoise at hf
  refine mk_aload_n C 0 dX5_readNoise_0 rfl ?_
  refine mk_get C mk_inX5 0 rfl rfl 1 (by decide) mw_126 (v := .ref (aD 0)) rfl dX5_readNoise_1 ?_
  refine mk_get C mk_inX3 3 rfl rfl 6 (by decide) mw_86 (v := .int (uD 6 0)) rfl dX5_readNoise_4 ?_
  refine mk_bipush C (v := 10) dX5_readNoise_7 (by decide) ?_
  refine mk_icmp_lt C 18 dX5_readNoise_9 (by decide) (fun c1 => ?_) (fun c1 => ?_)
  · replace hf := (if_pos c1).symm.trans hf
    refine mk_aload_n C 0 dX5_readNoise_18 rfl ?_
    refine mk_ldcS C (k := 6) (List.mem_of_getElem? (i := 6) rfl) dX5_readNoise_19 ?_
    obtain ⟨r2, uR_3, h4, hf⟩ := b2_some hf
    refine mk_callVi C (c_R_readWord l D cI cJ cB cZ cS X Y aR aT aD uR uT uD 6 (by decide) r2 uR_3 h4) mw_447 mw_448 mw_449 mw_2 mw_450 mkn_X5_readWord rfl ⟨Nat.le_of_ble_eq_true rfl, Nat.le_of_ble_eq_true rfl⟩ 0 rfl rfl rfl (mk_Fr.all _ _) (Nat.le_of_ble_eq_true rfl) dX5_readNoise_21 rfl ?_
    refine mk_if_eq C 38 dX5_readNoise_24 (by decide) (fun c5 => ?_) (fun c5 => ?_)
    · replace hf := (if_pos c5).symm.trans hf
      refine mk_iconst C (v := 0) dX5_readNoise_38 (by decide) ?_
      have e := Option.some.inj hf
      simp only [Prod.mk.injEq] at e
      obtain ⟨e0, e1, e2⟩ := e
      exact mk_zret C hr hlk rfl e0 (by rw [← e1, ← e2]) dX5_readNoise_39
    · replace hf := (if_neg c5).symm.trans hf
      refine mk_aload_n C 0 dX5_readNoise_27 rfl ?_
      refine mk_iconst C (v := 0) dX5_readNoise_28 (by decide) ?_
      refine mk_sipush C (v := 199) dX5_readNoise_29 (by decide) ?_
      obtain ⟨r6, uR_7, h8, hf⟩ := b2_some hf
      refine mk_callVi C (c_R_readNumber l D cI cJ cB cZ cS X Y aR aT aD uR_3 uT uD 0 199 r6 uR_7 h8) mw_455 mw_456 mw_457 mw_2 mw_458 mkn_X5_readNumber rfl ⟨Nat.le_of_ble_eq_true rfl, Nat.le_of_ble_eq_true rfl⟩ 0 rfl rfl rfl (mk_Fr.all _ _) (Nat.le_of_ble_eq_true rfl) dX5_readNoise_32 rfl ?_
      refine mk_if_ne C 40 dX5_readNoise_35 (by decide) (fun c9 => ?_) (fun c9 => ?_)
      · replace hf := (if_neg c9).symm.trans hf
        refine mk_aload_n C 0 dX5_readNoise_40 rfl ?_
        refine mk_get C mk_inX5 0 rfl rfl 1 (by decide) mw_126 (v := .ref (aD 0)) rfl dX5_readNoise_41 ?_
        refine mk_aload_n C 0 dX5_readNoise_44 rfl ?_
        refine mk_get C mk_inX5 0 rfl rfl 5 (by decide) mw_131 (v := .int (uR_7 5 0)) rfl dX5_readNoise_45 ?_
        obtain ⟨r10, h11, hf⟩ := b1_some hf
        refine mk_callVi C (c_P_isNoisy l D cI cJ cB cZ cS X Y aD uD (uR_7 5 0) r10 h11) mw_490 mw_491 mw_492 mw_4 mw_493 mkn_X3_isNoisy rfl ⟨Nat.le_of_ble_eq_true rfl, Nat.le_of_ble_eq_true rfl⟩ 3 rfl rfl rfl (fr_R_D cI cJ aR aT aD uR_7 uT uD uD) (Nat.le_of_ble_eq_true rfl) dX5_readNoise_48 rfl ?_
        refine mk_if_eq C 60 dX5_readNoise_51 (by decide) (fun c12 => ?_) (fun c12 => ?_)
        · replace hf := (if_pos c12).symm.trans hf
          refine mk_aload_n C 0 dX5_readNoise_60 rfl ?_
          refine mk_get C mk_inX5 0 rfl rfl 5 (by decide) mw_131 (v := .int (uR_7 5 0)) rfl dX5_readNoise_61 ?_
          refine mk_istore_n C (lv' := [(1, .int (uR_7 5 0)), (0, .ref (aR 0))]) dX5_readNoise_64 (by decide) rfl ?_
          refine mk_aload_n C 1 dX5_readNoise_65 rfl ?_
          refine mk_ldcS C (k := 9) (List.mem_of_getElem? (i := 9) rfl) dX5_readNoise_66 ?_
          obtain ⟨r13, uR_14, h15, hf⟩ := b2_some hf
          refine mk_callVi C (c_R_readWord l D cI cJ cB cZ cS X Y aR aT aD uR_7 uT uD 9 (by decide) r13 uR_14 h15) mw_447 mw_448 mw_449 mw_2 mw_450 mkn_X5_readWord rfl ⟨Nat.le_of_ble_eq_true rfl, Nat.le_of_ble_eq_true rfl⟩ 0 rfl rfl rfl (mk_Fr.all _ _) (Nat.le_of_ble_eq_true rfl) dX5_readNoise_68 rfl ?_
          refine mk_if_eq C 81 dX5_readNoise_71 (by decide) (fun c16 => ?_) (fun c16 => ?_)
          · replace hf := (if_pos c16).symm.trans hf
            refine mk_iconst C (v := 0) dX5_readNoise_81 (by decide) ?_
            have e := Option.some.inj hf
            simp only [Prod.mk.injEq] at e
            obtain ⟨e0, e1, e2⟩ := e
            exact mk_zret C hr hlk rfl e0 (by rw [← e1, ← e2]) dX5_readNoise_82
          · replace hf := (if_neg c16).symm.trans hf
            refine mk_aload_n C 1 dX5_readNoise_74 rfl ?_
            obtain ⟨r17, uR_18, h19, hf⟩ := b2_some hf
            refine mk_callVi C (c_R_readKind l D cI cJ cB cZ cS X Y aR aT aD uR_14 uT uD r17 uR_18 h19) mw_496 mw_497 mw_498 mw_2 mw_499 mkn_X5_readKind rfl ⟨Nat.le_of_ble_eq_true rfl, Nat.le_of_ble_eq_true rfl⟩ 0 rfl rfl rfl (mk_Fr.all _ _) (Nat.le_of_ble_eq_true rfl) dX5_readNoise_75 rfl ?_
            refine mk_if_ne C 83 dX5_readNoise_78 (by decide) (fun c20 => ?_) (fun c20 => ?_)
            · replace hf := (if_neg c20).symm.trans hf
              refine mk_aload_n C 1 dX5_readNoise_83 rfl ?_
              refine mk_get C mk_inX5 0 rfl rfl 1 (by decide) mw_126 (v := .ref (aD 0)) rfl dX5_readNoise_84 ?_
              refine mk_iload_n C 0 dX5_readNoise_87 rfl ?_
              refine mk_aload_n C 1 dX5_readNoise_88 rfl ?_
              refine mk_get C mk_inX5 0 rfl rfl 5 (by decide) mw_131 (v := .int (uR_18 5 0)) rfl dX5_readNoise_89 ?_
              obtain ⟨uD_21, h22, hf⟩ := b1_some hf
              refine mk_callVv C (c_P_addNoise l D cI cJ cB cZ cS X Y aD uD (uR_7 5 0) (uR_18 5 0) uD_21 h22) mw_503 mw_504 mw_505 mw_4 mw_506 mkn_X3_addNoise rfl ⟨Nat.le_of_ble_eq_true rfl, Nat.le_of_ble_eq_true rfl⟩ 3 rfl rfl rfl (fr_R_D cI cJ aR aT aD uR_18 uT uD uD_21) (Nat.le_of_ble_eq_true rfl) dX5_readNoise_92 rfl ?_
              refine mk_aload_n C 1 dX5_readNoise_95 rfl ?_
              obtain ⟨r23, uR_24, h25, hf⟩ := b2_some hf
              refine mk_callVi C (c_R_readSign l D cI cJ cB cZ cS X Y aR aT aD uR_18 uT uD_21 r23 uR_24 h25) mw_463 mw_464 mw_465 mw_2 mw_466 mkn_X5_readSign rfl ⟨Nat.le_of_ble_eq_true rfl, Nat.le_of_ble_eq_true rfl⟩ 0 rfl rfl rfl (mk_Fr.all _ _) (Nat.le_of_ble_eq_true rfl) dX5_readNoise_96 rfl ?_
              obtain ⟨g26, hf⟩ := gZ_some hf
              have e := Option.some.inj hf
              simp only [Prod.mk.injEq] at e
              obtain ⟨e0, e1, e2⟩ := e
              exact mk_zret C hr hlk (mk_nz g26) e0 (by rw [← e1, ← e2]) dX5_readNoise_99
            · replace hf := (if_pos c20).symm.trans hf
              refine mk_iconst C (v := 0) dX5_readNoise_81 (by decide) ?_
              have e := Option.some.inj hf
              simp only [Prod.mk.injEq] at e
              obtain ⟨e0, e1, e2⟩ := e
              exact mk_zret C hr hlk rfl e0 (by rw [← e1, ← e2]) dX5_readNoise_82
        · replace hf := (if_neg c12).symm.trans hf
          refine mk_aload_n C 0 dX5_readNoise_54 rfl ?_
          refine mk_iconst C (v := 2) dX5_readNoise_55 (by decide) ?_
          obtain ⟨r27, uR_28, h29, hf⟩ := b2_some hf
          refine mk_callVi C (c_R_refuse l D cI cJ cB cZ cS X Y aR aT aD uR_7 uT uD 2 r27 uR_28 h29) mw_451 mw_452 mw_453 mw_2 mw_454 mkn_X5_refuse rfl ⟨Nat.le_of_ble_eq_true rfl, Nat.le_of_ble_eq_true rfl⟩ 0 rfl rfl rfl (mk_Fr.all _ _) (Nat.le_of_ble_eq_true rfl) dX5_readNoise_56 rfl ?_
          obtain ⟨g30, hf⟩ := gZ_some hf
          have e := Option.some.inj hf
          simp only [Prod.mk.injEq] at e
          obtain ⟨e0, e1, e2⟩ := e
          exact mk_zret C hr hlk (mk_nz g30) e0 (by rw [← e1, ← e2]) dX5_readNoise_59
      · replace hf := (if_pos c9).symm.trans hf
        refine mk_iconst C (v := 0) dX5_readNoise_38 (by decide) ?_
        have e := Option.some.inj hf
        simp only [Prod.mk.injEq] at e
        obtain ⟨e0, e1, e2⟩ := e
        exact mk_zret C hr hlk rfl e0 (by rw [← e1, ← e2]) dX5_readNoise_39
  · replace hf := (if_neg c1).symm.trans hf
    refine mk_aload_n C 0 dX5_readNoise_12 rfl ?_
    refine mk_iconst C (v := 3) dX5_readNoise_13 (by decide) ?_
    obtain ⟨r31, uR_32, h33, hf⟩ := b2_some hf
    refine mk_callVi C (c_R_refuse l D cI cJ cB cZ cS X Y aR aT aD uR uT uD 3 r31 uR_32 h33) mw_451 mw_452 mw_453 mw_2 mw_454 mkn_X5_refuse rfl ⟨Nat.le_of_ble_eq_true rfl, Nat.le_of_ble_eq_true rfl⟩ 0 rfl rfl rfl (mk_Fr.all _ _) (Nat.le_of_ble_eq_true rfl) dX5_readNoise_14 rfl ?_
    obtain ⟨g34, hf⟩ := gZ_some hf
    have e := Option.some.inj hf
    simp only [Prod.mk.injEq] at e
    obtain ⟨e0, e1, e2⟩ := e
    exact mk_zret C hr hlk (mk_nz g34) e0 (by rw [← e1, ← e2]) dX5_readNoise_17
set_option maxHeartbeats 40000000 in
set_option maxRecDepth 100000 in
theorem c_R_readLine (l : Launch) (D : va_G) (cI cJ cB cZ cS : ClassId) (X : Nat → Nat) (Y : mk_Y) (aR aT aD : Nat → Nat) (uR : Nat → Nat → Int32) (uT : Nat → Nat → Int32) (uD : Nat → Nat → Int32) (r : Int32) (wR : Nat → Nat → Int32) (wD : Nat → Nat → Int32) (hf : f_R_readLine uR uT uD = some (r, wR, wD)) : mk_Met l yX5_readLine cX5_readLine 1 (some .boolean) ({ frames := 9, cells := 0, slots := 0, locals := 245 }) D (mk_TY cI cJ cB cZ cS) X Y [.ref (aR 0)] (wReader aR aT aD uR ++ (wTape aT cI uT ++ (wPlan aD cI uD))) (wReader aR aT aD wR ++ (wTape aT cI uT ++ (wPlan aD cI wD))) (some (.int r)) 0 0 := by
  refine mk_start (own := RX5) (by decide) rfl (Nat.le_of_ble_eq_true rfl) ?_
  intro sz p e s m args below meth c A C hr hlk hnm
  replace C : mk_Cx p s m args c cX5_readLine 1 RX5 D (mk_TY cI cJ cB cZ cS) X Y A := C
  have wL80 : ∀ (uR : Nat → Nat → Int32) (uD : Nat → Nat → Int32), f_R_readLine_80 uT uR uD = some (r, wR, wD) → mk_Go p l e (headSpec (mk_ws yX5_readLine cX5_readLine 1 (some .boolean)) ({ frames := 9, cells := 0, slots := 0, locals := 245 })).room s m args below meth c D A 1 0 0 (MQ below (mk_Q (some (.int r)) D (wReader aR aT aD wR ++ (wTape aT cI uT ++ (wPlan aD cI wD))) A) args s 0 0 A) 80 (wReader aR aT aD uR ++ (wTape aT cI uT ++ (wPlan aD cI uD))) [(0, .ref (aR 0))] [] := by
    intro  uR uD hf
    unfold f_R_readLine_80 at hf
    refine mk_aload_n C 0 dX5_readLine_80 rfl ?_
    refine mk_iconst C (v := 1) dX5_readLine_81 (by decide) ?_
    obtain ⟨r1, uR_2, h3, hf⟩ := b2_some hf
    refine mk_callVi C (c_R_refuse l D cI cJ cB cZ cS X Y aR aT aD uR uT uD 1 r1 uR_2 h3) mw_451 mw_452 mw_453 mw_2 mw_454 mkn_X5_refuse rfl ⟨Nat.le_of_ble_eq_true rfl, Nat.le_of_ble_eq_true rfl⟩ 0 rfl rfl rfl (mk_Fr.all _ _) (Nat.le_of_ble_eq_true rfl) dX5_readLine_82 rfl ?_
    obtain ⟨g4, hf⟩ := gZ_some hf
    have e := Option.some.inj hf
    simp only [Prod.mk.injEq] at e
    obtain ⟨e0, e1, e2⟩ := e
    exact mk_zret C hr hlk (mk_nz g4) e0 (by rw [← e1, ← e2]) dX5_readLine_85
  have wL56 : ∀ (uR : Nat → Nat → Int32) (uD : Nat → Nat → Int32), f_R_readLine_56 uT uR uD = some (r, wR, wD) → mk_Go p l e (headSpec (mk_ws yX5_readLine cX5_readLine 1 (some .boolean)) ({ frames := 9, cells := 0, slots := 0, locals := 245 })).room s m args below meth c D A 1 0 0 (MQ below (mk_Q (some (.int r)) D (wReader aR aT aD wR ++ (wTape aT cI uT ++ (wPlan aD cI wD))) A) args s 0 0 A) 56 (wReader aR aT aD uR ++ (wTape aT cI uT ++ (wPlan aD cI uD))) [(0, .ref (aR 0))] [] := by
    intro  uR uD hf
    unfold f_R_readLine_56 at hf
    refine mk_aload_n C 0 dX5_readLine_56 rfl ?_
    refine mk_get C mk_inX5 0 rfl rfl 1 (by decide) mw_126 (v := .ref (aD 0)) rfl dX5_readLine_57 ?_
    refine mk_get C mk_inX3 3 rfl rfl 4 (by decide) mw_77 (v := .int (uD 4 0)) rfl dX5_readLine_60 ?_
    refine mk_if_le C 80 dX5_readLine_63 (by decide) (fun c5 => ?_) (fun c5 => ?_)
    · replace hf := (if_pos c5).symm.trans hf
      exact mk_lvsub [0] rfl (wL80 _ _ hf)
    · replace hf := (if_neg c5).symm.trans hf
      refine mk_aload_n C 0 dX5_readLine_66 rfl ?_
      refine mk_ldcS C (k := 8) (List.mem_of_getElem? (i := 8) rfl) dX5_readLine_67 ?_
      obtain ⟨r6, h7, hf⟩ := b1_some hf
      refine mk_callVi C (c_R_isWord l D cI cJ cB cZ cS X Y aR aT aD uR uT uD 8 (by decide) r6 h7) mw_390 mw_391 mw_392 mw_2 mw_393 mkn_X5_isWord rfl ⟨Nat.le_of_ble_eq_true rfl, Nat.le_of_ble_eq_true rfl⟩ 0 rfl rfl rfl (mk_Fr.all _ _) (Nat.le_of_ble_eq_true rfl) dX5_readLine_69 rfl ?_
      refine mk_if_eq C 80 dX5_readLine_72 (by decide) (fun c8 => ?_) (fun c8 => ?_)
      · replace hf := (if_pos c8).symm.trans hf
        exact mk_lvsub [0] rfl (wL80 _ _ hf)
      · replace hf := (if_neg c8).symm.trans hf
        refine mk_aload_n C 0 dX5_readLine_75 rfl ?_
        obtain ⟨r9, uR_10, uD_11, h12, hf⟩ := b3_some hf
        refine mk_callVi C (c_R_readNoise l D cI cJ cB cZ cS X Y aR aT aD uR uT uD r9 uR_10 uD_11 h12) mw_486 mw_487 mw_488 mw_2 mw_489 mkn_X5_readNoise rfl ⟨Nat.le_of_ble_eq_true rfl, Nat.le_of_ble_eq_true rfl⟩ 0 rfl rfl rfl (mk_Fr.all _ _) (Nat.le_of_ble_eq_true rfl) dX5_readLine_76 rfl ?_
        obtain ⟨g13, hf⟩ := gZ_some hf
        have e := Option.some.inj hf
        simp only [Prod.mk.injEq] at e
        obtain ⟨e0, e1, e2⟩ := e
        exact mk_zret C hr hlk (mk_nz g13) e0 (by rw [← e1, ← e2]) dX5_readLine_79
  show mk_Go p l e (headSpec (mk_ws yX5_readLine cX5_readLine 1 (some .boolean)) ({ frames := 9, cells := 0, slots := 0, locals := 245 })).room s m args below meth c D A 1 0 0 (MQ below (mk_Q (some (.int r)) D (wReader aR aT aD wR ++ (wTape aT cI uT ++ (wPlan aD cI wD))) A) args s 0 0 A) 0 (wReader aR aT aD uR ++ (wTape aT cI uT ++ (wPlan aD cI uD))) [(0, .ref (aR 0))] []
  unfold f_R_readLine at hf
  refine mk_aload_n C 0 dX5_readLine_0 rfl ?_
  refine mk_ldcS C (k := 0) (List.mem_of_getElem? (i := 0) rfl) dX5_readLine_1 ?_
  obtain ⟨r14, h15, hf⟩ := b1_some hf
  refine mk_callVi C (c_R_isWord l D cI cJ cB cZ cS X Y aR aT aD uR uT uD 0 (by decide) r14 h15) mw_390 mw_391 mw_392 mw_2 mw_393 mkn_X5_isWord rfl ⟨Nat.le_of_ble_eq_true rfl, Nat.le_of_ble_eq_true rfl⟩ 0 rfl rfl rfl (mk_Fr.all _ _) (Nat.le_of_ble_eq_true rfl) dX5_readLine_3 rfl ?_
  refine mk_if_eq C 32 dX5_readLine_6 (by decide) (fun c16 => ?_) (fun c16 => ?_)
  · replace hf := (if_pos c16).symm.trans hf
    refine mk_aload_n C 0 dX5_readLine_32 rfl ?_
    refine mk_get C mk_inX5 0 rfl rfl 1 (by decide) mw_126 (v := .ref (aD 0)) rfl dX5_readLine_33 ?_
    refine mk_get C mk_inX3 3 rfl rfl 4 (by decide) mw_77 (v := .int (uD 4 0)) rfl dX5_readLine_36 ?_
    refine mk_if_le C 56 dX5_readLine_39 (by decide) (fun c17 => ?_) (fun c17 => ?_)
    · replace hf := (if_pos c17).symm.trans hf
      exact mk_lvsub [0] rfl (wL56 _ _ hf)
    · replace hf := (if_neg c17).symm.trans hf
      refine mk_aload_n C 0 dX5_readLine_42 rfl ?_
      refine mk_ldcS C (k := 5) (List.mem_of_getElem? (i := 5) rfl) dX5_readLine_43 ?_
      obtain ⟨r18, h19, hf⟩ := b1_some hf
      refine mk_callVi C (c_R_isWord l D cI cJ cB cZ cS X Y aR aT aD uR uT uD 5 (by decide) r18 h19) mw_390 mw_391 mw_392 mw_2 mw_393 mkn_X5_isWord rfl ⟨Nat.le_of_ble_eq_true rfl, Nat.le_of_ble_eq_true rfl⟩ 0 rfl rfl rfl (mk_Fr.all _ _) (Nat.le_of_ble_eq_true rfl) dX5_readLine_45 rfl ?_
      refine mk_if_eq C 56 dX5_readLine_48 (by decide) (fun c20 => ?_) (fun c20 => ?_)
      · replace hf := (if_pos c20).symm.trans hf
        exact mk_lvsub [0] rfl (wL56 _ _ hf)
      · replace hf := (if_neg c20).symm.trans hf
        refine mk_aload_n C 0 dX5_readLine_51 rfl ?_
        obtain ⟨r21, uR_22, uD_23, h24, hf⟩ := b3_some hf
        refine mk_callVi C (c_R_readSender l D cI cJ cB cZ cS X Y aR aT aD uR uT uD r21 uR_22 uD_23 h24) mw_468 mw_469 mw_470 mw_2 mw_471 mkn_X5_readSender rfl ⟨Nat.le_of_ble_eq_true rfl, Nat.le_of_ble_eq_true rfl⟩ 0 rfl rfl rfl (mk_Fr.all _ _) (Nat.le_of_ble_eq_true rfl) dX5_readLine_52 rfl ?_
        obtain ⟨g25, hf⟩ := gZ_some hf
        have e := Option.some.inj hf
        simp only [Prod.mk.injEq] at e
        obtain ⟨e0, e1, e2⟩ := e
        exact mk_zret C hr hlk (mk_nz g25) e0 (by rw [← e1, ← e2]) dX5_readLine_55
  · replace hf := (if_neg c16).symm.trans hf
    refine mk_aload_n C 0 dX5_readLine_9 rfl ?_
    refine mk_get C mk_inX5 0 rfl rfl 1 (by decide) mw_126 (v := .ref (aD 0)) rfl dX5_readLine_10 ?_
    refine mk_get C mk_inX3 3 rfl rfl 4 (by decide) mw_77 (v := .int (uD 4 0)) rfl dX5_readLine_13 ?_
    refine mk_if_ne C 26 dX5_readLine_16 (by decide) (fun c26 => ?_) (fun c26 => ?_)
    · replace hf := (if_neg c26).symm.trans hf
      refine mk_aload_n C 0 dX5_readLine_26 rfl ?_
      refine mk_iconst C (v := 1) dX5_readLine_27 (by decide) ?_
      obtain ⟨r27, uR_28, h29, hf⟩ := b2_some hf
      refine mk_callVi C (c_R_refuse l D cI cJ cB cZ cS X Y aR aT aD uR uT uD 1 r27 uR_28 h29) mw_451 mw_452 mw_453 mw_2 mw_454 mkn_X5_refuse rfl ⟨Nat.le_of_ble_eq_true rfl, Nat.le_of_ble_eq_true rfl⟩ 0 rfl rfl rfl (mk_Fr.all _ _) (Nat.le_of_ble_eq_true rfl) dX5_readLine_28 rfl ?_
      obtain ⟨g30, hf⟩ := gZ_some hf
      have e := Option.some.inj hf
      simp only [Prod.mk.injEq] at e
      obtain ⟨e0, e1, e2⟩ := e
      exact mk_zret C hr hlk (mk_nz g30) e0 (by rw [← e1, ← e2]) dX5_readLine_31
    · replace hf := (if_pos c26).symm.trans hf
      refine mk_aload_n C 0 dX5_readLine_19 rfl ?_
      obtain ⟨r31, uR_32, uD_33, h34, hf⟩ := b3_some hf
      refine mk_callVi C (c_R_readChannel l D cI cJ cB cZ cS X Y aR aT aD uR uT uD r31 uR_32 uD_33 h34) mw_442 mw_443 mw_444 mw_2 mw_445 mkn_X5_readChannel rfl ⟨Nat.le_of_ble_eq_true rfl, Nat.le_of_ble_eq_true rfl⟩ 0 rfl rfl rfl (mk_Fr.all _ _) (Nat.le_of_ble_eq_true rfl) dX5_readLine_20 rfl ?_
      refine mk_goto C 31 dX5_readLine_23 (by decide) ?_
      obtain ⟨g35, hf⟩ := gZ_some hf
      have e := Option.some.inj hf
      simp only [Prod.mk.injEq] at e
      obtain ⟨e0, e1, e2⟩ := e
      exact mk_zret C hr hlk (mk_nz g35) e0 (by rw [← e1, ← e2]) dX5_readLine_31
set_option maxHeartbeats 40000000 in
set_option maxRecDepth 100000 in
theorem c_R_read (l : Launch) (D : va_G) (cI cJ cB cZ cS : ClassId) (X : Nat → Nat) (Y : mk_Y) (aR aT aD : Nat → Nat) (uR : Nat → Nat → Int32) (uT : Nat → Nat → Int32) (uD : Nat → Nat → Int32) (r : Int32) (wR : Nat → Nat → Int32) (wD : Nat → Nat → Int32) (hf : f_R_read uR uT uD = some (r, wR, wD)) : mk_Met l yX5_read cX5_read 2 (some .boolean) ({ frames := 10, cells := 0, slots := 0, locals := 265 }) D (mk_TY cI cJ cB cZ cS) X Y [.ref (aR 0)] (wReader aR aT aD uR ++ (wTape aT cI uT ++ (wPlan aD cI uD))) (wReader aR aT aD wR ++ (wTape aT cI uT ++ (wPlan aD cI wD))) (some (.int r)) 0 0 := by
  refine mk_start (own := RX5) (by decide) rfl (Nat.le_of_ble_eq_true rfl) ?_
  intro sz p e s m args below meth c A C hr hlk hnm
  replace C : mk_Cx p s m args c cX5_read 2 RX5 D (mk_TY cI cJ cB cZ cS) X Y A := C
  have wL24 : ∀ (n : Nat) (v1 : Int32) (uR : Nat → Nat → Int32) (uD : Nat → Nat → Int32), f_R_read_24 uT n v1 uR uD = some (r, wR, wD) → mk_Go p l e (headSpec (mk_ws yX5_read cX5_read 2 (some .boolean)) ({ frames := 10, cells := 0, slots := 0, locals := 265 })).room s m args below meth c D A 2 0 0 (MQ below (mk_Q (some (.int r)) D (wReader aR aT aD wR ++ (wTape aT cI uT ++ (wPlan aD cI wD))) A) args s 0 0 A) 24 (wReader aR aT aD uR ++ (wTape aT cI uT ++ (wPlan aD cI uD))) [(0, .ref (aR 0)), (1, .int v1)] [] := by
    intro  n
    induction n with
    | zero => intro v1 uR uD hf; exact nomatch (show (none : Option (Int32 × (Nat → Nat → Int32) × (Nat → Nat → Int32))) = some _ from hf)
    | succ n ih =>
      intro v1 uR uD hf
      rw [f_R_read_24] at hf
      refine mk_iload_n C 1 dX5_read_24 rfl ?_
      refine mk_sipush C (v := 500) dX5_read_25 (by decide) ?_
      refine mk_icmp_gt C 72 dX5_read_28 (by decide) (fun c1 => ?_) (fun c1 => ?_)
      · replace hf := (if_pos c1).symm.trans hf
        refine mk_iconst C (v := 1) dX5_read_72 (by decide) ?_
        have e := Option.some.inj hf
        simp only [Prod.mk.injEq] at e
        obtain ⟨e0, e1, e2⟩ := e
        exact mk_zret C hr hlk rfl e0 (by rw [← e1, ← e2]) dX5_read_73
      · replace hf := (if_neg c1).symm.trans hf
        refine mk_aload_n C 0 dX5_read_31 rfl ?_
        obtain ⟨uR_2, h3, hf⟩ := b1_some hf
        refine mk_callVv C (c_R_step l D cI cJ cB cZ cS X Y aR aT aD uR uT uD uR_2 h3) mw_372 mw_373 mw_374 mw_2 mw_375 mkn_X5_step rfl ⟨Nat.le_of_ble_eq_true rfl, Nat.le_of_ble_eq_true rfl⟩ 0 rfl rfl rfl (mk_Fr.all _ _) (Nat.le_of_ble_eq_true rfl) dX5_read_32 rfl ?_
        refine mk_aload_n C 0 dX5_read_35 rfl ?_
        refine mk_get C mk_inX5 0 rfl rfl 2 (by decide) mw_128 (v := .int (uR_2 2 0)) rfl dX5_read_36 ?_
        refine mk_if_ne C 44 dX5_read_39 (by decide) (fun c4 => ?_) (fun c4 => ?_)
        · replace hf := (if_neg c4).symm.trans hf
          refine mk_aload_n C 0 dX5_read_44 rfl ?_
          obtain ⟨r5, uR_6, uD_7, h8, hf⟩ := b3_some hf
          refine mk_callVi C (c_R_readLine l D cI cJ cB cZ cS X Y aR aT aD uR_2 uT uD r5 uR_6 uD_7 h8) mw_385 mw_386 mw_387 mw_2 mw_388 mkn_X5_readLine rfl ⟨Nat.le_of_ble_eq_true rfl, Nat.le_of_ble_eq_true rfl⟩ 0 rfl rfl rfl (mk_Fr.all _ _) (Nat.le_of_ble_eq_true rfl) dX5_read_45 rfl ?_
          refine mk_if_ne C 53 dX5_read_48 (by decide) (fun c9 => ?_) (fun c9 => ?_)
          · replace hf := (if_neg c9).symm.trans hf
            refine mk_aload_n C 0 dX5_read_53 rfl ?_
            refine mk_get C mk_inX5 0 rfl rfl 1 (by decide) mw_126 (v := .ref (aD 0)) rfl dX5_read_54 ?_
            refine mk_dup C dX5_read_57 rfl ?_
            refine mk_get C mk_inX3 3 rfl rfl 4 (by decide) mw_77 (v := .int (uD_7 4 0)) rfl dX5_read_58 ?_
            refine mk_iconst C (v := 1) dX5_read_61 (by decide) ?_
            refine mk_iadd C dX5_read_62 ?_
            refine mk_put C mk_inX3 tyX3 tyX3_ok nmX3 3 rfl rfl 4 (by decide) mw_77 rfl rfl rfl (Nat.le_of_ble_eq_true rfl) (ws' := (wReader aR aT aD uR_6 ++ (wTape aT cI uT ++ (wPlan aD cI (upF 4 ((uD_7 4 0) + 1) uD_7))))) (st_RTD_D_4 cI cJ aR aT aD uR_6 uT uD_7 ((uD_7 4 0) + 1)) dX5_read_63 ?_
            refine mk_iinc C (v := (v1 + 1)) (lv' := [(1, .int (v1 + 1)), (0, .ref (aR 0))]) 1 dX5_read_66 rfl rfl (by decide) rfl ?_
            refine mk_goto C 24 dX5_read_69 (by decide) ?_
            exact mk_lvsub [1, 0] rfl (ih _ _ _ hf)
          · replace hf := (if_pos c9).symm.trans hf
            refine mk_iconst C (v := 0) dX5_read_51 (by decide) ?_
            have e := Option.some.inj hf
            simp only [Prod.mk.injEq] at e
            obtain ⟨e0, e1, e2⟩ := e
            exact mk_zret C hr hlk rfl e0 (by rw [← e1, ← e2]) dX5_read_52
        · replace hf := (if_pos c4).symm.trans hf
          refine mk_iconst C (v := 1) dX5_read_42 (by decide) ?_
          have e := Option.some.inj hf
          simp only [Prod.mk.injEq] at e
          obtain ⟨e0, e1, e2⟩ := e
          exact mk_zret C hr hlk rfl e0 (by rw [← e1, ← e2]) dX5_read_43
  show mk_Go p l e (headSpec (mk_ws yX5_read cX5_read 2 (some .boolean)) ({ frames := 10, cells := 0, slots := 0, locals := 265 })).room s m args below meth c D A 2 0 0 (MQ below (mk_Q (some (.int r)) D (wReader aR aT aD wR ++ (wTape aT cI uT ++ (wPlan aD cI wD))) A) args s 0 0 A) 0 (wReader aR aT aD uR ++ (wTape aT cI uT ++ (wPlan aD cI uD))) [(0, .ref (aR 0))] []
  unfold f_R_read at hf
  refine mk_aload_n C 0 dX5_read_0 rfl ?_
  refine mk_get C mk_inX5 0 rfl rfl 1 (by decide) mw_126 (v := .ref (aD 0)) rfl dX5_read_1 ?_
  obtain ⟨uD_10, h11, hf⟩ := b1_some hf
  refine mk_callVv C (c_P_clear l D cI cJ cB cZ cS X Y aD uD uD_10 h11) mw_368 mw_369 mw_370 mw_4 mw_371 mkn_X3_clear rfl ⟨Nat.le_of_ble_eq_true rfl, Nat.le_of_ble_eq_true rfl⟩ 3 rfl rfl rfl (fr_R_D cI cJ aR aT aD uR uT uD uD_10) (Nat.le_of_ble_eq_true rfl) dX5_read_4 rfl ?_
  refine mk_aload_n C 0 dX5_read_7 rfl ?_
  refine mk_iconst C (v := 0) dX5_read_8 (by decide) ?_
  refine mk_put C mk_inX5 tyX5 tyX5_ok nmX5 0 rfl rfl 6 (by decide) mw_132 rfl rfl rfl (Nat.le_of_ble_eq_true rfl) (ws' := (wReader aR aT aD (upF 6 0 uR) ++ (wTape aT cI uT ++ (wPlan aD cI uD_10)))) (st_RTD_R_6 cI cJ aR aT aD uR uT uD_10 0) dX5_read_9 ?_
  refine mk_aload_n C 0 dX5_read_12 rfl ?_
  refine mk_iconst C (v := (-1)) dX5_read_13 (by decide) ?_
  refine mk_put C mk_inX5 tyX5 tyX5_ok nmX5 0 rfl rfl 7 (by decide) mw_133 rfl rfl rfl (Nat.le_of_ble_eq_true rfl) (ws' := (wReader aR aT aD (upF 7 (-1) (upF 6 0 uR)) ++ (wTape aT cI uT ++ (wPlan aD cI uD_10)))) (st_RTD_R_7 cI cJ aR aT aD (upF 6 0 uR) uT uD_10 (-1)) dX5_read_14 ?_
  refine mk_aload_n C 0 dX5_read_17 rfl ?_
  refine mk_iconst C (v := 0) dX5_read_18 (by decide) ?_
  refine mk_put C mk_inX5 tyX5 tyX5_ok nmX5 0 rfl rfl 4 (by decide) mw_130 rfl rfl rfl (Nat.le_of_ble_eq_true rfl) (ws' := (wReader aR aT aD (upF 4 0 (upF 7 (-1) (upF 6 0 uR))) ++ (wTape aT cI uT ++ (wPlan aD cI uD_10)))) (st_RTD_R_4 cI cJ aR aT aD (upF 7 (-1) (upF 6 0 uR)) uT uD_10 0) dX5_read_19 ?_
  refine mk_iconst C (v := 0) dX5_read_22 (by decide) ?_
  refine mk_istore_n C (lv' := [(1, .int 0), (0, .ref (aR 0))]) dX5_read_23 (by decide) rfl ?_
  exact mk_lvsub [1, 0] rfl (wL24 600 _ _ _ hf)
