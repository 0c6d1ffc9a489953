set_option maxHeartbeats 40000000 in
set_option maxRecDepth 100000 in
theorem c_R_isBlank (l : Launch) (D : va_G) (cI cJ cB cZ cS : ClassId) (X : Nat → Nat) (Y : mk_Y) (p0 : Int32) (r : Int32) (hf : f_R_isBlank p0 = some r) : mk_Met l yX5_isBlank cX5_isBlank 1 (some .boolean) ({ frames := 0, cells := 0, slots := 0, locals := 0 }) D (mk_TY cI cJ cB cZ cS) X Y [.int p0] ([] : va_W) ([] : va_W) (some (.int r)) 0 0 := by
  refine mk_start (own := RX5) (by decide) rfl (Nat.le_of_ble_eq_true rfl) ?_
  intro sz p e s m args below meth c A C hr hlk hnm
  replace C : mk_Cx p s m args c cX5_isBlank 1 RX5 D (mk_TY cI cJ cB cZ cS) X Y A := C
  show mk_Go p l e (headSpec (mk_ws yX5_isBlank cX5_isBlank 1 (some .boolean)) ({ frames := 0, cells := 0, slots := 0, locals := 0 })).room s m args below meth c D A 1 0 0 (MQ below (mk_Q (some (.int r)) D ([] : va_W) A) args s 0 0 A) 0 ([] : va_W) [(0, .int p0)] []
  unfold f_R_isBlank at hf
  refine mk_iload_n C 0 dX5_isBlank_0 rfl ?_
  refine mk_bipush C (v := 32) dX5_isBlank_1 (by decide) ?_
  refine mk_icmp_eq C 12 dX5_isBlank_3 (by decide) (fun c1 => ?_) (fun c1 => ?_)
  · replace hf := (if_pos c1).symm.trans hf
    refine mk_iconst C (v := 1) dX5_isBlank_12 (by decide) ?_
    refine mk_goto C 17 dX5_isBlank_13 (by decide) ?_
    have e0 := Option.some.inj hf
    exact mk_zret C hr hlk rfl e0 rfl dX5_isBlank_17
  · replace hf := (if_neg c1).symm.trans hf
    refine mk_iload_n C 0 dX5_isBlank_6 rfl ?_
    refine mk_bipush C (v := 10) dX5_isBlank_7 (by decide) ?_
    refine mk_icmp_ne C 16 dX5_isBlank_9 (by decide) (fun c2 => ?_) (fun c2 => ?_)
    · replace hf := (if_neg c2).symm.trans hf
      refine mk_iconst C (v := 0) dX5_isBlank_16 (by decide) ?_
      have e0 := Option.some.inj hf
      exact mk_zret C hr hlk rfl e0 rfl dX5_isBlank_17
    · replace hf := (if_pos c2).symm.trans hf
      refine mk_iconst C (v := 1) dX5_isBlank_12 (by decide) ?_
      refine mk_goto C 17 dX5_isBlank_13 (by decide) ?_
      have e0 := Option.some.inj hf
      exact mk_zret C hr hlk rfl e0 rfl dX5_isBlank_17
set_option maxHeartbeats 40000000 in
set_option maxRecDepth 100000 in
theorem c_R_kindOf (l : Launch) (D : va_G) (cI cJ cB cZ cS : ClassId) (X : Nat → Nat) (Y : mk_Y) (p0 : Int32) (r : Int32) (hf : f_R_kindOf p0 = some r) : mk_Met l yX5_kindOf cX5_kindOf 1 (some .int) ({ frames := 0, cells := 0, slots := 0, locals := 0 }) D (mk_TY cI cJ cB cZ cS) X Y [.int p0] ([] : va_W) ([] : va_W) (some (.int r)) 0 0 := by
  refine mk_start (own := RX5) (by decide) rfl (Nat.le_of_ble_eq_true rfl) ?_
  intro sz p e s m args below meth c A C hr hlk hnm
  replace C : mk_Cx p s m args c cX5_kindOf 1 RX5 D (mk_TY cI cJ cB cZ cS) X Y A := C
  have wL28 : f_R_kindOf_28 p0 = some r → mk_Go p l e (headSpec (mk_ws yX5_kindOf cX5_kindOf 1 (some .int)) ({ frames := 0, cells := 0, slots := 0, locals := 0 })).room s m args below meth c D A 1 0 0 (MQ below (mk_Q (some (.int r)) D ([] : va_W) A) args s 0 0 A) 28 ([] : va_W) [(0, .int p0)] [] := by
    intro   hf
    unfold f_R_kindOf_28 at hf
    refine mk_iload_n C 0 dX5_kindOf_28 rfl ?_
    refine mk_bipush C (v := 59) dX5_kindOf_29 (by decide) ?_
    refine mk_icmp_ne C 38 dX5_kindOf_31 (by decide) (fun c1 => ?_) (fun c1 => ?_)
    · replace hf := (if_neg c1).symm.trans hf
      refine mk_iconst C (v := 4) dX5_kindOf_38 (by decide) ?_
      have e0 := Option.some.inj hf
      exact mk_iret C hr hlk e0 rfl dX5_kindOf_39
    · replace hf := (if_pos c1).symm.trans hf
      refine mk_iconst C (v := 3) dX5_kindOf_34 (by decide) ?_
      refine mk_goto C 39 dX5_kindOf_35 (by decide) ?_
      have e0 := Option.some.inj hf
      exact mk_iret C hr hlk e0 rfl dX5_kindOf_39
  have wL14 : f_R_kindOf_14 p0 = some r → mk_Go p l e (headSpec (mk_ws yX5_kindOf cX5_kindOf 1 (some .int)) ({ frames := 0, cells := 0, slots := 0, locals := 0 })).room s m args below meth c D A 1 0 0 (MQ below (mk_Q (some (.int r)) D ([] : va_W) A) args s 0 0 A) 14 ([] : va_W) [(0, .int p0)] [] := by
    intro   hf
    unfold f_R_kindOf_14 at hf
    refine mk_iload_n C 0 dX5_kindOf_14 rfl ?_
    refine mk_bipush C (v := 48) dX5_kindOf_15 (by decide) ?_
    refine mk_icmp_lt C 28 dX5_kindOf_17 (by decide) (fun c2 => ?_) (fun c2 => ?_)
    · replace hf := (if_pos c2).symm.trans hf
      exact mk_lvsub [0] rfl (wL28 hf)
    · replace hf := (if_neg c2).symm.trans hf
      refine mk_iload_n C 0 dX5_kindOf_20 rfl ?_
      refine mk_bipush C (v := 57) dX5_kindOf_21 (by decide) ?_
      refine mk_icmp_gt C 28 dX5_kindOf_23 (by decide) (fun c3 => ?_) (fun c3 => ?_)
      · replace hf := (if_pos c3).symm.trans hf
        exact mk_lvsub [0] rfl (wL28 hf)
      · replace hf := (if_neg c3).symm.trans hf
        refine mk_iconst C (v := 2) dX5_kindOf_26 (by decide) ?_
        have e0 := Option.some.inj hf
        exact mk_iret C hr hlk e0 rfl dX5_kindOf_27
  show mk_Go p l e (headSpec (mk_ws yX5_kindOf cX5_kindOf 1 (some .int)) ({ frames := 0, cells := 0, slots := 0, locals := 0 })).room s m args below meth c D A 1 0 0 (MQ below (mk_Q (some (.int r)) D ([] : va_W) A) args s 0 0 A) 0 ([] : va_W) [(0, .int p0)] []
  unfold f_R_kindOf at hf
  refine mk_iload_n C 0 dX5_kindOf_0 rfl ?_
  refine mk_bipush C (v := 97) dX5_kindOf_1 (by decide) ?_
  refine mk_icmp_lt C 14 dX5_kindOf_3 (by decide) (fun c4 => ?_) (fun c4 => ?_)
  · replace hf := (if_pos c4).symm.trans hf
    exact mk_lvsub [0] rfl (wL14 hf)
  · replace hf := (if_neg c4).symm.trans hf
    refine mk_iload_n C 0 dX5_kindOf_6 rfl ?_
    refine mk_bipush C (v := 122) dX5_kindOf_7 (by decide) ?_
    refine mk_icmp_gt C 14 dX5_kindOf_9 (by decide) (fun c5 => ?_) (fun c5 => ?_)
    · replace hf := (if_pos c5).symm.trans hf
      exact mk_lvsub [0] rfl (wL14 hf)
    · replace hf := (if_neg c5).symm.trans hf
      refine mk_iconst C (v := 1) dX5_kindOf_12 (by decide) ?_
      have e0 := Option.some.inj hf
      exact mk_iret C hr hlk e0 rfl dX5_kindOf_13
set_option maxHeartbeats 40000000 in
set_option maxRecDepth 100000 in
theorem c_R_step (l : Launch) (D : va_G) (cI cJ cB cZ cS : ClassId) (X : Nat → Nat) (Y : mk_Y) (aR aT aD : Nat → Nat) (uR : Nat → Nat → Int32) (uT : Nat → Nat → Int32) (uD : Nat → Nat → Int32) (wR : Nat → Nat → Int32) (hf : f_R_step uR uT = some wR) : mk_Met l yX5_step cX5_step 2 none ({ frames := 1, cells := 0, slots := 0, locals := 21 }) D (mk_TY cI cJ cB cZ cS) X Y [.ref (aR 0)] (wReader aR aT aD uR ++ (wTape aT cI uT ++ (wPlan aD cI uD))) (wReader aR aT aD wR ++ (wTape aT cI uT ++ (wPlan aD cI uD))) none 0 0 := by
  refine mk_start (own := RX5) (by decide) rfl (Nat.le_of_ble_eq_true rfl) ?_
  intro sz p e s m args below meth c A C hr hlk hnm
  replace C : mk_Cx p s m args c cX5_step 2 RX5 D (mk_TY cI cJ cB cZ cS) X Y A := C
  have wL136 : ∀ (n : Nat) (v1 : Int32) (uR : Nat → Nat → Int32), f_R_step_136 uT n v1 uR = some wR → mk_Go p l e (headSpec (mk_ws yX5_step cX5_step 2 none) ({ frames := 1, cells := 0, slots := 0, locals := 21 })).room s m args below meth c D A 2 0 0 (MQ below (mk_Q none D (wReader aR aT aD wR ++ (wTape aT cI uT ++ (wPlan aD cI uD))) A) args s 0 0 A) 136 (wReader aR aT aD uR ++ (wTape aT cI uT ++ (wPlan aD cI uD))) [(0, .ref (aR 0)), (1, .int v1)] [] := by
    intro  n
    induction n with
    | zero => intro v1 uR hf; exact nomatch (show (none : Option ((Nat → Nat → Int32))) = some _ from hf)
    | succ n ih =>
      intro v1 uR hf
      rw [f_R_step_136] at hf
      refine mk_iload_n C 1 dX5_step_136 rfl ?_
      refine mk_if_eq C 191 dX5_step_137 (by decide) (fun c1 => ?_) (fun c1 => ?_)
      · replace hf := (if_pos c1).symm.trans hf
        have e0 := Option.some.inj hf
        exact mk_vret C hr hlk (by rw [← e0]) dX5_step_191
      · replace hf := (if_neg c1).symm.trans hf
        refine mk_aload_n C 0 dX5_step_140 rfl ?_
        refine mk_get C mk_inX5 0 rfl rfl 4 (by decide) mw_130 (v := .int (uR 4 0)) rfl dX5_step_141 ?_
        refine mk_aload_n C 0 dX5_step_144 rfl ?_
        refine mk_get C mk_inX5 0 rfl rfl 0 (by decide) mw_124 (v := .ref (aT 0)) rfl dX5_step_145 ?_
        refine mk_get C mk_inX7 1 rfl rfl 1 (by decide) mw_47 (v := .int (uT 1 0)) rfl dX5_step_148 ?_
        refine mk_icmp_ge C 191 dX5_step_151 (by decide) (fun c2 => ?_) (fun c2 => ?_)
        · replace hf := (if_pos c2).symm.trans hf
          have e0 := Option.some.inj hf
          exact mk_vret C hr hlk (by rw [← e0]) dX5_step_191
        · replace hf := (if_neg c2).symm.trans hf
          refine mk_aload_n C 0 dX5_step_154 rfl ?_
          refine mk_get C mk_inX5 0 rfl rfl 0 (by decide) mw_124 (v := .ref (aT 0)) rfl dX5_step_155 ?_
          refine mk_get C mk_inX7 1 rfl rfl 0 (by decide) mw_44 (v := .ref (aT 1)) rfl dX5_step_158 ?_
          refine mk_aload_n C 0 dX5_step_161 rfl ?_
          refine mk_get C mk_inX5 0 rfl rfl 4 (by decide) mw_130 (v := .int (uR 4 0)) rfl dX5_step_162 ?_
          refine mk_callNi C (c_at l D cI cJ cB cZ cS X Y (aT 1) 500 (uT 0) (uR 4 0)) (List.mem_of_getElem? (i := 11) rfl) mw_377 mw_1 mw_378 mkn_X8_at rfl ⟨Nat.le_of_ble_eq_true rfl, Nat.le_of_ble_eq_true rfl⟩ (mk_Fr.at (q := 2) rfl) (Nat.le_of_ble_eq_true rfl) dX5_step_165 rfl ?_
          obtain ⟨r3, h4, hf⟩ := b1_some hf
          refine mk_callSi C (c_R_kindOf l D cI cJ cB cZ cS X Y (mkAt 500 (uT 0) (uR 4 0)) r3 h4) mw_382 mw_383 mw_2 mw_384 mkn_X5_kindOf rfl ⟨Nat.le_of_ble_eq_true rfl, Nat.le_of_ble_eq_true rfl⟩ (mk_Fr.nil _) (Nat.le_of_ble_eq_true rfl) dX5_step_168 rfl ?_
          refine mk_aload_n C 0 dX5_step_171 rfl ?_
          refine mk_get C mk_inX5 0 rfl rfl 2 (by decide) mw_128 (v := .int (uR 2 0)) rfl dX5_step_172 ?_
          refine mk_icmp_ne C 191 dX5_step_175 (by decide) (fun c5 => ?_) (fun c5 => ?_)
          · replace hf := (if_neg c5).symm.trans hf
            have e0 := Option.some.inj hf
            exact mk_vret C hr hlk (by rw [← e0]) dX5_step_191
          · replace hf := (if_pos c5).symm.trans hf
            refine mk_aload_n C 0 dX5_step_178 rfl ?_
            refine mk_dup C dX5_step_179 rfl ?_
            refine mk_get C mk_inX5 0 rfl rfl 4 (by decide) mw_130 (v := .int (uR 4 0)) rfl dX5_step_180 ?_
            refine mk_iconst C (v := 1) dX5_step_183 (by decide) ?_
            refine mk_iadd C dX5_step_184 ?_
            refine mk_put C mk_inX5 tyX5 tyX5_ok nmX5 0 rfl rfl 4 (by decide) mw_130 rfl rfl rfl (Nat.le_of_ble_eq_true rfl) (ws' := (wReader aR aT aD (upF 4 ((uR 4 0) + 1) uR) ++ (wTape aT cI uT ++ (wPlan aD cI uD)))) (st_RTD_R_4 cI cJ aR aT aD uR uT uD ((uR 4 0) + 1)) dX5_step_185 ?_
            refine mk_goto C 136 dX5_step_188 (by decide) ?_
            exact mk_lvsub [0, 1] rfl (ih _ _ hf)
  have wL55 : ∀ (uR : Nat → Nat → Int32), f_R_step_55 uT uR = some wR → mk_Go p l e (headSpec (mk_ws yX5_step cX5_step 2 none) ({ frames := 1, cells := 0, slots := 0, locals := 21 })).room s m args below meth c D A 2 0 0 (MQ below (mk_Q none D (wReader aR aT aD wR ++ (wTape aT cI uT ++ (wPlan aD cI uD))) A) args s 0 0 A) 55 (wReader aR aT aD uR ++ (wTape aT cI uT ++ (wPlan aD cI uD))) [(0, .ref (aR 0))] [] := by
    intro  uR hf
    unfold f_R_step_55 at hf
    refine mk_aload_n C 0 dX5_step_55 rfl ?_
    refine mk_aload_n C 0 dX5_step_56 rfl ?_
    refine mk_get C mk_inX5 0 rfl rfl 3 (by decide) mw_129 (v := .int (uR 3 0)) rfl dX5_step_57 ?_
    refine mk_put C mk_inX5 tyX5 tyX5_ok nmX5 0 rfl rfl 4 (by decide) mw_130 rfl rfl rfl (Nat.le_of_ble_eq_true rfl) (ws' := (wReader aR aT aD (upF 4 (uR 3 0) uR) ++ (wTape aT cI uT ++ (wPlan aD cI uD)))) (st_RTD_R_4 cI cJ aR aT aD uR uT uD (uR 3 0)) dX5_step_60 ?_
    refine mk_aload_n C 0 dX5_step_63 rfl ?_
    refine mk_get C mk_inX5 0 rfl rfl 3 (by decide) mw_129 (v := .int (uR 3 0)) rfl dX5_step_64 ?_
    refine mk_aload_n C 0 dX5_step_67 rfl ?_
    refine mk_get C mk_inX5 0 rfl rfl 0 (by decide) mw_124 (v := .ref (aT 0)) rfl dX5_step_68 ?_
    refine mk_get C mk_inX7 1 rfl rfl 1 (by decide) mw_47 (v := .int (uT 1 0)) rfl dX5_step_71 ?_
    refine mk_icmp_lt C 83 dX5_step_74 (by decide) (fun c6 => ?_) (fun c6 => ?_)
    · replace hf := (if_pos c6).symm.trans hf
      refine mk_aload_n C 0 dX5_step_83 rfl ?_
      refine mk_aload_n C 0 dX5_step_84 rfl ?_
      refine mk_get C mk_inX5 0 rfl rfl 0 (by decide) mw_124 (v := .ref (aT 0)) rfl dX5_step_85 ?_
      refine mk_get C mk_inX7 1 rfl rfl 0 (by decide) mw_44 (v := .ref (aT 1)) rfl dX5_step_88 ?_
      refine mk_aload_n C 0 dX5_step_91 rfl ?_
      refine mk_get C mk_inX5 0 rfl rfl 3 (by decide) mw_129 (v := .int (uR 3 0)) rfl dX5_step_92 ?_
      refine mk_callNi C (c_at l D cI cJ cB cZ cS X Y (aT 1) 500 (uT 0) (uR 3 0)) (List.mem_of_getElem? (i := 11) rfl) mw_377 mw_1 mw_378 mkn_X8_at rfl ⟨Nat.le_of_ble_eq_true rfl, Nat.le_of_ble_eq_true rfl⟩ (mk_Fr.at (q := 2) rfl) (Nat.le_of_ble_eq_true rfl) dX5_step_95 rfl ?_
      obtain ⟨r7, h8, hf⟩ := b1_some hf
      refine mk_callSi C (c_R_kindOf l D cI cJ cB cZ cS X Y (mkAt 500 (uT 0) (uR 3 0)) r7 h8) mw_382 mw_383 mw_2 mw_384 mkn_X5_kindOf rfl ⟨Nat.le_of_ble_eq_true rfl, Nat.le_of_ble_eq_true rfl⟩ (mk_Fr.nil _) (Nat.le_of_ble_eq_true rfl) dX5_step_98 rfl ?_
      refine mk_put C mk_inX5 tyX5 tyX5_ok nmX5 0 rfl rfl 2 (by decide) mw_128 rfl rfl rfl (Nat.le_of_ble_eq_true rfl) (ws' := (wReader aR aT aD (upF 2 r7 (upF 4 (uR 3 0) uR)) ++ (wTape aT cI uT ++ (wPlan aD cI uD)))) (st_RTD_R_2 cI cJ aR aT aD (upF 4 (uR 3 0) uR) uT uD r7) dX5_step_101 ?_
      refine mk_aload_n C 0 dX5_step_104 rfl ?_
      refine mk_dup C dX5_step_105 rfl ?_
      refine mk_get C mk_inX5 0 rfl rfl 4 (by decide) mw_130 (v := .int (uR 3 0)) rfl dX5_step_106 ?_
      refine mk_iconst C (v := 1) dX5_step_109 (by decide) ?_
      refine mk_iadd C dX5_step_110 ?_
      refine mk_put C mk_inX5 tyX5 tyX5_ok nmX5 0 rfl rfl 4 (by decide) mw_130 rfl rfl rfl (Nat.le_of_ble_eq_true rfl) (ws' := (wReader aR aT aD (upF 4 ((uR 3 0) + 1) (upF 2 r7 (upF 4 (uR 3 0) uR))) ++ (wTape aT cI uT ++ (wPlan aD cI uD)))) (st_RTD_R_4 cI cJ aR aT aD (upF 2 r7 (upF 4 (uR 3 0) uR)) uT uD ((uR 3 0) + 1)) dX5_step_111 ?_
      refine mk_aload_n C 0 dX5_step_114 rfl ?_
      refine mk_get C mk_inX5 0 rfl rfl 2 (by decide) mw_128 (v := .int r7) rfl dX5_step_115 ?_
      refine mk_iconst C (v := 1) dX5_step_118 (by decide) ?_
      refine mk_icmp_eq C 130 dX5_step_119 (by decide) (fun c9 => ?_) (fun c9 => ?_)
      · replace hf := (if_pos c9).symm.trans hf
        refine mk_iconst C (v := 1) dX5_step_130 (by decide) ?_
        refine mk_goto C 135 dX5_step_131 (by decide) ?_
        refine mk_istore_n C (lv' := [(1, .int 1), (0, .ref (aR 0))]) dX5_step_135 (by decide) rfl ?_
        exact mk_lvsub [1, 0] rfl (wL136 600 _ _ hf)
      · replace hf := (if_neg c9).symm.trans hf
        refine mk_aload_n C 0 dX5_step_122 rfl ?_
        refine mk_get C mk_inX5 0 rfl rfl 2 (by decide) mw_128 (v := .int r7) rfl dX5_step_123 ?_
        refine mk_iconst C (v := 2) dX5_step_126 (by decide) ?_
        refine mk_icmp_ne C 134 dX5_step_127 (by decide) (fun c10 => ?_) (fun c10 => ?_)
        · replace hf := (if_neg c10).symm.trans hf
          refine mk_iconst C (v := 0) dX5_step_134 (by decide) ?_
          refine mk_istore_n C (lv' := [(1, .int 0), (0, .ref (aR 0))]) dX5_step_135 (by decide) rfl ?_
          exact mk_lvsub [1, 0] rfl (wL136 600 _ _ hf)
        · replace hf := (if_pos c10).symm.trans hf
          refine mk_iconst C (v := 1) dX5_step_130 (by decide) ?_
          refine mk_goto C 135 dX5_step_131 (by decide) ?_
          refine mk_istore_n C (lv' := [(1, .int 1), (0, .ref (aR 0))]) dX5_step_135 (by decide) rfl ?_
          exact mk_lvsub [1, 0] rfl (wL136 600 _ _ hf)
    · replace hf := (if_neg c6).symm.trans hf
      refine mk_aload_n C 0 dX5_step_77 rfl ?_
      refine mk_iconst C (v := 0) dX5_step_78 (by decide) ?_
      refine mk_put C mk_inX5 tyX5 tyX5_ok nmX5 0 rfl rfl 2 (by decide) mw_128 rfl rfl rfl (Nat.le_of_ble_eq_true rfl) (ws' := (wReader aR aT aD (upF 2 0 (upF 4 (uR 3 0) uR)) ++ (wTape aT cI uT ++ (wPlan aD cI uD)))) (st_RTD_R_2 cI cJ aR aT aD (upF 4 (uR 3 0) uR) uT uD 0) dX5_step_79 ?_
      have e0 := Option.some.inj hf
      exact mk_vret C hr hlk (by rw [← e0]) dX5_step_82
  have wL8 : ∀ (n : Nat) (uR : Nat → Nat → Int32), f_R_step_8 uT n uR = some wR → mk_Go p l e (headSpec (mk_ws yX5_step cX5_step 2 none) ({ frames := 1, cells := 0, slots := 0, locals := 21 })).room s m args below meth c D A 2 0 0 (MQ below (mk_Q none D (wReader aR aT aD wR ++ (wTape aT cI uT ++ (wPlan aD cI uD))) A) args s 0 0 A) 8 (wReader aR aT aD uR ++ (wTape aT cI uT ++ (wPlan aD cI uD))) [(0, .ref (aR 0))] [] := by
    intro  n
    induction n with
    | zero => intro uR hf; exact nomatch (show (none : Option ((Nat → Nat → Int32))) = some _ from hf)
    | succ n ih =>
      intro uR hf
      rw [f_R_step_8] at hf
      refine mk_aload_n C 0 dX5_step_8 rfl ?_
      refine mk_get C mk_inX5 0 rfl rfl 3 (by decide) mw_129 (v := .int (uR 3 0)) rfl dX5_step_9 ?_
      refine mk_aload_n C 0 dX5_step_12 rfl ?_
      refine mk_get C mk_inX5 0 rfl rfl 0 (by decide) mw_124 (v := .ref (aT 0)) rfl dX5_step_13 ?_
      refine mk_get C mk_inX7 1 rfl rfl 1 (by decide) mw_47 (v := .int (uT 1 0)) rfl dX5_step_16 ?_
      refine mk_icmp_ge C 55 dX5_step_19 (by decide) (fun c11 => ?_) (fun c11 => ?_)
      · replace hf := (if_pos c11).symm.trans hf
        exact mk_lvsub [0] rfl (wL55 _ hf)
      · replace hf := (if_neg c11).symm.trans hf
        refine mk_aload_n C 0 dX5_step_22 rfl ?_
        refine mk_get C mk_inX5 0 rfl rfl 0 (by decide) mw_124 (v := .ref (aT 0)) rfl dX5_step_23 ?_
        refine mk_get C mk_inX7 1 rfl rfl 0 (by decide) mw_44 (v := .ref (aT 1)) rfl dX5_step_26 ?_
        refine mk_aload_n C 0 dX5_step_29 rfl ?_
        refine mk_get C mk_inX5 0 rfl rfl 3 (by decide) mw_129 (v := .int (uR 3 0)) rfl dX5_step_30 ?_
        refine mk_callNi C (c_at l D cI cJ cB cZ cS X Y (aT 1) 500 (uT 0) (uR 3 0)) (List.mem_of_getElem? (i := 11) rfl) mw_377 mw_1 mw_378 mkn_X8_at rfl ⟨Nat.le_of_ble_eq_true rfl, Nat.le_of_ble_eq_true rfl⟩ (mk_Fr.at (q := 2) rfl) (Nat.le_of_ble_eq_true rfl) dX5_step_33 rfl ?_
        obtain ⟨r12, h13, hf⟩ := b1_some hf
        refine mk_callSi C (c_R_isBlank l D cI cJ cB cZ cS X Y (mkAt 500 (uT 0) (uR 3 0)) r12 h13) mw_379 mw_380 mw_2 mw_381 mkn_X5_isBlank rfl ⟨Nat.le_of_ble_eq_true rfl, Nat.le_of_ble_eq_true rfl⟩ (mk_Fr.nil _) (Nat.le_of_ble_eq_true rfl) dX5_step_36 rfl ?_
        refine mk_if_eq C 55 dX5_step_39 (by decide) (fun c14 => ?_) (fun c14 => ?_)
        · replace hf := (if_pos c14).symm.trans hf
          exact mk_lvsub [0] rfl (wL55 _ hf)
        · replace hf := (if_neg c14).symm.trans hf
          refine mk_aload_n C 0 dX5_step_42 rfl ?_
          refine mk_dup C dX5_step_43 rfl ?_
          refine mk_get C mk_inX5 0 rfl rfl 3 (by decide) mw_129 (v := .int (uR 3 0)) rfl dX5_step_44 ?_
          refine mk_iconst C (v := 1) dX5_step_47 (by decide) ?_
          refine mk_iadd C dX5_step_48 ?_
          refine mk_put C mk_inX5 tyX5 tyX5_ok nmX5 0 rfl rfl 3 (by decide) mw_129 rfl rfl rfl (Nat.le_of_ble_eq_true rfl) (ws' := (wReader aR aT aD (upF 3 ((uR 3 0) + 1) uR) ++ (wTape aT cI uT ++ (wPlan aD cI uD)))) (st_RTD_R_3 cI cJ aR aT aD uR uT uD ((uR 3 0) + 1)) dX5_step_49 ?_
          refine mk_goto C 8 dX5_step_52 (by decide) ?_
          exact mk_lvsub [0] rfl (ih _ hf)
  show mk_Go p l e (headSpec (mk_ws yX5_step cX5_step 2 none) ({ frames := 1, cells := 0, slots := 0, locals := 21 })).room s m args below meth c D A 2 0 0 (MQ below (mk_Q none D (wReader aR aT aD wR ++ (wTape aT cI uT ++ (wPlan aD cI uD))) A) args s 0 0 A) 0 (wReader aR aT aD uR ++ (wTape aT cI uT ++ (wPlan aD cI uD))) [(0, .ref (aR 0))] []
  unfold f_R_step at hf
  refine mk_aload_n C 0 dX5_step_0 rfl ?_
  refine mk_aload_n C 0 dX5_step_1 rfl ?_
  refine mk_get C mk_inX5 0 rfl rfl 4 (by decide) mw_130 (v := .int (uR 4 0)) rfl dX5_step_2 ?_
  refine mk_put C mk_inX5 tyX5 tyX5_ok nmX5 0 rfl rfl 3 (by decide) mw_129 rfl rfl rfl (Nat.le_of_ble_eq_true rfl) (ws' := (wReader aR aT aD (upF 3 (uR 4 0) uR) ++ (wTape aT cI uT ++ (wPlan aD cI uD)))) (st_RTD_R_3 cI cJ aR aT aD uR uT uD (uR 4 0)) dX5_step_5 ?_
  exact mk_lvsub [0] rfl (wL8 600 _ hf)
set_option maxHeartbeats 40000000 in
set_option maxRecDepth 100000 in
theorem c_R_isWord (l : Launch) (D : va_G) (cI cJ cB cZ cS : ClassId) (X : Nat → Nat) (Y : mk_Y) (aR aT aD : Nat → Nat) (uR : Nat → Nat → Int32) (uT : Nat → Nat → Int32) (uD : Nat → Nat → Int32) (p1 : Nat) (hp1 : p1 < 13) (r : Int32) (hf : f_R_isWord uR uT p1 = some r) : mk_Met l yX5_isWord cX5_isWord 3 (some .boolean) ({ frames := 6, cells := 0, slots := 0, locals := 181 }) D (mk_TY cI cJ cB cZ cS) X Y [.ref (aR 0), .ref (X p1)] (wReader aR aT aD uR ++ (wTape aT cI uT ++ (wPlan aD cI uD))) (wReader aR aT aD uR ++ (wTape aT cI uT ++ (wPlan aD cI uD))) (some (.int r)) 0 0 := by
  refine mk_start (own := RX5) (by decide) rfl (Nat.le_of_ble_eq_true rfl) ?_
  intro sz p e s m args below meth c A C hr hlk hnm
  replace C : mk_Cx p s m args c cX5_isWord 3 RX5 D (mk_TY cI cJ cB cZ cS) X Y A := C
  have wL28 : ∀ (n : Nat) (v2 : Int32), f_R_isWord_28 uR uT p1 n v2 = some r → mk_Go p l e (headSpec (mk_ws yX5_isWord cX5_isWord 3 (some .boolean)) ({ frames := 6, cells := 0, slots := 0, locals := 181 })).room s m args below meth c D A 3 0 0 (MQ below (mk_Q (some (.int r)) D (wReader aR aT aD uR ++ (wTape aT cI uT ++ (wPlan aD cI uD))) A) args s 0 0 A) 28 (wReader aR aT aD uR ++ (wTape aT cI uT ++ (wPlan aD cI uD))) [(0, .ref (aR 0)), (1, .ref (X p1)), (2, .int v2)] [] := by
    intro  n
    induction n with
    | zero => intro v2 hf; exact nomatch (show (none : Option (Int32)) = some _ from hf)
    | succ n ih =>
      intro v2 hf
      rw [f_R_isWord_28] at hf
      refine mk_iload_n C 2 dX5_isWord_28 rfl ?_
      refine mk_aload_n C 1 dX5_isWord_29 rfl ?_
      refine mk_callEi C (c_slen l D cI cJ cB cZ cS X Y p1 hp1) mw_394 mw_395 mw_396 mw_13 mw_397 mkn_J0_length_8abf5 rfl ⟨Nat.le_of_ble_eq_true rfl, Nat.le_of_ble_eq_true rfl⟩ hp1 rfl (Nat.le_of_ble_eq_true rfl) dX5_isWord_30 rfl ?_
      refine mk_icmp_ge C 68 dX5_isWord_33 (by decide) (fun c1 => ?_) (fun c1 => ?_)
      · replace hf := (if_pos c1).symm.trans hf
        refine mk_iconst C (v := 1) dX5_isWord_68 (by decide) ?_
        have e0 := Option.some.inj hf
        exact mk_zret C hr hlk rfl e0 rfl dX5_isWord_69
      · replace hf := (if_neg c1).symm.trans hf
        refine mk_aload_n C 1 dX5_isWord_36 rfl ?_
        refine mk_iload_n C 2 dX5_isWord_37 rfl ?_
        obtain ⟨g2, hf⟩ := gS_some hf
        refine mk_callEi C (c_sat l D cI cJ cB cZ cS X Y p1 hp1 v2 g2) mw_404 mw_405 mw_406 mw_13 mw_407 mkn_J0_charAt_5068e rfl ⟨Nat.le_of_ble_eq_true rfl, Nat.le_of_ble_eq_true rfl⟩ hp1 rfl (Nat.le_of_ble_eq_true rfl) dX5_isWord_38 rfl ?_
        refine mk_aload_n C 0 dX5_isWord_41 rfl ?_
        refine mk_get C mk_inX5 0 rfl rfl 0 (by decide) mw_124 (v := .ref (aT 0)) rfl dX5_isWord_42 ?_
        refine mk_get C mk_inX7 1 rfl rfl 0 (by decide) mw_44 (v := .ref (aT 1)) rfl dX5_isWord_45 ?_
        refine mk_aload_n C 0 dX5_isWord_48 rfl ?_
        refine mk_get C mk_inX5 0 rfl rfl 3 (by decide) mw_129 (v := .int (uR 3 0)) rfl dX5_isWord_49 ?_
        refine mk_iload_n C 2 dX5_isWord_52 rfl ?_
        refine mk_iadd C dX5_isWord_53 ?_
        refine mk_callNi C (c_at l D cI cJ cB cZ cS X Y (aT 1) 500 (uT 0) ((uR 3 0) + v2)) (List.mem_of_getElem? (i := 11) rfl) mw_377 mw_1 mw_378 mkn_X8_at rfl ⟨Nat.le_of_ble_eq_true rfl, Nat.le_of_ble_eq_true rfl⟩ (mk_Fr.at (q := 2) rfl) (Nat.le_of_ble_eq_true rfl) dX5_isWord_54 rfl ?_
        refine mk_icmp_eq C 62 dX5_isWord_57 (by decide) (fun c3 => ?_) (fun c3 => ?_)
        · replace hf := (if_pos c3).symm.trans hf
          refine mk_iinc C (v := (v2 + 1)) (lv' := [(2, .int (v2 + 1)), (0, .ref (aR 0)), (1, .ref (X p1))]) 2 dX5_isWord_62 rfl rfl (by decide) rfl ?_
          refine mk_goto C 28 dX5_isWord_65 (by decide) ?_
          exact mk_lvsub [1, 2, 0] rfl (ih _ hf)
        · replace hf := (if_neg c3).symm.trans hf
          refine mk_iconst C (v := 0) dX5_isWord_60 (by decide) ?_
          have e0 := Option.some.inj hf
          exact mk_zret C hr hlk rfl e0 rfl dX5_isWord_61
  show mk_Go p l e (headSpec (mk_ws yX5_isWord cX5_isWord 3 (some .boolean)) ({ frames := 6, cells := 0, slots := 0, locals := 181 })).room s m args below meth c D A 3 0 0 (MQ below (mk_Q (some (.int r)) D (wReader aR aT aD uR ++ (wTape aT cI uT ++ (wPlan aD cI uD))) A) args s 0 0 A) 0 (wReader aR aT aD uR ++ (wTape aT cI uT ++ (wPlan aD cI uD))) [(0, .ref (aR 0)), (1, .ref (X p1))] []
  unfold f_R_isWord at hf
  refine mk_aload_n C 0 dX5_isWord_0 rfl ?_
  refine mk_get C mk_inX5 0 rfl rfl 2 (by decide) mw_128 (v := .int (uR 2 0)) rfl dX5_isWord_1 ?_
  refine mk_iconst C (v := 1) dX5_isWord_4 (by decide) ?_
  refine mk_icmp_ne C 24 dX5_isWord_5 (by decide) (fun c4 => ?_) (fun c4 => ?_)
  · replace hf := (if_neg c4).symm.trans hf
    refine mk_iconst C (v := 0) dX5_isWord_24 (by decide) ?_
    have e0 := Option.some.inj hf
    exact mk_zret C hr hlk rfl e0 rfl dX5_isWord_25
  · replace hf := (if_pos c4).symm.trans hf
    refine mk_aload_n C 1 dX5_isWord_8 rfl ?_
    refine mk_callEi C (c_slen l D cI cJ cB cZ cS X Y p1 hp1) mw_394 mw_395 mw_396 mw_13 mw_397 mkn_J0_length_8abf5 rfl ⟨Nat.le_of_ble_eq_true rfl, Nat.le_of_ble_eq_true rfl⟩ hp1 rfl (Nat.le_of_ble_eq_true rfl) dX5_isWord_9 rfl ?_
    refine mk_aload_n C 0 dX5_isWord_12 rfl ?_
    refine mk_get C mk_inX5 0 rfl rfl 4 (by decide) mw_130 (v := .int (uR 4 0)) rfl dX5_isWord_13 ?_
    refine mk_aload_n C 0 dX5_isWord_16 rfl ?_
    refine mk_get C mk_inX5 0 rfl rfl 3 (by decide) mw_129 (v := .int (uR 3 0)) rfl dX5_isWord_17 ?_
    refine mk_isub C dX5_isWord_20 ?_
    refine mk_icmp_eq C 26 dX5_isWord_21 (by decide) (fun c5 => ?_) (fun c5 => ?_)
    · replace hf := (if_pos c5).symm.trans hf
      refine mk_iconst C (v := 0) dX5_isWord_26 (by decide) ?_
      refine mk_istore_n C (lv' := [(2, .int 0), (0, .ref (aR 0)), (1, .ref (X p1))]) dX5_isWord_27 (by decide) rfl ?_
      exact mk_lvsub [1, 2, 0] rfl (wL28 600 _ hf)
    · replace hf := (if_neg c5).symm.trans hf
      refine mk_iconst C (v := 0) dX5_isWord_24 (by decide) ?_
      have e0 := Option.some.inj hf
      exact mk_zret C hr hlk rfl e0 rfl dX5_isWord_25
set_option maxHeartbeats 40000000 in
set_option maxRecDepth 100000 in
theorem c_R_refuse (l : Launch) (D : va_G) (cI cJ cB cZ cS : ClassId) (X : Nat → Nat) (Y : mk_Y) (aR aT aD : Nat → Nat) (uR : Nat → Nat → Int32) (uT : Nat → Nat → Int32) (uD : Nat → Nat → Int32) (p1 : Int32) (r : Int32) (wR : Nat → Nat → Int32) (hf : f_R_refuse uR p1 = some (r, wR)) : mk_Met l yX5_refuse cX5_refuse 2 (some .boolean) ({ frames := 0, cells := 0, slots := 0, locals := 0 }) D (mk_TY cI cJ cB cZ cS) X Y [.ref (aR 0), .int p1] (wReader aR aT aD uR ++ (wTape aT cI uT ++ (wPlan aD cI uD))) (wReader aR aT aD wR ++ (wTape aT cI uT ++ (wPlan aD cI uD))) (some (.int r)) 0 0 := by
  refine mk_start (own := RX5) (by decide) rfl (Nat.le_of_ble_eq_true rfl) ?_
  intro sz p e s m args below meth c A C hr hlk hnm
  replace C : mk_Cx p s m args c cX5_refuse 2 RX5 D (mk_TY cI cJ cB cZ cS) X Y A := C
  show mk_Go p l e (headSpec (mk_ws yX5_refuse cX5_refuse 2 (some .boolean)) ({ frames := 0, cells := 0, slots := 0, locals := 0 })).room s m args below meth c D A 2 0 0 (MQ below (mk_Q (some (.int r)) D (wReader aR aT aD wR ++ (wTape aT cI uT ++ (wPlan aD cI uD))) A) args s 0 0 A) 0 (wReader aR aT aD uR ++ (wTape aT cI uT ++ (wPlan aD cI uD))) [(0, .ref (aR 0)), (1, .int p1)] []
  unfold f_R_refuse at hf
  refine mk_aload_n C 0 dX5_refuse_0 rfl ?_
  refine mk_iload_n C 1 dX5_refuse_1 rfl ?_
  refine mk_put C mk_inX5 tyX5 tyX5_ok nmX5 0 rfl rfl 6 (by decide) mw_132 rfl rfl rfl (Nat.le_of_ble_eq_true rfl) (ws' := (wReader aR aT aD (upF 6 p1 uR) ++ (wTape aT cI uT ++ (wPlan aD cI uD)))) (st_RTD_R_6 cI cJ aR aT aD uR uT uD p1) dX5_refuse_2 ?_
  refine mk_aload_n C 0 dX5_refuse_5 rfl ?_
  refine mk_aload_n C 0 dX5_refuse_6 rfl ?_
  refine mk_get C mk_inX5 0 rfl rfl 3 (by decide) mw_129 (v := .int (uR 3 0)) rfl dX5_refuse_7 ?_
  refine mk_put C mk_inX5 tyX5 tyX5_ok nmX5 0 rfl rfl 7 (by decide) mw_133 rfl rfl rfl (Nat.le_of_ble_eq_true rfl) (ws' := (wReader aR aT aD (upF 7 (uR 3 0) (upF 6 p1 uR)) ++ (wTape aT cI uT ++ (wPlan aD cI uD)))) (st_RTD_R_7 cI cJ aR aT aD (upF 6 p1 uR) uT uD (uR 3 0)) dX5_refuse_10 ?_
  refine mk_iconst C (v := 0) dX5_refuse_13 (by decide) ?_
  have e := Option.some.inj hf
  obtain ⟨e0, e1⟩ := Prod.mk.inj e
  exact mk_zret C hr hlk rfl e0 (by rw [← e1]) dX5_refuse_14
set_option maxHeartbeats 40000000 in
set_option maxRecDepth 100000 in
theorem c_R_readWord (l : Launch) (D : va_G) (cI cJ cB cZ cS : ClassId) (X : Nat → Nat) (Y : mk_Y) (aR aT aD : Nat → Nat) (uR : Nat → Nat → Int32) (uT : Nat → Nat → Int32) (uD : Nat → Nat → Int32) (p1 : Nat) (hp1 : p1 < 13) (r : Int32) (wR : Nat → Nat → Int32) (hf : f_R_readWord uR uT p1 = some (r, wR)) : mk_Met l yX5_readWord cX5_readWord 2 (some .boolean) ({ frames := 7, cells := 0, slots := 0, locals := 203 }) D (mk_TY cI cJ cB cZ cS) X Y [.ref (aR 0), .ref (X p1)] (wReader aR aT aD uR ++ (wTape aT cI uT ++ (wPlan aD cI uD))) (wReader aR aT aD wR ++ (wTape aT cI uT ++ (wPlan aD cI uD))) (some (.int r)) 0 0 := by
  refine mk_start (own := RX5) (by decide) rfl (Nat.le_of_ble_eq_true rfl) ?_
  intro sz p e s m args below meth c A C hr hlk hnm
  replace C : mk_Cx p s m args c cX5_readWord 2 RX5 D (mk_TY cI cJ cB cZ cS) X Y A := C
  show mk_Go p l e (headSpec (mk_ws yX5_readWord cX5_readWord 2 (some .boolean)) ({ frames := 7, cells := 0, slots := 0, locals := 203 })).room s m args below meth c D A 2 0 0 (MQ below (mk_Q (some (.int r)) D (wReader aR aT aD wR ++ (wTape aT cI uT ++ (wPlan aD cI uD))) A) args s 0 0 A) 0 (wReader aR aT aD uR ++ (wTape aT cI uT ++ (wPlan aD cI uD))) [(0, .ref (aR 0)), (1, .ref (X p1))] []
  unfold f_R_readWord at hf
  refine mk_aload_n C 0 dX5_readWord_0 rfl ?_
  obtain ⟨uR_1, h2, hf⟩ := b1_some hf
  refine mk_callVv C (c_R_step l D cI cJ cB cZ cS X Y aR aT aD uR uT uD uR_1 h2) mw_372 mw_373 mw_374 mw_2 mw_375 mkn_X5_step rfl ⟨Nat.le_of_ble_eq_true rfl, Nat.le_of_ble_eq_true rfl⟩ 0 rfl rfl rfl (mk_Fr.all _ _) (Nat.le_of_ble_eq_true rfl) dX5_readWord_1 rfl ?_
  refine mk_aload_n C 0 dX5_readWord_4 rfl ?_
  refine mk_aload_n C 1 dX5_readWord_5 rfl ?_
  obtain ⟨r3, h4, hf⟩ := b1_some hf
  refine mk_callVi C (c_R_isWord l D cI cJ cB cZ cS X Y aR aT aD uR_1 uT uD p1 hp1 r3 h4) mw_390 mw_391 mw_392 mw_2 mw_393 mkn_X5_isWord rfl ⟨Nat.le_of_ble_eq_true rfl, Nat.le_of_ble_eq_true rfl⟩ 0 rfl rfl rfl (mk_Fr.all _ _) (Nat.le_of_ble_eq_true rfl) dX5_readWord_6 rfl ?_
  refine mk_if_ne C 20 dX5_readWord_9 (by decide) (fun c5 => ?_) (fun c5 => ?_)
  · replace hf := (if_neg c5).symm.trans hf
    refine mk_iconst C (v := 1) dX5_readWord_20 (by decide) ?_
    refine mk_goto C 25 dX5_readWord_21 (by decide) ?_
    have e := Option.some.inj hf
    obtain ⟨e0, e1⟩ := Prod.mk.inj e
    exact mk_zret C hr hlk rfl e0 (by rw [← e1]) dX5_readWord_25
  · replace hf := (if_pos c5).symm.trans hf
    refine mk_aload_n C 0 dX5_readWord_12 rfl ?_
    refine mk_iconst C (v := 1) dX5_readWord_13 (by decide) ?_
    obtain ⟨r6, uR_7, h8, hf⟩ := b2_some hf
    refine mk_callVi C (c_R_refuse l D cI cJ cB cZ cS X Y aR aT aD uR_1 uT uD 1 r6 uR_7 h8) mw_451 mw_452 mw_453 mw_2 mw_454 mkn_X5_refuse rfl ⟨Nat.le_of_ble_eq_true rfl, Nat.le_of_ble_eq_true rfl⟩ 0 rfl rfl rfl (mk_Fr.all _ _) (Nat.le_of_ble_eq_true rfl) dX5_readWord_14 rfl ?_
    refine mk_if_eq C 24 dX5_readWord_17 (by decide) (fun c9 => ?_) (fun c9 => ?_)
    · replace hf := (if_pos c9).symm.trans hf
      refine mk_iconst C (v := 0) dX5_readWord_24 (by decide) ?_
      have e := Option.some.inj hf
      obtain ⟨e0, e1⟩ := Prod.mk.inj e
      exact mk_zret C hr hlk rfl e0 (by rw [← e1]) dX5_readWord_25
    · replace hf := (if_neg c9).symm.trans hf
      refine mk_iconst C (v := 1) dX5_readWord_20 (by decide) ?_
      refine mk_goto C 25 dX5_readWord_21 (by decide) ?_
      have e := Option.some.inj hf
      obtain ⟨e0, e1⟩ := Prod.mk.inj e
      exact mk_zret C hr hlk rfl e0 (by rw [← e1]) dX5_readWord_25
set_option maxHeartbeats 40000000 in
set_option maxRecDepth 100000 in
theorem c_R_readSign (l : Launch) (D : va_G) (cI cJ cB cZ cS : ClassId) (X : Nat → Nat) (Y : mk_Y) (aR aT aD : Nat → Nat) (uR : Nat → Nat → Int32) (uT : Nat → Nat → Int32) (uD : Nat → Nat → Int32) (r : Int32) (wR : Nat → Nat → Int32) (hf : f_R_readSign uR uT = some (r, wR)) : mk_Met l yX5_readSign cX5_readSign 1 (some .boolean) ({ frames := 2, cells := 0, slots := 0, locals := 42 }) D (mk_TY cI cJ cB cZ cS) X Y [.ref (aR 0)] (wReader aR aT aD uR ++ (wTape aT cI uT ++ (wPlan aD cI uD))) (wReader aR aT aD wR ++ (wTape aT cI uT ++ (wPlan aD cI uD))) (some (.int r)) 0 0 := by
  refine mk_start (own := RX5) (by decide) rfl (Nat.le_of_ble_eq_true rfl) ?_
  intro sz p e s m args below meth c A C hr hlk hnm
  replace C : mk_Cx p s m args c cX5_readSign 1 RX5 D (mk_TY cI cJ cB cZ cS) X Y A := C
  show mk_Go p l e (headSpec (mk_ws yX5_readSign cX5_readSign 1 (some .boolean)) ({ frames := 2, cells := 0, slots := 0, locals := 42 })).room s m args below meth c D A 1 0 0 (MQ below (mk_Q (some (.int r)) D (wReader aR aT aD wR ++ (wTape aT cI uT ++ (wPlan aD cI uD))) A) args s 0 0 A) 0 (wReader aR aT aD uR ++ (wTape aT cI uT ++ (wPlan aD cI uD))) [(0, .ref (aR 0))] []
  unfold f_R_readSign at hf
  refine mk_aload_n C 0 dX5_readSign_0 rfl ?_
  obtain ⟨uR_1, h2, hf⟩ := b1_some hf
  refine mk_callVv C (c_R_step l D cI cJ cB cZ cS X Y aR aT aD uR uT uD uR_1 h2) mw_372 mw_373 mw_374 mw_2 mw_375 mkn_X5_step rfl ⟨Nat.le_of_ble_eq_true rfl, Nat.le_of_ble_eq_true rfl⟩ 0 rfl rfl rfl (mk_Fr.all _ _) (Nat.le_of_ble_eq_true rfl) dX5_readSign_1 rfl ?_
  refine mk_aload_n C 0 dX5_readSign_4 rfl ?_
  refine mk_get C mk_inX5 0 rfl rfl 2 (by decide) mw_128 (v := .int (uR_1 2 0)) rfl dX5_readSign_5 ?_
  refine mk_iconst C (v := 3) dX5_readSign_8 (by decide) ?_
  refine mk_icmp_eq C 20 dX5_readSign_9 (by decide) (fun c3 => ?_) (fun c3 => ?_)
  · replace hf := (if_pos c3).symm.trans hf
    refine mk_iconst C (v := 1) dX5_readSign_20 (by decide) ?_
    refine mk_goto C 25 dX5_readSign_21 (by decide) ?_
    have e := Option.some.inj hf
    obtain ⟨e0, e1⟩ := Prod.mk.inj e
    exact mk_zret C hr hlk rfl e0 (by rw [← e1]) dX5_readSign_25
  · replace hf := (if_neg c3).symm.trans hf
    refine mk_aload_n C 0 dX5_readSign_12 rfl ?_
    refine mk_iconst C (v := 1) dX5_readSign_13 (by decide) ?_
    obtain ⟨r4, uR_5, h6, hf⟩ := b2_some hf
    refine mk_callVi C (c_R_refuse l D cI cJ cB cZ cS X Y aR aT aD uR_1 uT uD 1 r4 uR_5 h6) mw_451 mw_452 mw_453 mw_2 mw_454 mkn_X5_refuse rfl ⟨Nat.le_of_ble_eq_true rfl, Nat.le_of_ble_eq_true rfl⟩ 0 rfl rfl rfl (mk_Fr.all _ _) (Nat.le_of_ble_eq_true rfl) dX5_readSign_14 rfl ?_
    refine mk_if_eq C 24 dX5_readSign_17 (by decide) (fun c7 => ?_) (fun c7 => ?_)
    · replace hf := (if_pos c7).symm.trans hf
      refine mk_iconst C (v := 0) dX5_readSign_24 (by decide) ?_
      have e := Option.some.inj hf
      obtain ⟨e0, e1⟩ := Prod.mk.inj e
      exact mk_zret C hr hlk rfl e0 (by rw [← e1]) dX5_readSign_25
    · replace hf := (if_neg c7).symm.trans hf
      refine mk_iconst C (v := 1) dX5_readSign_20 (by decide) ?_
      refine mk_goto C 25 dX5_readSign_21 (by decide) ?_
      have e := Option.some.inj hf
      obtain ⟨e0, e1⟩ := Prod.mk.inj e
      exact mk_zret C hr hlk rfl e0 (by rw [← e1]) dX5_readSign_25
set_option maxHeartbeats 40000000 in
set_option maxRecDepth 100000 in
theorem c_R_readNumber (l : Launch) (D : va_G) (cI cJ cB cZ cS : ClassId) (X : Nat → Nat) (Y : mk_Y) (aR aT aD : Nat → Nat) (uR : Nat → Nat → Int32) (uT : Nat → Nat → Int32) (uD : Nat → Nat → Int32) (p1 : Int32) (p2 : Int32) (r : Int32) (wR : Nat → Nat → Int32) (hf : f_R_readNumber uR uT p1 p2 = some (r, wR)) : mk_Met l yX5_readNumber cX5_readNumber 4 (some .boolean) ({ frames := 2, cells := 0, slots := 0, locals := 42 }) D (mk_TY cI cJ cB cZ cS) X Y [.ref (aR 0), .int p1, .int p2] (wReader aR aT aD uR ++ (wTape aT cI uT ++ (wPlan aD cI uD))) (wReader aR aT aD wR ++ (wTape aT cI uT ++ (wPlan aD cI uD))) (some (.int r)) 0 0 := by
  refine mk_start (own := RX5) (by decide) rfl (Nat.le_of_ble_eq_true rfl) ?_
  intro sz p e s m args below meth c A C hr hlk hnm
  replace C : mk_Cx p s m args c cX5_readNumber 4 RX5 D (mk_TY cI cJ cB cZ cS) X Y A := C
  have wL99 : ∀ (uR : Nat → Nat → Int32), f_R_readNumber_99 uT p1 p2 uR = some (r, wR) → mk_Go p l e (headSpec (mk_ws yX5_readNumber cX5_readNumber 4 (some .boolean)) ({ frames := 2, cells := 0, slots := 0, locals := 42 })).room s m args below meth c D A 4 0 0 (MQ below (mk_Q (some (.int r)) D (wReader aR aT aD wR ++ (wTape aT cI uT ++ (wPlan aD cI uD))) A) args s 0 0 A) 99 (wReader aR aT aD uR ++ (wTape aT cI uT ++ (wPlan aD cI uD))) [(0, .ref (aR 0))] [] := by
    intro  uR hf
    unfold f_R_readNumber_99 at hf
    refine mk_aload_n C 0 dX5_readNumber_99 rfl ?_
    refine mk_iconst C (v := 2) dX5_readNumber_100 (by decide) ?_
    obtain ⟨r1, uR_2, h3, hf⟩ := b2_some hf
    refine mk_callVi C (c_R_refuse l D cI cJ cB cZ cS X Y aR aT aD uR uT uD 2 r1 uR_2 h3) mw_451 mw_452 mw_453 mw_2 mw_454 mkn_X5_refuse rfl ⟨Nat.le_of_ble_eq_true rfl, Nat.le_of_ble_eq_true rfl⟩ 0 rfl rfl rfl (mk_Fr.all _ _) (Nat.le_of_ble_eq_true rfl) dX5_readNumber_101 rfl ?_
    refine mk_if_eq C 111 dX5_readNumber_104 (by decide) (fun c4 => ?_) (fun c4 => ?_)
    · replace hf := (if_pos c4).symm.trans hf
      refine mk_iconst C (v := 0) dX5_readNumber_111 (by decide) ?_
      have e := Option.some.inj hf
      obtain ⟨e0, e1⟩ := Prod.mk.inj e
      exact mk_zret C hr hlk rfl e0 (by rw [← e1]) dX5_readNumber_112
    · replace hf := (if_neg c4).symm.trans hf
      refine mk_iconst C (v := 1) dX5_readNumber_107 (by decide) ?_
      refine mk_goto C 112 dX5_readNumber_108 (by decide) ?_
      have e := Option.some.inj hf
      obtain ⟨e0, e1⟩ := Prod.mk.inj e
      exact mk_zret C hr hlk rfl e0 (by rw [← e1]) dX5_readNumber_112
  have wL28 : ∀ (n : Nat) (v3 : Int32) (uR : Nat → Nat → Int32), f_R_readNumber_28 uT p1 p2 n v3 uR = some (r, wR) → mk_Go p l e (headSpec (mk_ws yX5_readNumber cX5_readNumber 4 (some .boolean)) ({ frames := 2, cells := 0, slots := 0, locals := 42 })).room s m args below meth c D A 4 0 0 (MQ below (mk_Q (some (.int r)) D (wReader aR aT aD wR ++ (wTape aT cI uT ++ (wPlan aD cI uD))) A) args s 0 0 A) 28 (wReader aR aT aD uR ++ (wTape aT cI uT ++ (wPlan aD cI uD))) [(0, .ref (aR 0)), (1, .int p1), (2, .int p2), (3, .int v3)] [] := by
    intro  n
    induction n with
    | zero => intro v3 uR hf; exact nomatch (show (none : Option (Int32 × (Nat → Nat → Int32))) = some _ from hf)
    | succ n ih =>
      intro v3 uR hf
      rw [f_R_readNumber_28] at hf
      refine mk_iload_n C 3 dX5_readNumber_28 rfl ?_
      refine mk_aload_n C 0 dX5_readNumber_29 rfl ?_
      refine mk_get C mk_inX5 0 rfl rfl 4 (by decide) mw_130 (v := .int (uR 4 0)) rfl dX5_readNumber_30 ?_
      refine mk_icmp_ge C 83 dX5_readNumber_33 (by decide) (fun c5 => ?_) (fun c5 => ?_)
      · replace hf := (if_pos c5).symm.trans hf
        refine mk_aload_n C 0 dX5_readNumber_83 rfl ?_
        refine mk_get C mk_inX5 0 rfl rfl 5 (by decide) mw_131 (v := .int (uR 5 0)) rfl dX5_readNumber_84 ?_
        refine mk_iload_n C 1 dX5_readNumber_87 rfl ?_
        refine mk_icmp_lt C 99 dX5_readNumber_88 (by decide) (fun c6 => ?_) (fun c6 => ?_)
        · replace hf := (if_pos c6).symm.trans hf
          exact mk_lvsub [0] rfl (wL99 _ hf)
        · replace hf := (if_neg c6).symm.trans hf
          refine mk_aload_n C 0 dX5_readNumber_91 rfl ?_
          refine mk_get C mk_inX5 0 rfl rfl 5 (by decide) mw_131 (v := .int (uR 5 0)) rfl dX5_readNumber_92 ?_
          refine mk_iload_n C 2 dX5_readNumber_95 rfl ?_
          refine mk_icmp_le C 107 dX5_readNumber_96 (by decide) (fun c7 => ?_) (fun c7 => ?_)
          · replace hf := (if_pos c7).symm.trans hf
            refine mk_iconst C (v := 1) dX5_readNumber_107 (by decide) ?_
            refine mk_goto C 112 dX5_readNumber_108 (by decide) ?_
            have e := Option.some.inj hf
            obtain ⟨e0, e1⟩ := Prod.mk.inj e
            exact mk_zret C hr hlk rfl e0 (by rw [← e1]) dX5_readNumber_112
          · replace hf := (if_neg c7).symm.trans hf
            exact mk_lvsub [0] rfl (wL99 _ hf)
      · replace hf := (if_neg c5).symm.trans hf
        refine mk_aload_n C 0 dX5_readNumber_36 rfl ?_
        refine mk_aload_n C 0 dX5_readNumber_37 rfl ?_
        refine mk_get C mk_inX5 0 rfl rfl 5 (by decide) mw_131 (v := .int (uR 5 0)) rfl dX5_readNumber_38 ?_
        refine mk_bipush C (v := 10) dX5_readNumber_41 (by decide) ?_
        refine mk_imul C dX5_readNumber_43 ?_
        refine mk_aload_n C 0 dX5_readNumber_44 rfl ?_
        refine mk_get C mk_inX5 0 rfl rfl 0 (by decide) mw_124 (v := .ref (aT 0)) rfl dX5_readNumber_45 ?_
        refine mk_get C mk_inX7 1 rfl rfl 0 (by decide) mw_44 (v := .ref (aT 1)) rfl dX5_readNumber_48 ?_
        refine mk_iload_n C 3 dX5_readNumber_51 rfl ?_
        refine mk_callNi C (c_at l D cI cJ cB cZ cS X Y (aT 1) 500 (uT 0) v3) (List.mem_of_getElem? (i := 11) rfl) mw_377 mw_1 mw_378 mkn_X8_at rfl ⟨Nat.le_of_ble_eq_true rfl, Nat.le_of_ble_eq_true rfl⟩ (mk_Fr.at (q := 2) rfl) (Nat.le_of_ble_eq_true rfl) dX5_readNumber_52 rfl ?_
        refine mk_iadd C dX5_readNumber_55 ?_
        refine mk_bipush C (v := 48) dX5_readNumber_56 (by decide) ?_
        refine mk_isub C dX5_readNumber_58 ?_
        refine mk_put C mk_inX5 tyX5 tyX5_ok nmX5 0 rfl rfl 5 (by decide) mw_131 rfl rfl rfl (Nat.le_of_ble_eq_true rfl) (ws' := (wReader aR aT aD (upF 5 ((((uR 5 0) * 10) + (mkAt 500 (uT 0) v3)) - 48) uR) ++ (wTape aT cI uT ++ (wPlan aD cI uD)))) (st_RTD_R_5 cI cJ aR aT aD uR uT uD ((((uR 5 0) * 10) + (mkAt 500 (uT 0) v3)) - 48)) dX5_readNumber_59 ?_
        refine mk_aload_n C 0 dX5_readNumber_62 rfl ?_
        refine mk_get C mk_inX5 0 rfl rfl 5 (by decide) mw_131 (v := .int ((((uR 5 0) * 10) + (mkAt 500 (uT 0) v3)) - 48)) rfl dX5_readNumber_63 ?_
        refine mk_ldc C (v := 1000000) mw_459 dX5_readNumber_66 ?_
        refine mk_icmp_le C 77 dX5_readNumber_68 (by decide) (fun c8 => ?_) (fun c8 => ?_)
        · replace hf := (if_pos c8).symm.trans hf
          refine mk_iinc C (v := (v3 + 1)) (lv' := [(3, .int (v3 + 1)), (0, .ref (aR 0)), (1, .int p1), (2, .int p2)]) 3 dX5_readNumber_77 rfl rfl (by decide) rfl ?_
          refine mk_goto C 28 dX5_readNumber_80 (by decide) ?_
          exact mk_lvsub [1, 2, 3, 0] rfl (ih _ _ hf)
        · replace hf := (if_neg c8).symm.trans hf
          refine mk_aload_n C 0 dX5_readNumber_71 rfl ?_
          refine mk_ldc C (v := 1000000) mw_459 dX5_readNumber_72 ?_
          refine mk_put C mk_inX5 tyX5 tyX5_ok nmX5 0 rfl rfl 5 (by decide) mw_131 rfl rfl rfl (Nat.le_of_ble_eq_true rfl) (ws' := (wReader aR aT aD (upF 5 1000000 (upF 5 ((((uR 5 0) * 10) + (mkAt 500 (uT 0) v3)) - 48) uR)) ++ (wTape aT cI uT ++ (wPlan aD cI uD)))) (st_RTD_R_5 cI cJ aR aT aD (upF 5 ((((uR 5 0) * 10) + (mkAt 500 (uT 0) v3)) - 48) uR) uT uD 1000000) dX5_readNumber_74 ?_
          refine mk_iinc C (v := (v3 + 1)) (lv' := [(3, .int (v3 + 1)), (0, .ref (aR 0)), (1, .int p1), (2, .int p2)]) 3 dX5_readNumber_77 rfl rfl (by decide) rfl ?_
          refine mk_goto C 28 dX5_readNumber_80 (by decide) ?_
          exact mk_lvsub [1, 2, 3, 0] rfl (ih _ _ hf)
  show mk_Go p l e (headSpec (mk_ws yX5_readNumber cX5_readNumber 4 (some .boolean)) ({ frames := 2, cells := 0, slots := 0, locals := 42 })).room s m args below meth c D A 4 0 0 (MQ below (mk_Q (some (.int r)) D (wReader aR aT aD wR ++ (wTape aT cI uT ++ (wPlan aD cI uD))) A) args s 0 0 A) 0 (wReader aR aT aD uR ++ (wTape aT cI uT ++ (wPlan aD cI uD))) [(0, .ref (aR 0)), (1, .int p1), (2, .int p2)] []
  unfold f_R_readNumber at hf
  refine mk_aload_n C 0 dX5_readNumber_0 rfl ?_
  obtain ⟨uR_9, h10, hf⟩ := b1_some hf
  refine mk_callVv C (c_R_step l D cI cJ cB cZ cS X Y aR aT aD uR uT uD uR_9 h10) mw_372 mw_373 mw_374 mw_2 mw_375 mkn_X5_step rfl ⟨Nat.le_of_ble_eq_true rfl, Nat.le_of_ble_eq_true rfl⟩ 0 rfl rfl rfl (mk_Fr.all _ _) (Nat.le_of_ble_eq_true rfl) dX5_readNumber_1 rfl ?_
  refine mk_aload_n C 0 dX5_readNumber_4 rfl ?_
  refine mk_get C mk_inX5 0 rfl rfl 2 (by decide) mw_128 (v := .int (uR_9 2 0)) rfl dX5_readNumber_5 ?_
  refine mk_iconst C (v := 2) dX5_readNumber_8 (by decide) ?_
  refine mk_icmp_eq C 18 dX5_readNumber_9 (by decide) (fun c11 => ?_) (fun c11 => ?_)
  · replace hf := (if_pos c11).symm.trans hf
    refine mk_aload_n C 0 dX5_readNumber_18 rfl ?_
    refine mk_iconst C (v := 0) dX5_readNumber_19 (by decide) ?_
    refine mk_put C mk_inX5 tyX5 tyX5_ok nmX5 0 rfl rfl 5 (by decide) mw_131 rfl rfl rfl (Nat.le_of_ble_eq_true rfl) (ws' := (wReader aR aT aD (upF 5 0 uR_9) ++ (wTape aT cI uT ++ (wPlan aD cI uD)))) (st_RTD_R_5 cI cJ aR aT aD uR_9 uT uD 0) dX5_readNumber_20 ?_
    refine mk_aload_n C 0 dX5_readNumber_23 rfl ?_
    refine mk_get C mk_inX5 0 rfl rfl 3 (by decide) mw_129 (v := .int (uR_9 3 0)) rfl dX5_readNumber_24 ?_
    refine mk_istore_n C (lv' := [(3, .int (uR_9 3 0)), (0, .ref (aR 0)), (1, .int p1), (2, .int p2)]) dX5_readNumber_27 (by decide) rfl ?_
    exact mk_lvsub [1, 2, 3, 0] rfl (wL28 600 _ _ hf)
  · replace hf := (if_neg c11).symm.trans hf
    refine mk_aload_n C 0 dX5_readNumber_12 rfl ?_
    refine mk_iconst C (v := 1) dX5_readNumber_13 (by decide) ?_
    obtain ⟨r12, uR_13, h14, hf⟩ := b2_some hf
    refine mk_callVi C (c_R_refuse l D cI cJ cB cZ cS X Y aR aT aD uR_9 uT uD 1 r12 uR_13 h14) mw_451 mw_452 mw_453 mw_2 mw_454 mkn_X5_refuse rfl ⟨Nat.le_of_ble_eq_true rfl, Nat.le_of_ble_eq_true rfl⟩ 0 rfl rfl rfl (mk_Fr.all _ _) (Nat.le_of_ble_eq_true rfl) dX5_readNumber_14 rfl ?_
    obtain ⟨g15, hf⟩ := gZ_some hf
    have e := Option.some.inj hf
    obtain ⟨e0, e1⟩ := Prod.mk.inj e
    exact mk_zret C hr hlk (mk_nz g15) e0 (by rw [← e1]) dX5_readNumber_17
set_option maxHeartbeats 40000000 in
set_option maxRecDepth 100000 in
theorem c_R_readChannel (l : Launch) (D : va_G) (cI cJ cB cZ cS : ClassId) (X : Nat → Nat) (Y : mk_Y) (aR aT aD : Nat → Nat) (uR : Nat → Nat → Int32) (uT : Nat → Nat → Int32) (uD : Nat → Nat → Int32) (r : Int32) (wR : Nat → Nat → Int32) (wD : Nat → Nat → Int32) (hf : f_R_readChannel uR uT uD = some (r, wR, wD)) : mk_Met l yX5_readChannel cX5_readChannel 1 (some .boolean) ({ frames := 8, cells := 0, slots := 0, locals := 224 }) D (mk_TY cI cJ cB cZ cS) X Y [.ref (aR 0)] (wReader aR aT aD uR ++ (wTape aT cI uT ++ (wPlan aD cI uD))) (wReader aR aT aD wR ++ (wTape aT cI uT ++ (wPlan aD cI wD))) (some (.int r)) 0 0 := by
  refine mk_start (own := RX5) (by decide) rfl (Nat.le_of_ble_eq_true rfl) ?_
  intro sz p e s m args below meth c A C hr hlk hnm
  replace C : mk_Cx p s m args c cX5_readChannel 1 RX5 D (mk_TY cI cJ cB cZ cS) X Y A := C
  show mk_Go p l e (headSpec (mk_ws yX5_readChannel cX5_readChannel 1 (some .boolean)) ({ frames := 8, cells := 0, slots := 0, locals := 224 })).room s m args below meth c D A 1 0 0 (MQ below (mk_Q (some (.int r)) D (wReader aR aT aD wR ++ (wTape aT cI uT ++ (wPlan aD cI wD))) A) args s 0 0 A) 0 (wReader aR aT aD uR ++ (wTape aT cI uT ++ (wPlan aD cI uD))) [(0, .ref (aR 0))] []
  unfold f_R_readChannel at hf
  refine mk_aload_n C 0 dX5_readChannel_0 rfl ?_
  refine mk_ldcS C (k := 1) (List.mem_of_getElem? (i := 1) rfl) dX5_readChannel_1 ?_
  obtain ⟨r1, uR_2, h3, hf⟩ := b2_some hf
  refine mk_callVi C (c_R_readWord l D cI cJ cB cZ cS X Y aR aT aD uR uT uD 1 (by decide) r1 uR_2 h3) mw_447 mw_448 mw_449 mw_2 mw_450 mkn_X5_readWord rfl ⟨Nat.le_of_ble_eq_true rfl, Nat.le_of_ble_eq_true rfl⟩ 0 rfl rfl rfl (mk_Fr.all _ _) (Nat.le_of_ble_eq_true rfl) dX5_readChannel_3 rfl ?_
  refine mk_if_eq C 18 dX5_readChannel_6 (by decide) (fun c4 => ?_) (fun c4 => ?_)
  · replace hf := (if_pos c4).symm.trans hf
    refine mk_iconst C (v := 0) dX5_readChannel_18 (by decide) ?_
    have e := Option.some.inj hf
    simp only [Prod.mk.injEq] at e
    obtain ⟨e0, e1, e2⟩ := e
    exact mk_zret C hr hlk rfl e0 (by rw [← e1, ← e2]) dX5_readChannel_19
  · replace hf := (if_neg c4).symm.trans hf
    refine mk_aload_n C 0 dX5_readChannel_9 rfl ?_
    refine mk_iconst C (v := 0) dX5_readChannel_10 (by decide) ?_
    refine mk_iconst C (v := 3) dX5_readChannel_11 (by decide) ?_
    obtain ⟨r5, uR_6, h7, hf⟩ := b2_some hf
    refine mk_callVi C (c_R_readNumber l D cI cJ cB cZ cS X Y aR aT aD uR_2 uT uD 0 3 r5 uR_6 h7) mw_455 mw_456 mw_457 mw_2 mw_458 mkn_X5_readNumber rfl ⟨Nat.le_of_ble_eq_true rfl, Nat.le_of_ble_eq_true rfl⟩ 0 rfl rfl rfl (mk_Fr.all _ _) (Nat.le_of_ble_eq_true rfl) dX5_readChannel_12 rfl ?_
    refine mk_if_ne C 20 dX5_readChannel_15 (by decide) (fun c8 => ?_) (fun c8 => ?_)
    · replace hf := (if_neg c8).symm.trans hf
      refine mk_aload_n C 0 dX5_readChannel_20 rfl ?_
      refine mk_get C mk_inX5 0 rfl rfl 1 (by decide) mw_126 (v := .ref (aD 0)) rfl dX5_readChannel_21 ?_
      refine mk_aload_n C 0 dX5_readChannel_24 rfl ?_
      refine mk_get C mk_inX5 0 rfl rfl 5 (by decide) mw_131 (v := .int (uR_6 5 0)) rfl dX5_readChannel_25 ?_
      refine mk_put C mk_inX3 tyX3 tyX3_ok nmX3 3 rfl rfl 0 (by decide) mw_62 rfl rfl rfl (Nat.le_of_ble_eq_true rfl) (ws' := (wReader aR aT aD uR_6 ++ (wTape aT cI uT ++ (wPlan aD cI (upF 0 (uR_6 5 0) uD))))) (st_RTD_D_0 cI cJ aR aT aD uR_6 uT uD (uR_6 5 0)) dX5_readChannel_28 ?_
      refine mk_aload_n C 0 dX5_readChannel_31 rfl ?_
      refine mk_ldcS C (k := 2) (List.mem_of_getElem? (i := 2) rfl) dX5_readChannel_32 ?_
      obtain ⟨r9, uR_10, h11, hf⟩ := b2_some hf
      refine mk_callVi C (c_R_readWord l D cI cJ cB cZ cS X Y aR aT aD uR_6 uT (upF 0 (uR_6 5 0) uD) 2 (by decide) r9 uR_10 h11) mw_447 mw_448 mw_449 mw_2 mw_450 mkn_X5_readWord rfl ⟨Nat.le_of_ble_eq_true rfl, Nat.le_of_ble_eq_true rfl⟩ 0 rfl rfl rfl (mk_Fr.all _ _) (Nat.le_of_ble_eq_true rfl) dX5_readChannel_34 rfl ?_
      refine mk_if_eq C 51 dX5_readChannel_37 (by decide) (fun c12 => ?_) (fun c12 => ?_)
      · replace hf := (if_pos c12).symm.trans hf
        refine mk_iconst C (v := 0) dX5_readChannel_51 (by decide) ?_
        have e := Option.some.inj hf
        simp only [Prod.mk.injEq] at e
        obtain ⟨e0, e1, e2⟩ := e
        exact mk_zret C hr hlk rfl e0 (by rw [← e1, ← e2]) dX5_readChannel_52
      · replace hf := (if_neg c12).symm.trans hf
        refine mk_aload_n C 0 dX5_readChannel_40 rfl ?_
        refine mk_iconst C (v := 1) dX5_readChannel_41 (by decide) ?_
        refine mk_sipush C (v := 200) dX5_readChannel_42 (by decide) ?_
        obtain ⟨r13, uR_14, h15, hf⟩ := b2_some hf
        refine mk_callVi C (c_R_readNumber l D cI cJ cB cZ cS X Y aR aT aD uR_10 uT (upF 0 (uR_6 5 0) uD) 1 200 r13 uR_14 h15) mw_455 mw_456 mw_457 mw_2 mw_458 mkn_X5_readNumber rfl ⟨Nat.le_of_ble_eq_true rfl, Nat.le_of_ble_eq_true rfl⟩ 0 rfl rfl rfl (mk_Fr.all _ _) (Nat.le_of_ble_eq_true rfl) dX5_readChannel_45 rfl ?_
        refine mk_if_ne C 53 dX5_readChannel_48 (by decide) (fun c16 => ?_) (fun c16 => ?_)
        · replace hf := (if_neg c16).symm.trans hf
          refine mk_aload_n C 0 dX5_readChannel_53 rfl ?_
          refine mk_get C mk_inX5 0 rfl rfl 1 (by decide) mw_126 (v := .ref (aD 0)) rfl dX5_readChannel_54 ?_
          refine mk_aload_n C 0 dX5_readChannel_57 rfl ?_
          refine mk_get C mk_inX5 0 rfl rfl 5 (by decide) mw_131 (v := .int (uR_14 5 0)) rfl dX5_readChannel_58 ?_
          refine mk_put C mk_inX3 tyX3 tyX3_ok nmX3 3 rfl rfl 1 (by decide) mw_66 rfl rfl rfl (Nat.le_of_ble_eq_true rfl) (ws' := (wReader aR aT aD uR_14 ++ (wTape aT cI uT ++ (wPlan aD cI (upF 1 (uR_14 5 0) (upF 0 (uR_6 5 0) uD)))))) (st_RTD_D_1 cI cJ aR aT aD uR_14 uT (upF 0 (uR_6 5 0) uD) (uR_14 5 0)) dX5_readChannel_61 ?_
          refine mk_aload_n C 0 dX5_readChannel_64 rfl ?_
          refine mk_ldcS C (k := 3) (List.mem_of_getElem? (i := 3) rfl) dX5_readChannel_65 ?_
          obtain ⟨r17, uR_18, h19, hf⟩ := b2_some hf
          refine mk_callVi C (c_R_readWord l D cI cJ cB cZ cS X Y aR aT aD uR_14 uT (upF 1 (uR_14 5 0) (upF 0 (uR_6 5 0) uD)) 3 (by decide) r17 uR_18 h19) mw_447 mw_448 mw_449 mw_2 mw_450 mkn_X5_readWord rfl ⟨Nat.le_of_ble_eq_true rfl, Nat.le_of_ble_eq_true rfl⟩ 0 rfl rfl rfl (mk_Fr.all _ _) (Nat.le_of_ble_eq_true rfl) dX5_readChannel_67 rfl ?_
          refine mk_if_eq C 83 dX5_readChannel_70 (by decide) (fun c20 => ?_) (fun c20 => ?_)
          · replace hf := (if_pos c20).symm.trans hf
            refine mk_iconst C (v := 0) dX5_readChannel_83 (by decide) ?_
            have e := Option.some.inj hf
            simp only [Prod.mk.injEq] at e
            obtain ⟨e0, e1, e2⟩ := e
            exact mk_zret C hr hlk rfl e0 (by rw [← e1, ← e2]) dX5_readChannel_84
          · replace hf := (if_neg c20).symm.trans hf
            refine mk_aload_n C 0 dX5_readChannel_73 rfl ?_
            refine mk_iconst C (v := 0) dX5_readChannel_74 (by decide) ?_
            refine mk_bipush C (v := 9) dX5_readChannel_75 (by decide) ?_
            obtain ⟨r21, uR_22, h23, hf⟩ := b2_some hf
            refine mk_callVi C (c_R_readNumber l D cI cJ cB cZ cS X Y aR aT aD uR_18 uT (upF 1 (uR_14 5 0) (upF 0 (uR_6 5 0) uD)) 0 9 r21 uR_22 h23) mw_455 mw_456 mw_457 mw_2 mw_458 mkn_X5_readNumber rfl ⟨Nat.le_of_ble_eq_true rfl, Nat.le_of_ble_eq_true rfl⟩ 0 rfl rfl rfl (mk_Fr.all _ _) (Nat.le_of_ble_eq_true rfl) dX5_readChannel_77 rfl ?_
            refine mk_if_ne C 85 dX5_readChannel_80 (by decide) (fun c24 => ?_) (fun c24 => ?_)
            · replace hf := (if_neg c24).symm.trans hf
              refine mk_aload_n C 0 dX5_readChannel_85 rfl ?_
              refine mk_get C mk_inX5 0 rfl rfl 1 (by decide) mw_126 (v := .ref (aD 0)) rfl dX5_readChannel_86 ?_
              refine mk_aload_n C 0 dX5_readChannel_89 rfl ?_
              refine mk_get C mk_inX5 0 rfl rfl 5 (by decide) mw_131 (v := .int (uR_22 5 0)) rfl dX5_readChannel_90 ?_
              refine mk_put C mk_inX3 tyX3 tyX3_ok nmX3 3 rfl rfl 2 (by decide) mw_69 rfl rfl rfl (Nat.le_of_ble_eq_true rfl) (ws' := (wReader aR aT aD uR_22 ++ (wTape aT cI uT ++ (wPlan aD cI (upF 2 (uR_22 5 0) (upF 1 (uR_14 5 0) (upF 0 (uR_6 5 0) uD))))))) (st_RTD_D_2 cI cJ aR aT aD uR_22 uT (upF 1 (uR_14 5 0) (upF 0 (uR_6 5 0) uD)) (uR_22 5 0)) dX5_readChannel_93 ?_
              refine mk_aload_n C 0 dX5_readChannel_96 rfl ?_
              refine mk_ldcS C (k := 4) (List.mem_of_getElem? (i := 4) rfl) dX5_readChannel_97 ?_
              obtain ⟨r25, uR_26, h27, hf⟩ := b2_some hf
              refine mk_callVi C (c_R_readWord l D cI cJ cB cZ cS X Y aR aT aD uR_22 uT (upF 2 (uR_22 5 0) (upF 1 (uR_14 5 0) (upF 0 (uR_6 5 0) uD))) 4 (by decide) r25 uR_26 h27) mw_447 mw_448 mw_449 mw_2 mw_450 mkn_X5_readWord rfl ⟨Nat.le_of_ble_eq_true rfl, Nat.le_of_ble_eq_true rfl⟩ 0 rfl rfl rfl (mk_Fr.all _ _) (Nat.le_of_ble_eq_true rfl) dX5_readChannel_99 rfl ?_
              refine mk_if_eq C 115 dX5_readChannel_102 (by decide) (fun c28 => ?_) (fun c28 => ?_)
              · replace hf := (if_pos c28).symm.trans hf
                refine mk_iconst C (v := 0) dX5_readChannel_115 (by decide) ?_
                have e := Option.some.inj hf
                simp only [Prod.mk.injEq] at e
                obtain ⟨e0, e1, e2⟩ := e
                exact mk_zret C hr hlk rfl e0 (by rw [← e1, ← e2]) dX5_readChannel_116
              · replace hf := (if_neg c28).symm.trans hf
                refine mk_aload_n C 0 dX5_readChannel_105 rfl ?_
                refine mk_iconst C (v := 1) dX5_readChannel_106 (by decide) ?_
                refine mk_bipush C (v := 20) dX5_readChannel_107 (by decide) ?_
                obtain ⟨r29, uR_30, h31, hf⟩ := b2_some hf
                refine mk_callVi C (c_R_readNumber l D cI cJ cB cZ cS X Y aR aT aD uR_26 uT (upF 2 (uR_22 5 0) (upF 1 (uR_14 5 0) (upF 0 (uR_6 5 0) uD))) 1 20 r29 uR_30 h31) mw_455 mw_456 mw_457 mw_2 mw_458 mkn_X5_readNumber rfl ⟨Nat.le_of_ble_eq_true rfl, Nat.le_of_ble_eq_true rfl⟩ 0 rfl rfl rfl (mk_Fr.all _ _) (Nat.le_of_ble_eq_true rfl) dX5_readChannel_109 rfl ?_
                refine mk_if_ne C 117 dX5_readChannel_112 (by decide) (fun c32 => ?_) (fun c32 => ?_)
                · replace hf := (if_neg c32).symm.trans hf
                  refine mk_aload_n C 0 dX5_readChannel_117 rfl ?_
                  refine mk_get C mk_inX5 0 rfl rfl 1 (by decide) mw_126 (v := .ref (aD 0)) rfl dX5_readChannel_118 ?_
                  refine mk_aload_n C 0 dX5_readChannel_121 rfl ?_
                  refine mk_get C mk_inX5 0 rfl rfl 5 (by decide) mw_131 (v := .int (uR_30 5 0)) rfl dX5_readChannel_122 ?_
                  refine mk_put C mk_inX3 tyX3 tyX3_ok nmX3 3 rfl rfl 3 (by decide) mw_73 rfl rfl rfl (Nat.le_of_ble_eq_true rfl) (ws' := (wReader aR aT aD uR_30 ++ (wTape aT cI uT ++ (wPlan aD cI (upF 3 (uR_30 5 0) (upF 2 (uR_22 5 0) (upF 1 (uR_14 5 0) (upF 0 (uR_6 5 0) uD)))))))) (st_RTD_D_3 cI cJ aR aT aD uR_30 uT (upF 2 (uR_22 5 0) (upF 1 (uR_14 5 0) (upF 0 (uR_6 5 0) uD))) (uR_30 5 0)) dX5_readChannel_125 ?_
                  refine mk_aload_n C 0 dX5_readChannel_128 rfl ?_
                  obtain ⟨r33, uR_34, h35, hf⟩ := b2_some hf
                  refine mk_callVi C (c_R_readSign l D cI cJ cB cZ cS X Y aR aT aD uR_30 uT (upF 3 (uR_30 5 0) (upF 2 (uR_22 5 0) (upF 1 (uR_14 5 0) (upF 0 (uR_6 5 0) uD)))) r33 uR_34 h35) mw_463 mw_464 mw_465 mw_2 mw_466 mkn_X5_readSign rfl ⟨Nat.le_of_ble_eq_true rfl, Nat.le_of_ble_eq_true rfl⟩ 0 rfl rfl rfl (mk_Fr.all _ _) (Nat.le_of_ble_eq_true rfl) dX5_readChannel_129 rfl ?_
                  obtain ⟨g36, hf⟩ := gZ_some hf
                  have e := Option.some.inj hf
                  simp only [Prod.mk.injEq] at e
                  obtain ⟨e0, e1, e2⟩ := e
                  exact mk_zret C hr hlk (mk_nz g36) e0 (by rw [← e1, ← e2]) dX5_readChannel_132
                · replace hf := (if_pos c32).symm.trans hf
                  refine mk_iconst C (v := 0) dX5_readChannel_115 (by decide) ?_
                  have e := Option.some.inj hf
                  simp only [Prod.mk.injEq] at e
                  obtain ⟨e0, e1, e2⟩ := e
                  exact mk_zret C hr hlk rfl e0 (by rw [← e1, ← e2]) dX5_readChannel_116
            · replace hf := (if_pos c24).symm.trans hf
              refine mk_iconst C (v := 0) dX5_readChannel_83 (by decide) ?_
              have e := Option.some.inj hf
              simp only [Prod.mk.injEq] at e
              obtain ⟨e0, e1, e2⟩ := e
              exact mk_zret C hr hlk rfl e0 (by rw [← e1, ← e2]) dX5_readChannel_84
        · replace hf := (if_pos c16).symm.trans hf
          refine mk_iconst C (v := 0) dX5_readChannel_51 (by decide) ?_
          have e := Option.some.inj hf
          simp only [Prod.mk.injEq] at e
          obtain ⟨e0, e1, e2⟩ := e
          exact mk_zret C hr hlk rfl e0 (by rw [← e1, ← e2]) dX5_readChannel_52
    · replace hf := (if_pos c8).symm.trans hf
      refine mk_iconst C (v := 0) dX5_readChannel_18 (by decide) ?_
      have e := Option.some.inj hf
      simp only [Prod.mk.injEq] at e
      obtain ⟨e0, e1, e2⟩ := e
      exact mk_zret C hr hlk rfl e0 (by rw [← e1, ← e2]) dX5_readChannel_19
set_option maxHeartbeats 40000000 in
set_option maxRecDepth 100000 in
theorem c_R_readBits (l : Launch) (D : va_G) (cI cJ cB cZ cS : ClassId) (X : Nat → Nat) (Y : mk_Y) (aR aT aD : Nat → Nat) (uR : Nat → Nat → Int32) (uT : Nat → Nat → Int32) (uD : Nat → Nat → Int32) (r : Int32) (wR : Nat → Nat → Int32) (hf : f_R_readBits uR uT = some (r, wR)) : mk_Met l yX5_readBits cX5_readBits 3 (some .boolean) ({ frames := 2, cells := 0, slots := 0, locals := 42 }) D (mk_TY cI cJ cB cZ cS) X Y [.ref (aR 0)] (wReader aR aT aD uR ++ (wTape aT cI uT ++ (wPlan aD cI uD))) (wReader aR aT aD wR ++ (wTape aT cI uT ++ (wPlan aD cI uD))) (some (.int r)) 0 0 := by
  refine mk_start (own := RX5) (by decide) rfl (Nat.le_of_ble_eq_true rfl) ?_
  intro sz p e s m args below meth c A C hr hlk hnm
  replace C : mk_Cx p s m args c cX5_readBits 3 RX5 D (mk_TY cI cJ cB cZ cS) X Y A := C
  have wL48 : ∀ (n : Nat) (v1 : Int32) (uR : Nat → Nat → Int32), f_R_readBits_48 uT n v1 uR = some (r, wR) → mk_Go p l e (headSpec (mk_ws yX5_readBits cX5_readBits 3 (some .boolean)) ({ frames := 2, cells := 0, slots := 0, locals := 42 })).room s m args below meth c D A 3 0 0 (MQ below (mk_Q (some (.int r)) D (wReader aR aT aD wR ++ (wTape aT cI uT ++ (wPlan aD cI uD))) A) args s 0 0 A) 48 (wReader aR aT aD uR ++ (wTape aT cI uT ++ (wPlan aD cI uD))) [(0, .ref (aR 0)), (1, .int v1)] [] := by
    intro  n
    induction n with
    | zero => intro v1 uR hf; exact nomatch (show (none : Option (Int32 × (Nat → Nat → Int32))) = some _ from hf)
    | succ n ih =>
      intro v1 uR hf
      rw [f_R_readBits_48] at hf
      refine mk_iload_n C 1 dX5_readBits_48 rfl ?_
      refine mk_aload_n C 0 dX5_readBits_49 rfl ?_
      refine mk_get C mk_inX5 0 rfl rfl 4 (by decide) mw_130 (v := .int (uR 4 0)) rfl dX5_readBits_50 ?_
      refine mk_icmp_ge C 100 dX5_readBits_53 (by decide) (fun c1 => ?_) (fun c1 => ?_)
      · replace hf := (if_pos c1).symm.trans hf
        refine mk_iconst C (v := 1) dX5_readBits_100 (by decide) ?_
        have e := Option.some.inj hf
        obtain ⟨e0, e1⟩ := Prod.mk.inj e
        exact mk_zret C hr hlk rfl e0 (by rw [← e1]) dX5_readBits_101
      · replace hf := (if_neg c1).symm.trans hf
        refine mk_aload_n C 0 dX5_readBits_56 rfl ?_
        refine mk_get C mk_inX5 0 rfl rfl 0 (by decide) mw_124 (v := .ref (aT 0)) rfl dX5_readBits_57 ?_
        refine mk_get C mk_inX7 1 rfl rfl 0 (by decide) mw_44 (v := .ref (aT 1)) rfl dX5_readBits_60 ?_
        refine mk_iload_n C 1 dX5_readBits_63 rfl ?_
        refine mk_callNi C (c_at l D cI cJ cB cZ cS X Y (aT 1) 500 (uT 0) v1) (List.mem_of_getElem? (i := 11) rfl) mw_377 mw_1 mw_378 mkn_X8_at rfl ⟨Nat.le_of_ble_eq_true rfl, Nat.le_of_ble_eq_true rfl⟩ (mk_Fr.at (q := 2) rfl) (Nat.le_of_ble_eq_true rfl) dX5_readBits_64 rfl ?_
        refine mk_bipush C (v := 48) dX5_readBits_67 (by decide) ?_
        refine mk_isub C dX5_readBits_69 ?_
        refine mk_istore_n C (lv' := [(2, .int ((mkAt 500 (uT 0) v1) - 48)), (0, .ref (aR 0)), (1, .int v1)]) dX5_readBits_70 (by decide) rfl ?_
        refine mk_iload_n C 0 dX5_readBits_71 rfl ?_
        refine mk_iconst C (v := 1) dX5_readBits_72 (by decide) ?_
        refine mk_icmp_le C 82 dX5_readBits_73 (by decide) (fun c2 => ?_) (fun c2 => ?_)
        · replace hf := (if_pos c2).symm.trans hf
          refine mk_aload_n C 1 dX5_readBits_82 rfl ?_
          refine mk_aload_n C 1 dX5_readBits_83 rfl ?_
          refine mk_get C mk_inX5 0 rfl rfl 5 (by decide) mw_131 (v := .int (uR 5 0)) rfl dX5_readBits_84 ?_
          refine mk_iconst C (v := 2) dX5_readBits_87 (by decide) ?_
          refine mk_imul C dX5_readBits_88 ?_
          refine mk_iload_n C 0 dX5_readBits_89 rfl ?_
          refine mk_iadd C dX5_readBits_90 ?_
          refine mk_put C mk_inX5 tyX5 tyX5_ok nmX5 0 rfl rfl 5 (by decide) mw_131 rfl rfl rfl (Nat.le_of_ble_eq_true rfl) (ws' := (wReader aR aT aD (upF 5 (((uR 5 0) * 2) + ((mkAt 500 (uT 0) v1) - 48)) uR) ++ (wTape aT cI uT ++ (wPlan aD cI uD)))) (st_RTD_R_5 cI cJ aR aT aD uR uT uD (((uR 5 0) * 2) + ((mkAt 500 (uT 0) v1) - 48))) dX5_readBits_91 ?_
          refine mk_iinc C (v := (v1 + 1)) (lv' := [(1, .int (v1 + 1)), (2, .int ((mkAt 500 (uT 0) v1) - 48)), (0, .ref (aR 0))]) 2 dX5_readBits_94 rfl rfl (by decide) rfl ?_
          refine mk_goto C 48 dX5_readBits_97 (by decide) ?_
          exact mk_lvsub [2, 0] rfl (ih _ _ hf)
        · replace hf := (if_neg c2).symm.trans hf
          refine mk_aload_n C 1 dX5_readBits_76 rfl ?_
          refine mk_iconst C (v := 2) dX5_readBits_77 (by decide) ?_
          obtain ⟨r3, uR_4, h5, hf⟩ := b2_some hf
          refine mk_callVi C (c_R_refuse l D cI cJ cB cZ cS X Y aR aT aD uR uT uD 2 r3 uR_4 h5) mw_451 mw_452 mw_453 mw_2 mw_454 mkn_X5_refuse rfl ⟨Nat.le_of_ble_eq_true rfl, Nat.le_of_ble_eq_true rfl⟩ 0 rfl rfl rfl (mk_Fr.all _ _) (Nat.le_of_ble_eq_true rfl) dX5_readBits_78 rfl ?_
          obtain ⟨g6, hf⟩ := gZ_some hf
          have e := Option.some.inj hf
          obtain ⟨e0, e1⟩ := Prod.mk.inj e
          exact mk_zret C hr hlk (mk_nz g6) e0 (by rw [← e1]) dX5_readBits_81
  show mk_Go p l e (headSpec (mk_ws yX5_readBits cX5_readBits 3 (some .boolean)) ({ frames := 2, cells := 0, slots := 0, locals := 42 })).room s m args below meth c D A 3 0 0 (MQ below (mk_Q (some (.int r)) D (wReader aR aT aD wR ++ (wTape aT cI uT ++ (wPlan aD cI uD))) A) args s 0 0 A) 0 (wReader aR aT aD uR ++ (wTape aT cI uT ++ (wPlan aD cI uD))) [(0, .ref (aR 0))] []
  unfold f_R_readBits at hf
  refine mk_aload_n C 0 dX5_readBits_0 rfl ?_
  obtain ⟨uR_7, h8, hf⟩ := b1_some hf
  refine mk_callVv C (c_R_step l D cI cJ cB cZ cS X Y aR aT aD uR uT uD uR_7 h8) mw_372 mw_373 mw_374 mw_2 mw_375 mkn_X5_step rfl ⟨Nat.le_of_ble_eq_true rfl, Nat.le_of_ble_eq_true rfl⟩ 0 rfl rfl rfl (mk_Fr.all _ _) (Nat.le_of_ble_eq_true rfl) dX5_readBits_1 rfl ?_
  refine mk_aload_n C 0 dX5_readBits_4 rfl ?_
  refine mk_get C mk_inX5 0 rfl rfl 2 (by decide) mw_128 (v := .int (uR_7 2 0)) rfl dX5_readBits_5 ?_
  refine mk_iconst C (v := 2) dX5_readBits_8 (by decide) ?_
  refine mk_icmp_eq C 18 dX5_readBits_9 (by decide) (fun c9 => ?_) (fun c9 => ?_)
  · replace hf := (if_pos c9).symm.trans hf
    refine mk_aload_n C 0 dX5_readBits_18 rfl ?_
    refine mk_get C mk_inX5 0 rfl rfl 4 (by decide) mw_130 (v := .int (uR_7 4 0)) rfl dX5_readBits_19 ?_
    refine mk_aload_n C 0 dX5_readBits_22 rfl ?_
    refine mk_get C mk_inX5 0 rfl rfl 3 (by decide) mw_129 (v := .int (uR_7 3 0)) rfl dX5_readBits_23 ?_
    refine mk_isub C dX5_readBits_26 ?_
    refine mk_bipush C (v := 12) dX5_readBits_27 (by decide) ?_
    refine mk_icmp_le C 38 dX5_readBits_29 (by decide) (fun c10 => ?_) (fun c10 => ?_)
    · replace hf := (if_pos c10).symm.trans hf
      refine mk_aload_n C 0 dX5_readBits_38 rfl ?_
      refine mk_iconst C (v := 0) dX5_readBits_39 (by decide) ?_
      refine mk_put C mk_inX5 tyX5 tyX5_ok nmX5 0 rfl rfl 5 (by decide) mw_131 rfl rfl rfl (Nat.le_of_ble_eq_true rfl) (ws' := (wReader aR aT aD (upF 5 0 uR_7) ++ (wTape aT cI uT ++ (wPlan aD cI uD)))) (st_RTD_R_5 cI cJ aR aT aD uR_7 uT uD 0) dX5_readBits_40 ?_
      refine mk_aload_n C 0 dX5_readBits_43 rfl ?_
      refine mk_get C mk_inX5 0 rfl rfl 3 (by decide) mw_129 (v := .int (uR_7 3 0)) rfl dX5_readBits_44 ?_
      refine mk_istore_n C (lv' := [(1, .int (uR_7 3 0)), (0, .ref (aR 0))]) dX5_readBits_47 (by decide) rfl ?_
      exact mk_lvsub [1, 0] rfl (wL48 600 _ _ hf)
    · replace hf := (if_neg c10).symm.trans hf
      refine mk_aload_n C 0 dX5_readBits_32 rfl ?_
      refine mk_iconst C (v := 2) dX5_readBits_33 (by decide) ?_
      obtain ⟨r11, uR_12, h13, hf⟩ := b2_some hf
      refine mk_callVi C (c_R_refuse l D cI cJ cB cZ cS X Y aR aT aD uR_7 uT uD 2 r11 uR_12 h13) mw_451 mw_452 mw_453 mw_2 mw_454 mkn_X5_refuse rfl ⟨Nat.le_of_ble_eq_true rfl, Nat.le_of_ble_eq_true rfl⟩ 0 rfl rfl rfl (mk_Fr.all _ _) (Nat.le_of_ble_eq_true rfl) dX5_readBits_34 rfl ?_
      obtain ⟨g14, hf⟩ := gZ_some hf
      have e := Option.some.inj hf
      obtain ⟨e0, e1⟩ := Prod.mk.inj e
      exact mk_zret C hr hlk (mk_nz g14) e0 (by rw [← e1]) dX5_readBits_37
  · replace hf := (if_neg c9).symm.trans hf
    refine mk_aload_n C 0 dX5_readBits_12 rfl ?_
    refine mk_iconst C (v := 1) dX5_readBits_13 (by decide) ?_
    obtain ⟨r15, uR_16, h17, hf⟩ := b2_some hf
    refine mk_callVi C (c_R_refuse l D cI cJ cB cZ cS X Y aR aT aD uR_7 uT uD 1 r15 uR_16 h17) mw_451 mw_452 mw_453 mw_2 mw_454 mkn_X5_refuse rfl ⟨Nat.le_of_ble_eq_true rfl, Nat.le_of_ble_eq_true rfl⟩ 0 rfl rfl rfl (mk_Fr.all _ _) (Nat.le_of_ble_eq_true rfl) dX5_readBits_14 rfl ?_
    obtain ⟨g18, hf⟩ := gZ_some hf
    have e := Option.some.inj hf
    obtain ⟨e0, e1⟩ := Prod.mk.inj e
    exact mk_zret C hr hlk (mk_nz g18) e0 (by rw [← e1]) dX5_readBits_17
set_option maxHeartbeats 40000000 in
set_option maxRecDepth 100000 in
theorem c_R_readSender (l : Launch) (D : va_G) (cI cJ cB cZ cS : ClassId) (X : Nat → Nat) (Y : mk_Y) (aR aT aD : Nat → Nat) (uR : Nat → Nat → Int32) (uT : Nat → Nat → Int32) (uD : Nat → Nat → Int32) (r : Int32) (wR : Nat → Nat → Int32) (wD : Nat → Nat → Int32) (hf : f_R_readSender uR uT uD = some (r, wR, wD)) : mk_Met l yX5_readSender cX5_readSender 2 (some .boolean) ({ frames := 8, cells := 0, slots := 0, locals := 224 }) D (mk_TY cI cJ cB cZ cS) X Y [.ref (aR 0)] (wReader aR aT aD uR ++ (wTape aT cI uT ++ (wPlan aD cI uD))) (wReader aR aT aD wR ++ (wTape aT cI uT ++ (wPlan aD cI wD))) (some (.int r)) 0 0 := by
  refine mk_start (own := RX5) (by decide) rfl (Nat.le_of_ble_eq_true rfl) ?_
  intro sz p e s m args below meth c A C hr hlk hnm
  replace C : mk_Cx p s m args c cX5_readSender 2 RX5 D (mk_TY cI cJ cB cZ cS) X Y A := C
  show mk_Go p l e (headSpec (mk_ws yX5_readSender cX5_readSender 2 (some .boolean)) ({ frames := 8, cells := 0, slots := 0, locals := 224 })).room s m args below meth c D A 2 0 0 (MQ below (mk_Q (some (.int r)) D (wReader aR aT aD wR ++ (wTape aT cI uT ++ (wPlan aD cI wD))) A) args s 0 0 A) 0 (wReader aR aT aD uR ++ (wTape aT cI uT ++ (wPlan aD cI uD))) [(0, .ref (aR 0))] []
  unfold f_R_readSender at hf
  refine mk_aload_n C 0 dX5_readSender_0 rfl ?_
  refine mk_get C mk_inX5 0 rfl rfl 1 (by decide) mw_126 (v := .ref (aD 0)) rfl dX5_readSender_1 ?_
  refine mk_get C mk_inX3 3 rfl rfl 5 (by decide) mw_82 (v := .int (uD 5 0)) rfl dX5_readSender_4 ?_
  refine mk_bipush C (v := 10) dX5_readSender_7 (by decide) ?_
  refine mk_icmp_lt C 18 dX5_readSender_9 (by decide) (fun c1 => ?_) (fun c1 => ?_)
  · replace hf := (if_pos c1).symm.trans hf
    refine mk_aload_n C 0 dX5_readSender_18 rfl ?_
    refine mk_ldcS C (k := 6) (List.mem_of_getElem? (i := 6) rfl) dX5_readSender_19 ?_
    obtain ⟨r2, uR_3, h4, hf⟩ := b2_some hf
    refine mk_callVi C (c_R_readWord l D cI cJ cB cZ cS X Y aR aT aD uR uT uD 6 (by decide) r2 uR_3 h4) mw_447 mw_448 mw_449 mw_2 mw_450 mkn_X5_readWord rfl ⟨Nat.le_of_ble_eq_true rfl, Nat.le_of_ble_eq_true rfl⟩ 0 rfl rfl rfl (mk_Fr.all _ _) (Nat.le_of_ble_eq_true rfl) dX5_readSender_21 rfl ?_
    refine mk_if_eq C 38 dX5_readSender_24 (by decide) (fun c5 => ?_) (fun c5 => ?_)
    · replace hf := (if_pos c5).symm.trans hf
      refine mk_iconst C (v := 0) dX5_readSender_38 (by decide) ?_
      have e := Option.some.inj hf
      simp only [Prod.mk.injEq] at e
      obtain ⟨e0, e1, e2⟩ := e
      exact mk_zret C hr hlk rfl e0 (by rw [← e1, ← e2]) dX5_readSender_39
    · replace hf := (if_neg c5).symm.trans hf
      refine mk_aload_n C 0 dX5_readSender_27 rfl ?_
      refine mk_iconst C (v := 0) dX5_readSender_28 (by decide) ?_
      refine mk_sipush C (v := 199) dX5_readSender_29 (by decide) ?_
      obtain ⟨r6, uR_7, h8, hf⟩ := b2_some hf
      refine mk_callVi C (c_R_readNumber l D cI cJ cB cZ cS X Y aR aT aD uR_3 uT uD 0 199 r6 uR_7 h8) mw_455 mw_456 mw_457 mw_2 mw_458 mkn_X5_readNumber rfl ⟨Nat.le_of_ble_eq_true rfl, Nat.le_of_ble_eq_true rfl⟩ 0 rfl rfl rfl (mk_Fr.all _ _) (Nat.le_of_ble_eq_true rfl) dX5_readSender_32 rfl ?_
      refine mk_if_ne C 40 dX5_readSender_35 (by decide) (fun c9 => ?_) (fun c9 => ?_)
      · replace hf := (if_neg c9).symm.trans hf
        refine mk_aload_n C 0 dX5_readSender_40 rfl ?_
        refine mk_get C mk_inX5 0 rfl rfl 5 (by decide) mw_131 (v := .int (uR_7 5 0)) rfl dX5_readSender_41 ?_
        refine mk_istore_n C (lv' := [(1, .int (uR_7 5 0)), (0, .ref (aR 0))]) dX5_readSender_44 (by decide) rfl ?_
        refine mk_aload_n C 1 dX5_readSender_45 rfl ?_
        refine mk_ldcS C (k := 7) (List.mem_of_getElem? (i := 7) rfl) dX5_readSender_46 ?_
        obtain ⟨r10, uR_11, h12, hf⟩ := b2_some hf
        refine mk_callVi C (c_R_readWord l D cI cJ cB cZ cS X Y aR aT aD uR_7 uT uD 7 (by decide) r10 uR_11 h12) mw_447 mw_448 mw_449 mw_2 mw_450 mkn_X5_readWord rfl ⟨Nat.le_of_ble_eq_true rfl, Nat.le_of_ble_eq_true rfl⟩ 0 rfl rfl rfl (mk_Fr.all _ _) (Nat.le_of_ble_eq_true rfl) dX5_readSender_48 rfl ?_
        refine mk_if_eq C 61 dX5_readSender_51 (by decide) (fun c13 => ?_) (fun c13 => ?_)
        · replace hf := (if_pos c13).symm.trans hf
          refine mk_iconst C (v := 0) dX5_readSender_61 (by decide) ?_
          have e := Option.some.inj hf
          simp only [Prod.mk.injEq] at e
          obtain ⟨e0, e1, e2⟩ := e
          exact mk_zret C hr hlk rfl e0 (by rw [← e1, ← e2]) dX5_readSender_62
        · replace hf := (if_neg c13).symm.trans hf
          refine mk_aload_n C 1 dX5_readSender_54 rfl ?_
          obtain ⟨r14, uR_15, h16, hf⟩ := b2_some hf
          refine mk_callVi C (c_R_readBits l D cI cJ cB cZ cS X Y aR aT aD uR_11 uT uD r14 uR_15 h16) mw_474 mw_475 mw_476 mw_2 mw_477 mkn_X5_readBits rfl ⟨Nat.le_of_ble_eq_true rfl, Nat.le_of_ble_eq_true rfl⟩ 0 rfl rfl rfl (mk_Fr.all _ _) (Nat.le_of_ble_eq_true rfl) dX5_readSender_55 rfl ?_
          refine mk_if_ne C 63 dX5_readSender_58 (by decide) (fun c17 => ?_) (fun c17 => ?_)
          · replace hf := (if_neg c17).symm.trans hf
            refine mk_aload_n C 1 dX5_readSender_63 rfl ?_
            refine mk_get C mk_inX5 0 rfl rfl 1 (by decide) mw_126 (v := .ref (aD 0)) rfl dX5_readSender_64 ?_
            refine mk_iload_n C 0 dX5_readSender_67 rfl ?_
            refine mk_aload_n C 1 dX5_readSender_68 rfl ?_
            refine mk_get C mk_inX5 0 rfl rfl 5 (by decide) mw_131 (v := .int (uR_15 5 0)) rfl dX5_readSender_69 ?_
            refine mk_aload_n C 1 dX5_readSender_72 rfl ?_
            refine mk_get C mk_inX5 0 rfl rfl 4 (by decide) mw_130 (v := .int (uR_15 4 0)) rfl dX5_readSender_73 ?_
            refine mk_aload_n C 1 dX5_readSender_76 rfl ?_
            refine mk_get C mk_inX5 0 rfl rfl 3 (by decide) mw_129 (v := .int (uR_15 3 0)) rfl dX5_readSender_77 ?_
            refine mk_isub C dX5_readSender_80 ?_
            obtain ⟨uD_18, h19, hf⟩ := b1_some hf
            refine mk_callVv C (c_P_addSender l D cI cJ cB cZ cS X Y aD uD (uR_7 5 0) (uR_15 5 0) ((uR_15 4 0) - (uR_15 3 0)) uD_18 h19) mw_478 mw_479 mw_480 mw_4 mw_481 mkn_X3_addSender rfl ⟨Nat.le_of_ble_eq_true rfl, Nat.le_of_ble_eq_true rfl⟩ 3 rfl rfl rfl (fr_R_D cI cJ aR aT aD uR_15 uT uD uD_18) (Nat.le_of_ble_eq_true rfl) dX5_readSender_81 rfl ?_
            refine mk_aload_n C 1 dX5_readSender_84 rfl ?_
            obtain ⟨r20, uR_21, h22, hf⟩ := b2_some hf
            refine mk_callVi C (c_R_readSign l D cI cJ cB cZ cS X Y aR aT aD uR_15 uT uD_18 r20 uR_21 h22) mw_463 mw_464 mw_465 mw_2 mw_466 mkn_X5_readSign rfl ⟨Nat.le_of_ble_eq_true rfl, Nat.le_of_ble_eq_true rfl⟩ 0 rfl rfl rfl (mk_Fr.all _ _) (Nat.le_of_ble_eq_true rfl) dX5_readSender_85 rfl ?_
            obtain ⟨g23, hf⟩ := gZ_some hf
            have e := Option.some.inj hf
            simp only [Prod.mk.injEq] at e
            obtain ⟨e0, e1, e2⟩ := e
            exact mk_zret C hr hlk (mk_nz g23) e0 (by rw [← e1, ← e2]) dX5_readSender_88
          · replace hf := (if_pos c17).symm.trans hf
            refine mk_iconst C (v := 0) dX5_readSender_61 (by decide) ?_
            have e := Option.some.inj hf
            simp only [Prod.mk.injEq] at e
            obtain ⟨e0, e1, e2⟩ := e
            exact mk_zret C hr hlk rfl e0 (by rw [← e1, ← e2]) dX5_readSender_62
      · replace hf := (if_pos c9).symm.trans hf
        refine mk_iconst C (v := 0) dX5_readSender_38 (by decide) ?_
        have e := Option.some.inj hf
        simp only [Prod.mk.injEq] at e
        obtain ⟨e0, e1, e2⟩ := e
        exact mk_zret C hr hlk rfl e0 (by rw [← e1, ← e2]) dX5_readSender_39
  · replace hf := (if_neg c1).symm.trans hf
    refine mk_aload_n C 0 dX5_readSender_12 rfl ?_
    refine mk_iconst C (v := 3) dX5_readSender_13 (by decide) ?_
    obtain ⟨r24, uR_25, h26, hf⟩ := b2_some hf
    refine mk_callVi C (c_R_refuse l D cI cJ cB cZ cS X Y aR aT aD uR uT uD 3 r24 uR_25 h26) mw_451 mw_452 mw_453 mw_2 mw_454 mkn_X5_refuse rfl ⟨Nat.le_of_ble_eq_true rfl, Nat.le_of_ble_eq_true rfl⟩ 0 rfl rfl rfl (mk_Fr.all _ _) (Nat.le_of_ble_eq_true rfl) dX5_readSender_14 rfl ?_
    obtain ⟨g27, hf⟩ := gZ_some hf
    have e := Option.some.inj hf
    simp only [Prod.mk.injEq] at e
    obtain ⟨e0, e1, e2⟩ := e
    exact mk_zret C hr hlk (mk_nz g27) e0 (by rw [← e1, ← e2]) dX5_readSender_17
set_option maxHeartbeats 40000000 in
set_option maxRecDepth 100000 in
theorem c_R_readKind (l : Launch) (D : va_G) (cI cJ cB cZ cS : ClassId) (X : Nat → Nat) (Y : mk_Y) (aR aT aD : Nat → Nat) (uR : Nat → Nat → Int32) (uT : Nat → Nat → Int32) (uD : Nat → Nat → Int32) (r : Int32) (wR : Nat → Nat → Int32) (hf : f_R_readKind uR uT = some (r, wR)) : mk_Met l yX5_readKind cX5_readKind 1 (some .boolean) ({ frames := 7, cells := 0, slots := 0, locals := 203 }) D (mk_TY cI cJ cB cZ cS) X Y [.ref (aR 0)] (wReader aR aT aD uR ++ (wTape aT cI uT ++ (wPlan aD cI uD))) (wReader aR aT aD wR ++ (wTape aT cI uT ++ (wPlan aD cI uD))) (some (.int r)) 0 0 := by
  refine mk_start (own := RX5) (by decide) rfl (Nat.le_of_ble_eq_true rfl) ?_
  intro sz p e s m args below meth c A C hr hlk hnm
  replace C : mk_Cx p s m args c cX5_readKind 1 RX5 D (mk_TY cI cJ cB cZ cS) X Y A := C
  show mk_Go p l e (headSpec (mk_ws yX5_readKind cX5_readKind 1 (some .boolean)) ({ frames := 7, cells := 0, slots := 0, locals := 203 })).room s m args below meth c D A 1 0 0 (MQ below (mk_Q (some (.int r)) D (wReader aR aT aD wR ++ (wTape aT cI uT ++ (wPlan aD cI uD))) A) args s 0 0 A) 0 (wReader aR aT aD uR ++ (wTape aT cI uT ++ (wPlan aD cI uD))) [(0, .ref (aR 0))] []
  unfold f_R_readKind at hf
  refine mk_aload_n C 0 dX5_readKind_0 rfl ?_
  obtain ⟨uR_1, h2, hf⟩ := b1_some hf
  refine mk_callVv C (c_R_step l D cI cJ cB cZ cS X Y aR aT aD uR uT uD uR_1 h2) mw_372 mw_373 mw_374 mw_2 mw_375 mkn_X5_step rfl ⟨Nat.le_of_ble_eq_true rfl, Nat.le_of_ble_eq_true rfl⟩ 0 rfl rfl rfl (mk_Fr.all _ _) (Nat.le_of_ble_eq_true rfl) dX5_readKind_1 rfl ?_
  refine mk_aload_n C 0 dX5_readKind_4 rfl ?_
  refine mk_ldcS C (k := 10) (List.mem_of_getElem? (i := 10) rfl) dX5_readKind_5 ?_
  obtain ⟨r3, h4, hf⟩ := b1_some hf
  refine mk_callVi C (c_R_isWord l D cI cJ cB cZ cS X Y aR aT aD uR_1 uT uD 10 (by decide) r3 h4) mw_390 mw_391 mw_392 mw_2 mw_393 mkn_X5_isWord rfl ⟨Nat.le_of_ble_eq_true rfl, Nat.le_of_ble_eq_true rfl⟩ 0 rfl rfl rfl (mk_Fr.all _ _) (Nat.le_of_ble_eq_true rfl) dX5_readKind_7 rfl ?_
  refine mk_if_eq C 21 dX5_readKind_10 (by decide) (fun c5 => ?_) (fun c5 => ?_)
  · replace hf := (if_pos c5).symm.trans hf
    refine mk_aload_n C 0 dX5_readKind_21 rfl ?_
    refine mk_ldcS C (k := 11) (List.mem_of_getElem? (i := 11) rfl) dX5_readKind_22 ?_
    obtain ⟨r6, h7, hf⟩ := b1_some hf
    refine mk_callVi C (c_R_isWord l D cI cJ cB cZ cS X Y aR aT aD uR_1 uT uD 11 (by decide) r6 h7) mw_390 mw_391 mw_392 mw_2 mw_393 mkn_X5_isWord rfl ⟨Nat.le_of_ble_eq_true rfl, Nat.le_of_ble_eq_true rfl⟩ 0 rfl rfl rfl (mk_Fr.all _ _) (Nat.le_of_ble_eq_true rfl) dX5_readKind_24 rfl ?_
    refine mk_if_eq C 38 dX5_readKind_27 (by decide) (fun c8 => ?_) (fun c8 => ?_)
    · replace hf := (if_pos c8).symm.trans hf
      refine mk_aload_n C 0 dX5_readKind_38 rfl ?_
      refine mk_ldcS C (k := 12) (List.mem_of_getElem? (i := 12) rfl) dX5_readKind_39 ?_
      obtain ⟨r9, h10, hf⟩ := b1_some hf
      refine mk_callVi C (c_R_isWord l D cI cJ cB cZ cS X Y aR aT aD uR_1 uT uD 12 (by decide) r9 h10) mw_390 mw_391 mw_392 mw_2 mw_393 mkn_X5_isWord rfl ⟨Nat.le_of_ble_eq_true rfl, Nat.le_of_ble_eq_true rfl⟩ 0 rfl rfl rfl (mk_Fr.all _ _) (Nat.le_of_ble_eq_true rfl) dX5_readKind_41 rfl ?_
      refine mk_if_eq C 55 dX5_readKind_44 (by decide) (fun c11 => ?_) (fun c11 => ?_)
      · replace hf := (if_pos c11).symm.trans hf
        refine mk_aload_n C 0 dX5_readKind_55 rfl ?_
        refine mk_iconst C (v := 1) dX5_readKind_56 (by decide) ?_
        obtain ⟨r12, uR_13, h14, hf⟩ := b2_some hf
        refine mk_callVi C (c_R_refuse l D cI cJ cB cZ cS X Y aR aT aD uR_1 uT uD 1 r12 uR_13 h14) mw_451 mw_452 mw_453 mw_2 mw_454 mkn_X5_refuse rfl ⟨Nat.le_of_ble_eq_true rfl, Nat.le_of_ble_eq_true rfl⟩ 0 rfl rfl rfl (mk_Fr.all _ _) (Nat.le_of_ble_eq_true rfl) dX5_readKind_57 rfl ?_
        obtain ⟨g15, hf⟩ := gZ_some hf
        have e := Option.some.inj hf
        obtain ⟨e0, e1⟩ := Prod.mk.inj e
        exact mk_zret C hr hlk (mk_nz g15) e0 (by rw [← e1]) dX5_readKind_60
      · replace hf := (if_neg c11).symm.trans hf
        refine mk_aload_n C 0 dX5_readKind_47 rfl ?_
        refine mk_iconst C (v := 2) dX5_readKind_48 (by decide) ?_
        refine mk_put C mk_inX5 tyX5 tyX5_ok nmX5 0 rfl rfl 5 (by decide) mw_131 rfl rfl rfl (Nat.le_of_ble_eq_true rfl) (ws' := (wReader aR aT aD (upF 5 2 uR_1) ++ (wTape aT cI uT ++ (wPlan aD cI uD)))) (st_RTD_R_5 cI cJ aR aT aD uR_1 uT uD 2) dX5_readKind_49 ?_
        refine mk_goto C 61 dX5_readKind_52 (by decide) ?_
        refine mk_iconst C (v := 1) dX5_readKind_61 (by decide) ?_
        have e := Option.some.inj hf
        obtain ⟨e0, e1⟩ := Prod.mk.inj e
        exact mk_zret C hr hlk rfl e0 (by rw [← e1]) dX5_readKind_62
    · replace hf := (if_neg c8).symm.trans hf
      refine mk_aload_n C 0 dX5_readKind_30 rfl ?_
      refine mk_iconst C (v := 1) dX5_readKind_31 (by decide) ?_
      refine mk_put C mk_inX5 tyX5 tyX5_ok nmX5 0 rfl rfl 5 (by decide) mw_131 rfl rfl rfl (Nat.le_of_ble_eq_true rfl) (ws' := (wReader aR aT aD (upF 5 1 uR_1) ++ (wTape aT cI uT ++ (wPlan aD cI uD)))) (st_RTD_R_5 cI cJ aR aT aD uR_1 uT uD 1) dX5_readKind_32 ?_
      refine mk_goto C 61 dX5_readKind_35 (by decide) ?_
      refine mk_iconst C (v := 1) dX5_readKind_61 (by decide) ?_
      have e := Option.some.inj hf
      obtain ⟨e0, e1⟩ := Prod.mk.inj e
      exact mk_zret C hr hlk rfl e0 (by rw [← e1]) dX5_readKind_62
  · replace hf := (if_neg c5).symm.trans hf
    refine mk_aload_n C 0 dX5_readKind_13 rfl ?_
    refine mk_iconst C (v := 0) dX5_readKind_14 (by decide) ?_
    refine mk_put C mk_inX5 tyX5 tyX5_ok nmX5 0 rfl rfl 5 (by decide) mw_131 rfl rfl rfl (Nat.le_of_ble_eq_true rfl) (ws' := (wReader aR aT aD (upF 5 0 uR_1) ++ (wTape aT cI uT ++ (wPlan aD cI uD)))) (st_RTD_R_5 cI cJ aR aT aD uR_1 uT uD 0) dX5_readKind_15 ?_
    refine mk_goto C 61 dX5_readKind_18 (by decide) ?_
    refine mk_iconst C (v := 1) dX5_readKind_61 (by decide) ?_
    have e := Option.some.inj hf
    obtain ⟨e0, e1⟩ := Prod.mk.inj e
    exact mk_zret C hr hlk rfl e0 (by rw [← e1]) dX5_readKind_62
