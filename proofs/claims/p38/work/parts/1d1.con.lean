set_option maxHeartbeats 40000000 in
set_option maxRecDepth 100000 in
theorem c_Y_welcome (l : Launch) (D : va_G) (cI cJ cB cZ cS : ClassId) (X : Nat → Nat) (Y : mk_Y) (aY aP aS aC : Nat → Nat) (uY : Nat → Nat → Int32) (uP : Nat → Nat → Int32) (uS : Nat → Nat → Int32) (uC : Nat → Nat → Int32) (p1 : Int32) (wY : Nat → Nat → Int32) (hf : f_Y_welcome uY uP p1 = some wY) : mk_Met l yX4_welcome cX4_welcome 3 none ({ frames := 1, cells := 0, slots := 0, locals := 21 }) D (mk_TY cI cJ cB cZ cS) X Y [.ref (aY 0), .int p1] (wPlay aY aP aS (aC 0) cI uY ++ (wPlan aP cI uP ++ (wStack aS cI uS ++ (wCourse aC cI uC)))) (wPlay aY aP aS (aC 0) cI wY ++ (wPlan aP cI uP ++ (wStack aS cI uS ++ (wCourse aC cI uC)))) none 0 0 := by
  refine mk_start (own := RX4) (by decide) rfl (Nat.le_of_ble_eq_true rfl) ?_
  intro sz p e s m args below meth c A C hr hlk hnm
  replace C : mk_Cx p s m args c cX4_welcome 3 RX4 D (mk_TY cI cJ cB cZ cS) X Y A := C
  have wL2 : ∀ (n : Nat) (v2 : Int32) (uY : Nat → Nat → Int32), f_Y_welcome_2 uP p1 n v2 uY = some wY → mk_Go p l e (headSpec (mk_ws yX4_welcome cX4_welcome 3 none) ({ frames := 1, cells := 0, slots := 0, locals := 21 })).room s m args below meth c D A 3 0 0 (MQ below (mk_Q none D (wPlay aY aP aS (aC 0) cI wY ++ (wPlan aP cI uP ++ (wStack aS cI uS ++ (wCourse aC cI uC)))) A) args s 0 0 A) 2 (wPlay aY aP aS (aC 0) cI uY ++ (wPlan aP cI uP ++ (wStack aS cI uS ++ (wCourse aC cI uC)))) [(0, .ref (aY 0)), (1, .int p1), (2, .int v2)] [] := by
    intro  n
    induction n with
    | zero => intro v2 uY hf; exact nomatch (show (none : Option ((Nat → Nat → Int32))) = some _ from hf)
    | succ n ih =>
      intro v2 uY hf
      rw [f_Y_welcome_2] at hf
      refine mk_iload_n C 2 dX4_welcome_2 rfl ?_
      refine mk_aload_n C 0 dX4_welcome_3 rfl ?_
      refine mk_get C mk_inX4 0 rfl rfl 0 (by decide) mw_250 (v := .ref (aP 0)) rfl dX4_welcome_4 ?_
      refine mk_get C mk_inX3 2 rfl rfl 5 (by decide) mw_80 (v := .int (uP 5 0)) rfl dX4_welcome_7 ?_
      refine mk_icmp_ge C 54 dX4_welcome_10 (by decide) (fun c1 => ?_) (fun c1 => ?_)
      · replace hf := (if_pos c1).symm.trans hf
        have e0 := Option.some.inj hf
        exact mk_vret C hr hlk (by rw [← e0]) dX4_welcome_54
      · replace hf := (if_neg c1).symm.trans hf
        refine mk_aload_n C 0 dX4_welcome_13 rfl ?_
        refine mk_get C mk_inX4 0 rfl rfl 0 (by decide) mw_250 (v := .ref (aP 0)) rfl dX4_welcome_14 ?_
        refine mk_get C mk_inX3 2 rfl rfl 7 (by decide) mw_90 (v := .ref (aP 8)) rfl dX4_welcome_17 ?_
        refine mk_iload_n C 2 dX4_welcome_20 rfl ?_
        refine mk_callNi C (c_at l D cI cJ cB cZ cS X Y (aP 8) 10 (uP 7) v2) (List.mem_of_getElem? (i := 14) rfl) mw_377 mw_1 mw_378 mkn_X8_at rfl ⟨Nat.le_of_ble_eq_true rfl, Nat.le_of_ble_eq_true rfl⟩ (mk_Fr.at (q := 3) rfl) (Nat.le_of_ble_eq_true rfl) dX4_welcome_21 rfl ?_
        refine mk_iload_n C 1 dX4_welcome_24 rfl ?_
        refine mk_icmp_ne C 48 dX4_welcome_25 (by decide) (fun c2 => ?_) (fun c2 => ?_)
        · replace hf := (if_neg c2).symm.trans hf
          refine mk_iinc C (v := (v2 + 1)) (lv' := [(2, .int (v2 + 1)), (0, .ref (aY 0)), (1, .int p1)]) 2 dX4_welcome_48 rfl rfl (by decide) rfl ?_
          refine mk_goto C 2 dX4_welcome_51 (by decide) ?_
          exact mk_lvsub [1, 2, 0] rfl (ih _ _ hf)
        · replace hf := (if_pos c2).symm.trans hf
          refine mk_iload_n C 2 dX4_welcome_28 rfl ?_
          refine mk_aload_n C 0 dX4_welcome_29 rfl ?_
          refine mk_get C mk_inX4 0 rfl rfl 6 (by decide) mw_258 (v := .int (uY 6 0)) rfl dX4_welcome_30 ?_
          refine mk_icmp_eq C 48 dX4_welcome_33 (by decide) (fun c3 => ?_) (fun c3 => ?_)
          · replace hf := (if_pos c3).symm.trans hf
            refine mk_iinc C (v := (v2 + 1)) (lv' := [(2, .int (v2 + 1)), (0, .ref (aY 0)), (1, .int p1)]) 2 dX4_welcome_48 rfl rfl (by decide) rfl ?_
            refine mk_goto C 2 dX4_welcome_51 (by decide) ?_
            exact mk_lvsub [1, 2, 0] rfl (ih _ _ hf)
          · replace hf := (if_neg c3).symm.trans hf
            refine mk_aload_n C 0 dX4_welcome_36 rfl ?_
            refine mk_dup C dX4_welcome_37 rfl ?_
            refine mk_get C mk_inX4 0 rfl rfl 7 (by decide) mw_259 (v := .int (uY 7 0)) rfl dX4_welcome_38 ?_
            refine mk_iconst C (v := 1) dX4_welcome_41 (by decide) ?_
            refine mk_iload_n C 2 dX4_welcome_42 rfl ?_
            refine mk_ishl C dX4_welcome_43 ?_
            refine mk_ior C dX4_welcome_44 ?_
            refine mk_put C mk_inX4 tyX4 tyX4_ok nmX4 0 rfl rfl 7 (by decide) mw_259 rfl rfl rfl (Nat.le_of_ble_eq_true rfl) (ws' := (wPlay aY aP aS (aC 0) cI (upF 7 ((uY 7 0) ||| (1 <<< (v2 &&& 31))) uY) ++ (wPlan aP cI uP ++ (wStack aS cI uS ++ (wCourse aC cI uC))))) (st_YPSC_Y_7 cI cJ aY aP aS aC (aC 0) uY uP uS uC ((uY 7 0) ||| (1 <<< (v2 &&& 31)))) dX4_welcome_45 ?_
            refine mk_iinc C (v := (v2 + 1)) (lv' := [(2, .int (v2 + 1)), (0, .ref (aY 0)), (1, .int p1)]) 2 dX4_welcome_48 rfl rfl (by decide) rfl ?_
            refine mk_goto C 2 dX4_welcome_51 (by decide) ?_
            exact mk_lvsub [1, 2, 0] rfl (ih _ _ hf)
  show mk_Go p l e (headSpec (mk_ws yX4_welcome cX4_welcome 3 none) ({ frames := 1, cells := 0, slots := 0, locals := 21 })).room s m args below meth c D A 3 0 0 (MQ below (mk_Q none D (wPlay aY aP aS (aC 0) cI wY ++ (wPlan aP cI uP ++ (wStack aS cI uS ++ (wCourse aC cI uC)))) A) args s 0 0 A) 0 (wPlay aY aP aS (aC 0) cI uY ++ (wPlan aP cI uP ++ (wStack aS cI uS ++ (wCourse aC cI uC)))) [(0, .ref (aY 0)), (1, .int p1)] []
  unfold f_Y_welcome at hf
  refine mk_iconst C (v := 0) dX4_welcome_0 (by decide) ?_
  refine mk_istore_n C (lv' := [(2, .int 0), (0, .ref (aY 0)), (1, .int p1)]) dX4_welcome_1 (by decide) rfl ?_
  exact mk_lvsub [1, 2, 0] rfl (wL2 600 _ _ hf)
set_option maxHeartbeats 40000000 in
set_option maxRecDepth 100000 in
theorem c_Y_heardAt (l : Launch) (D : va_G) (cI cJ cB cZ cS : ClassId) (X : Nat → Nat) (Y : mk_Y) (aY aP aS aC : Nat → Nat) (uY : Nat → Nat → Int32) (uP : Nat → Nat → Int32) (uS : Nat → Nat → Int32) (uC : Nat → Nat → Int32) (p1 : Int32) (p2 : Int32) (r : Int32) (hf : f_Y_heardAt uY uP p1 p2 = some r) : mk_Met l yX4_heardAt cX4_heardAt 4 (some .int) ({ frames := 1, cells := 0, slots := 0, locals := 21 }) D (mk_TY cI cJ cB cZ cS) X Y [.ref (aY 0), .int p1, .int p2] (wPlay aY aP aS (aC 0) cI uY ++ (wPlan aP cI uP ++ (wStack aS cI uS ++ (wCourse aC cI uC)))) (wPlay aY aP aS (aC 0) cI uY ++ (wPlan aP cI uP ++ (wStack aS cI uS ++ (wCourse aC cI uC)))) (some (.int r)) 0 0 := by
  refine mk_start (own := RX4) (by decide) rfl (Nat.le_of_ble_eq_true rfl) ?_
  intro sz p e s m args below meth c A C hr hlk hnm
  replace C : mk_Cx p s m args c cX4_heardAt 4 RX4 D (mk_TY cI cJ cB cZ cS) X Y A := C
  have wL2 : ∀ (n : Nat) (v3 : Int32), f_Y_heardAt_2 uY uP p1 p2 n v3 = some r → mk_Go p l e (headSpec (mk_ws yX4_heardAt cX4_heardAt 4 (some .int)) ({ frames := 1, cells := 0, slots := 0, locals := 21 })).room s m args below meth c D A 4 0 0 (MQ below (mk_Q (some (.int r)) D (wPlay aY aP aS (aC 0) cI uY ++ (wPlan aP cI uP ++ (wStack aS cI uS ++ (wCourse aC cI uC)))) A) args s 0 0 A) 2 (wPlay aY aP aS (aC 0) cI uY ++ (wPlan aP cI uP ++ (wStack aS cI uS ++ (wCourse aC cI uC)))) [(0, .ref (aY 0)), (1, .int p1), (2, .int p2), (3, .int v3)] [] := by
    intro  n
    induction n with
    | zero => intro v3 hf; exact nomatch (show (none : Option (Int32)) = some _ from hf)
    | succ n ih =>
      intro v3 hf
      rw [f_Y_heardAt_2] at hf
      refine mk_iload_n C 3 dX4_heardAt_2 rfl ?_
      refine mk_aload_n C 0 dX4_heardAt_3 rfl ?_
      refine mk_get C mk_inX4 0 rfl rfl 0 (by decide) mw_250 (v := .ref (aP 0)) rfl dX4_heardAt_4 ?_
      refine mk_get C mk_inX3 2 rfl rfl 6 (by decide) mw_88 (v := .int (uP 6 0)) rfl dX4_heardAt_7 ?_
      refine mk_icmp_ge C 54 dX4_heardAt_10 (by decide) (fun c1 => ?_) (fun c1 => ?_)
      · replace hf := (if_pos c1).symm.trans hf
        refine mk_iload_n C 2 dX4_heardAt_54 rfl ?_
        have e0 := Option.some.inj hf
        exact mk_iret C hr hlk e0 rfl dX4_heardAt_55
      · replace hf := (if_neg c1).symm.trans hf
        refine mk_aload_n C 0 dX4_heardAt_13 rfl ?_
        refine mk_get C mk_inX4 0 rfl rfl 0 (by decide) mw_250 (v := .ref (aP 0)) rfl dX4_heardAt_14 ?_
        refine mk_get C mk_inX3 2 rfl rfl 10 (by decide) mw_96 (v := .ref (aP 11)) rfl dX4_heardAt_17 ?_
        refine mk_iload_n C 3 dX4_heardAt_20 rfl ?_
        refine mk_callNi C (c_at l D cI cJ cB cZ cS X Y (aP 11) 10 (uP 10) v3) (List.mem_of_getElem? (i := 14) rfl) mw_377 mw_1 mw_378 mkn_X8_at rfl ⟨Nat.le_of_ble_eq_true rfl, Nat.le_of_ble_eq_true rfl⟩ (mk_Fr.at (q := 6) rfl) (Nat.le_of_ble_eq_true rfl) dX4_heardAt_21 rfl ?_
        refine mk_iload_n C 1 dX4_heardAt_24 rfl ?_
        refine mk_icmp_ne C 48 dX4_heardAt_25 (by decide) (fun c2 => ?_) (fun c2 => ?_)
        · replace hf := (if_neg c2).symm.trans hf
          refine mk_iinc C (v := (v3 + 1)) (lv' := [(3, .int (v3 + 1)), (0, .ref (aY 0)), (1, .int p1), (2, .int p2)]) 3 dX4_heardAt_48 rfl rfl (by decide) rfl ?_
          refine mk_goto C 2 dX4_heardAt_51 (by decide) ?_
          exact mk_lvsub [1, 2, 3, 0] rfl (ih _ hf)
        · replace hf := (if_pos c2).symm.trans hf
          refine mk_iload_n C 3 dX4_heardAt_28 rfl ?_
          refine mk_aload_n C 0 dX4_heardAt_29 rfl ?_
          refine mk_get C mk_inX4 0 rfl rfl 5 (by decide) mw_257 (v := .int (uY 5 0)) rfl dX4_heardAt_30 ?_
          refine mk_icmp_eq C 48 dX4_heardAt_33 (by decide) (fun c3 => ?_) (fun c3 => ?_)
          · replace hf := (if_pos c3).symm.trans hf
            refine mk_iinc C (v := (v3 + 1)) (lv' := [(3, .int (v3 + 1)), (0, .ref (aY 0)), (1, .int p1), (2, .int p2)]) 3 dX4_heardAt_48 rfl rfl (by decide) rfl ?_
            refine mk_goto C 2 dX4_heardAt_51 (by decide) ?_
            exact mk_lvsub [1, 2, 3, 0] rfl (ih _ hf)
          · replace hf := (if_neg c3).symm.trans hf
            refine mk_aload_n C 0 dX4_heardAt_36 rfl ?_
            refine mk_get C mk_inX4 0 rfl rfl 0 (by decide) mw_250 (v := .ref (aP 0)) rfl dX4_heardAt_37 ?_
            refine mk_get C mk_inX3 2 rfl rfl 11 (by decide) mw_98 (v := .ref (aP 12)) rfl dX4_heardAt_40 ?_
            refine mk_iload_n C 3 dX4_heardAt_43 rfl ?_
            refine mk_callNi C (c_at l D cI cJ cB cZ cS X Y (aP 12) 10 (uP 11) v3) (List.mem_of_getElem? (i := 14) rfl) mw_377 mw_1 mw_378 mkn_X8_at rfl ⟨Nat.le_of_ble_eq_true rfl, Nat.le_of_ble_eq_true rfl⟩ (mk_Fr.at (q := 7) rfl) (Nat.le_of_ble_eq_true rfl) dX4_heardAt_44 rfl ?_
            have e0 := Option.some.inj hf
            exact mk_iret C hr hlk e0 rfl dX4_heardAt_47
  show mk_Go p l e (headSpec (mk_ws yX4_heardAt cX4_heardAt 4 (some .int)) ({ frames := 1, cells := 0, slots := 0, locals := 21 })).room s m args below meth c D A 4 0 0 (MQ below (mk_Q (some (.int r)) D (wPlay aY aP aS (aC 0) cI uY ++ (wPlan aP cI uP ++ (wStack aS cI uS ++ (wCourse aC cI uC)))) A) args s 0 0 A) 0 (wPlay aY aP aS (aC 0) cI uY ++ (wPlan aP cI uP ++ (wStack aS cI uS ++ (wCourse aC cI uC)))) [(0, .ref (aY 0)), (1, .int p1), (2, .int p2)] []
  unfold f_Y_heardAt at hf
  refine mk_iconst C (v := 0) dX4_heardAt_0 (by decide) ?_
  refine mk_istore_n C (lv' := [(3, .int 0), (0, .ref (aY 0)), (1, .int p1), (2, .int p2)]) dX4_heardAt_1 (by decide) rfl ?_
  exact mk_lvsub [1, 2, 3, 0] rfl (wL2 600 _ hf)
set_option maxHeartbeats 40000000 in
set_option maxRecDepth 100000 in
theorem c_Y_listen (l : Launch) (D : va_G) (cI cJ cB cZ cS : ClassId) (X : Nat → Nat) (Y : mk_Y) (aY aP aS aC : Nat → Nat) (uY : Nat → Nat → Int32) (uP : Nat → Nat → Int32) (uS : Nat → Nat → Int32) (uC : Nat → Nat → Int32) (p1 : Int32) (p2 : Int32) (r : Int32) (wY : Nat → Nat → Int32) (wC : Nat → Nat → Int32) (hf : f_Y_listen uY uP uC p1 p2 = some (r, wY, wC)) : mk_Met l yX4_listen cX4_listen 7 (some .int) ({ frames := 2, cells := 0, slots := 0, locals := 44 }) D (mk_TY cI cJ cB cZ cS) X Y [.ref (aY 0), .int p1, .int p2] (wPlay aY aP aS (aC 0) cI uY ++ (wPlan aP cI uP ++ (wStack aS cI uS ++ (wCourse aC cI uC)))) (wPlay aY aP aS (aC 0) cI wY ++ (wPlan aP cI uP ++ (wStack aS cI uS ++ (wCourse aC cI wC)))) (some (.int r)) 0 0 := by
  refine mk_start (own := RX4) (by decide) rfl (Nat.le_of_ble_eq_true rfl) ?_
  intro sz p e s m args below meth c A C hr hlk hnm
  replace C : mk_Cx p s m args c cX4_listen 7 RX4 D (mk_TY cI cJ cB cZ cS) X Y A := C
  have wL139 : ∀ (v4 : Int32) (v5 : Int32) (uY : Nat → Nat → Int32) (uC : Nat → Nat → Int32), f_Y_listen_139 uP p1 p2 v4 v5 uY uC = some (r, wY, wC) → mk_Go p l e (headSpec (mk_ws yX4_listen cX4_listen 7 (some .int)) ({ frames := 2, cells := 0, slots := 0, locals := 44 })).room s m args below meth c D A 7 0 0 (MQ below (mk_Q (some (.int r)) D (wPlay aY aP aS (aC 0) cI wY ++ (wPlan aP cI uP ++ (wStack aS cI uS ++ (wCourse aC cI wC)))) A) args s 0 0 A) 139 (wPlay aY aP aS (aC 0) cI uY ++ (wPlan aP cI uP ++ (wStack aS cI uS ++ (wCourse aC cI uC)))) [(0, .ref (aY 0)), (2, .int p2), (4, .int v4), (5, .int v5)] [] := by
    intro  v4 v5 uY uC hf
    unfold f_Y_listen_139 at hf
    refine mk_iload C 3 dX4_listen_139 rfl ?_
    refine mk_if_eq C 156 dX4_listen_141 (by decide) (fun c1 => ?_) (fun c1 => ?_)
    · replace hf := (if_pos c1).symm.trans hf
      refine mk_iload C 2 dX4_listen_156 rfl ?_
      have e := Option.some.inj hf
      simp only [Prod.mk.injEq] at e
      obtain ⟨e0, e1, e2⟩ := e
      exact mk_iret C hr hlk e0 (by rw [← e1, ← e2]) dX4_listen_158
    · replace hf := (if_neg c1).symm.trans hf
      refine mk_aload_n C 0 dX4_listen_144 rfl ?_
      refine mk_dup C dX4_listen_145 rfl ?_
      refine mk_get C mk_inX4 0 rfl rfl 7 (by decide) mw_259 (v := .int (uY 7 0)) rfl dX4_listen_146 ?_
      refine mk_iload_n C 1 dX4_listen_149 rfl ?_
      refine mk_iconst C (v := (-1)) dX4_listen_150 (by decide) ?_
      refine mk_ixor C dX4_listen_151 ?_
      refine mk_iand C dX4_listen_152 ?_
      refine mk_put C mk_inX4 tyX4 tyX4_ok nmX4 0 rfl rfl 7 (by decide) mw_259 rfl rfl rfl (Nat.le_of_ble_eq_true rfl) (ws' := (wPlay aY aP aS (aC 0) cI (upF 7 ((uY 7 0) &&& (p2 ^^^ (-1))) uY) ++ (wPlan aP cI uP ++ (wStack aS cI uS ++ (wCourse aC cI uC))))) (st_YPSC_Y_7 cI cJ aY aP aS aC (aC 0) uY uP uS uC ((uY 7 0) &&& (p2 ^^^ (-1)))) dX4_listen_153 ?_
      refine mk_iload C 2 dX4_listen_156 rfl ?_
      have e := Option.some.inj hf
      simp only [Prod.mk.injEq] at e
      obtain ⟨e0, e1, e2⟩ := e
      exact mk_iret C hr hlk e0 (by rw [← e1, ← e2]) dX4_listen_158
  have wL63 : ∀ (n : Nat) (v4 : Int32) (v5 : Int32) (v6 : Int32) (uY : Nat → Nat → Int32) (uC : Nat → Nat → Int32), f_Y_listen_63 uP p1 p2 n v4 v5 v6 uY uC = some (r, wY, wC) → mk_Go p l e (headSpec (mk_ws yX4_listen cX4_listen 7 (some .int)) ({ frames := 2, cells := 0, slots := 0, locals := 44 })).room s m args below meth c D A 7 0 0 (MQ below (mk_Q (some (.int r)) D (wPlay aY aP aS (aC 0) cI wY ++ (wPlan aP cI uP ++ (wStack aS cI uS ++ (wCourse aC cI wC)))) A) args s 0 0 A) 63 (wPlay aY aP aS (aC 0) cI uY ++ (wPlan aP cI uP ++ (wStack aS cI uS ++ (wCourse aC cI uC)))) [(0, .ref (aY 0)), (1, .int p1), (2, .int p2), (4, .int v4), (5, .int v5), (6, .int v6)] [] := by
    intro  n
    induction n with
    | zero => intro v4 v5 v6 uY uC hf; exact nomatch (show (none : Option (Int32 × (Nat → Nat → Int32) × (Nat → Nat → Int32))) = some _ from hf)
    | succ n ih =>
      intro v4 v5 v6 uY uC hf
      rw [f_Y_listen_63] at hf
      refine mk_iload C 5 dX4_listen_63 rfl ?_
      refine mk_aload_n C 0 dX4_listen_65 rfl ?_
      refine mk_get C mk_inX4 0 rfl rfl 0 (by decide) mw_250 (v := .ref (aP 0)) rfl dX4_listen_66 ?_
      refine mk_get C mk_inX3 2 rfl rfl 5 (by decide) mw_80 (v := .int (uP 5 0)) rfl dX4_listen_69 ?_
      refine mk_icmp_ge C 139 dX4_listen_72 (by decide) (fun c2 => ?_) (fun c2 => ?_)
      · replace hf := (if_pos c2).symm.trans hf
        exact mk_lvsub [0, 2, 3, 4] rfl (wL139 _ _ _ _ hf)
      · replace hf := (if_neg c2).symm.trans hf
        refine mk_iload_n C 2 dX4_listen_75 rfl ?_
        refine mk_iload C 5 dX4_listen_76 rfl ?_
        refine mk_ishr C dX4_listen_78 ?_
        refine mk_if_eq C 139 dX4_listen_79 (by decide) (fun c3 => ?_) (fun c3 => ?_)
        · replace hf := (if_pos c3).symm.trans hf
          exact mk_lvsub [0, 2, 3, 4] rfl (wL139 _ _ _ _ hf)
        · replace hf := (if_neg c3).symm.trans hf
          refine mk_iload_n C 2 dX4_listen_82 rfl ?_
          refine mk_iload C 5 dX4_listen_83 rfl ?_
          refine mk_ishr C dX4_listen_85 ?_
          refine mk_iconst C (v := 1) dX4_listen_86 (by decide) ?_
          refine mk_iand C dX4_listen_87 ?_
          refine mk_iconst C (v := 1) dX4_listen_88 (by decide) ?_
          refine mk_icmp_ne C 133 dX4_listen_89 (by decide) (fun c4 => ?_) (fun c4 => ?_)
          · replace hf := (if_neg c4).symm.trans hf
            refine mk_iinc C (v := (v6 + 1)) (lv' := [(6, .int (v6 + 1)), (0, .ref (aY 0)), (1, .int p1), (2, .int p2), (4, .int v4), (5, .int v5)]) 5 dX4_listen_133 rfl rfl (by decide) rfl ?_
            refine mk_goto C 63 dX4_listen_136 (by decide) ?_
            exact mk_lvsub [1, 2, 3, 4, 5, 0] rfl (ih _ _ _ _ _ hf)
          · replace hf := (if_pos c4).symm.trans hf
            refine mk_aload_n C 0 dX4_listen_92 rfl ?_
            refine mk_get C mk_inX4 0 rfl rfl 3 (by decide) mw_254 (v := .ref (aC 0)) rfl dX4_listen_93 ?_
            refine mk_get C mk_inX1 12 rfl rfl 6 (by decide) mw_205 (v := .ref (aC 7)) rfl dX4_listen_96 ?_
            refine mk_iload C 5 dX4_listen_99 rfl ?_
            refine mk_aload_n C 0 dX4_listen_101 rfl ?_
            refine mk_get C mk_inX4 0 rfl rfl 3 (by decide) mw_254 (v := .ref (aC 0)) rfl dX4_listen_102 ?_
            refine mk_get C mk_inX1 12 rfl rfl 6 (by decide) mw_205 (v := .ref (aC 7)) rfl dX4_listen_105 ?_
            refine mk_iload C 5 dX4_listen_108 rfl ?_
            refine mk_callNi C (c_at l D cI cJ cB cZ cS X Y (aC 7) 10 (uC 6) v6) (List.mem_of_getElem? (i := 14) rfl) mw_377 mw_1 mw_378 mkn_X8_at rfl ⟨Nat.le_of_ble_eq_true rfl, Nat.le_of_ble_eq_true rfl⟩ (mk_Fr.at (q := 19) rfl) (Nat.le_of_ble_eq_true rfl) dX4_listen_110 rfl ?_
            refine mk_iconst C (v := 1) dX4_listen_113 (by decide) ?_
            refine mk_iadd C dX4_listen_114 ?_
            refine mk_callNv C (c_put l D cI cJ cB cZ cS X Y (aC 7) 10 (uC 6) v6 ((mkAt 10 (uC 6) v6) + 1)) (List.mem_of_getElem? (i := 15) rfl) mw_483 mw_1 mw_484 mkn_X8_put rfl ⟨Nat.le_of_ble_eq_true rfl, Nat.le_of_ble_eq_true rfl⟩ (mk_Fr.put (q := 19) (ws' := (wPlay aY aP aS (aC 0) cI uY ++ (wPlan aP cI uP ++ (wStack aS cI uS ++ (wCourse aC cI (upR 6 (mkPut 10 (uC 6) v6 ((mkAt 10 (uC 6) v6) + 1)) uC)))))) rfl (st_YPSC_C_6 cI cJ aY aP aS aC (aC 0) uY uP uS uC (mkPut 10 (uC 6) v6 ((mkAt 10 (uC 6) v6) + 1)))) (Nat.le_of_ble_eq_true rfl) dX4_listen_115 rfl ?_
            refine mk_iload C 4 dX4_listen_118 rfl ?_
            refine mk_if_eq C 133 dX4_listen_120 (by decide) (fun c5 => ?_) (fun c5 => ?_)
            · replace hf := (if_pos c5).symm.trans hf
              refine mk_iinc C (v := (v6 + 1)) (lv' := [(6, .int (v6 + 1)), (0, .ref (aY 0)), (1, .int p1), (2, .int p2), (4, .int v4), (5, .int v5)]) 5 dX4_listen_133 rfl rfl (by decide) rfl ?_
              refine mk_goto C 63 dX4_listen_136 (by decide) ?_
              exact mk_lvsub [1, 2, 3, 4, 5, 0] rfl (ih _ _ _ _ _ hf)
            · replace hf := (if_neg c5).symm.trans hf
              refine mk_aload_n C 0 dX4_listen_123 rfl ?_
              refine mk_get C mk_inX4 0 rfl rfl 3 (by decide) mw_254 (v := .ref (aC 0)) rfl dX4_listen_124 ?_
              refine mk_iload C 5 dX4_listen_127 rfl ?_
              refine mk_iload_n C 1 dX4_listen_129 rfl ?_
              obtain ⟨uC_6, h7, hf⟩ := b1_some hf
              refine mk_callVv C (c_C_deliver l D cI cJ cB cZ cS X Y aC (upR 6 (mkPut 10 (uC 6) v6 ((mkAt 10 (uC 6) v6) + 1)) uC) v6 p1 uC_6 h7) mw_553 mw_554 mw_555 mw_7 mw_556 mkn_X1_deliver rfl ⟨Nat.le_of_ble_eq_true rfl, Nat.le_of_ble_eq_true rfl⟩ 12 rfl rfl rfl (fr_Y_C cI cJ aY aP aS aC (aC 0) uY uP uS (upR 6 (mkPut 10 (uC 6) v6 ((mkAt 10 (uC 6) v6) + 1)) uC) uC_6) (Nat.le_of_ble_eq_true rfl) dX4_listen_130 rfl ?_
              refine mk_iinc C (v := (v6 + 1)) (lv' := [(6, .int (v6 + 1)), (0, .ref (aY 0)), (1, .int p1), (2, .int p2), (4, .int v4), (5, .int v5)]) 5 dX4_listen_133 rfl rfl (by decide) rfl ?_
              refine mk_goto C 63 dX4_listen_136 (by decide) ?_
              exact mk_lvsub [1, 2, 3, 4, 5, 0] rfl (ih _ _ _ _ _ hf)
  show mk_Go p l e (headSpec (mk_ws yX4_listen cX4_listen 7 (some .int)) ({ frames := 2, cells := 0, slots := 0, locals := 44 })).room s m args below meth c D A 7 0 0 (MQ below (mk_Q (some (.int r)) D (wPlay aY aP aS (aC 0) cI wY ++ (wPlan aP cI uP ++ (wStack aS cI uS ++ (wCourse aC cI wC)))) A) args s 0 0 A) 0 (wPlay aY aP aS (aC 0) cI uY ++ (wPlan aP cI uP ++ (wStack aS cI uS ++ (wCourse aC cI uC)))) [(0, .ref (aY 0)), (1, .int p1), (2, .int p2)] []
  unfold f_Y_listen at hf
  refine mk_iload_n C 2 dX4_listen_0 rfl ?_
  refine mk_callSi C (c_bits l D cI cJ cB cZ cS X Y p2) mw_539 mw_540 mw_22 mw_541 mkn_J6_bitCount_0f7a4 rfl ⟨Nat.le_of_ble_eq_true rfl, Nat.le_of_ble_eq_true rfl⟩ (mk_Fr.nil _) (Nat.le_of_ble_eq_true rfl) dX4_listen_1 rfl ?_
  refine mk_istore_n C (lv' := [(3, .int (mkBits p2)), (0, .ref (aY 0)), (1, .int p1), (2, .int p2)]) dX4_listen_4 (by decide) rfl ?_
  refine mk_aload_n C 1 dX4_listen_5 rfl ?_
  refine mk_iload_n C 2 dX4_listen_6 rfl ?_
  refine mk_iload_n C 0 dX4_listen_7 rfl ?_
  refine mk_iconst C (v := 2) dX4_listen_8 (by decide) ?_
  refine mk_mmin C mw_545 mw_546 mw_16 mw_547 ⟨Nat.le_of_ble_eq_true rfl, Nat.le_of_ble_eq_true rfl⟩ ⟨Nat.zero_le _, Nat.zero_le _⟩ dX4_listen_9 ?_
  obtain ⟨r8, h9, hf⟩ := b1_some hf
  refine mk_callVi C (c_Y_heardAt l D cI cJ cB cZ cS X Y aY aP aS aC uY uP uS uC p1 (if 2 < (mkBits p2) then 2 else (mkBits p2)) r8 h9) mw_548 mw_549 mw_550 mw_5 mw_551 mkn_X4_heardAt rfl ⟨Nat.le_of_ble_eq_true rfl, Nat.le_of_ble_eq_true rfl⟩ 0 rfl rfl rfl (mk_Fr.all _ _) (Nat.le_of_ble_eq_true rfl) dX4_listen_12 rfl ?_
  refine mk_istore C (lv' := [(4, .int r8), (3, .int (mkBits p2)), (0, .ref (aY 0)), (1, .int p1), (2, .int p2)]) dX4_listen_15 (by decide) rfl ?_
  refine mk_aload_n C 2 dX4_listen_17 rfl ?_
  refine mk_get C mk_inX4 0 rfl rfl 3 (by decide) mw_254 (v := .ref (aC 0)) rfl dX4_listen_18 ?_
  refine mk_get C mk_inX1 12 rfl rfl 0 (by decide) mw_189 (v := .ref (aC 1)) rfl dX4_listen_21 ?_
  refine mk_iload_n C 3 dX4_listen_24 rfl ?_
  refine mk_iload_n C 4 dX4_listen_25 rfl ?_
  refine mk_callNv C (c_put l D cI cJ cB cZ cS X Y (aC 1) 200 (uC 0) p1 p2) (List.mem_of_getElem? (i := 15) rfl) mw_483 mw_1 mw_484 mkn_X8_put rfl ⟨Nat.le_of_ble_eq_true rfl, Nat.le_of_ble_eq_true rfl⟩ (mk_Fr.put (q := 13) (ws' := (wPlay aY aP aS (aC 0) cI uY ++ (wPlan aP cI uP ++ (wStack aS cI uS ++ (wCourse aC cI (upR 0 (mkPut 200 (uC 0) p1 p2) uC)))))) rfl (st_YPSC_C_0 cI cJ aY aP aS aC (aC 0) uY uP uS uC (mkPut 200 (uC 0) p1 p2))) (Nat.le_of_ble_eq_true rfl) dX4_listen_26 rfl ?_
  refine mk_aload_n C 2 dX4_listen_29 rfl ?_
  refine mk_get C mk_inX4 0 rfl rfl 3 (by decide) mw_254 (v := .ref (aC 0)) rfl dX4_listen_30 ?_
  refine mk_get C mk_inX1 12 rfl rfl 1 (by decide) mw_192 (v := .ref (aC 2)) rfl dX4_listen_33 ?_
  refine mk_iload_n C 3 dX4_listen_36 rfl ?_
  refine mk_iload C 0 dX4_listen_37 rfl ?_
  refine mk_callNv C (c_put l D cI cJ cB cZ cS X Y (aC 2) 200 (uC 1) p1 r8) (List.mem_of_getElem? (i := 15) rfl) mw_483 mw_1 mw_484 mkn_X8_put rfl ⟨Nat.le_of_ble_eq_true rfl, Nat.le_of_ble_eq_true rfl⟩ (mk_Fr.put (q := 14) (ws' := (wPlay aY aP aS (aC 0) cI uY ++ (wPlan aP cI uP ++ (wStack aS cI uS ++ (wCourse aC cI (upR 1 (mkPut 200 (uC 1) p1 r8) (upR 0 (mkPut 200 (uC 0) p1 p2) uC))))))) rfl (st_YPSC_C_1 cI cJ aY aP aS aC (aC 0) uY uP uS (upR 0 (mkPut 200 (uC 0) p1 p2) uC) (mkPut 200 (uC 1) p1 r8))) (Nat.le_of_ble_eq_true rfl) dX4_listen_39 rfl ?_
  refine mk_iload_n C 1 dX4_listen_42 rfl ?_
  refine mk_iconst C (v := 1) dX4_listen_43 (by decide) ?_
  refine mk_icmp_ne C 57 dX4_listen_44 (by decide) (fun c10 => ?_) (fun c10 => ?_)
  · replace hf := (if_neg c10).symm.trans hf
    refine mk_iconst C (v := 0) dX4_listen_57 (by decide) ?_
    refine mk_istore C (lv' := [(5, .int 0), (4, .int r8), (3, .int (mkBits p2)), (0, .ref (aY 0)), (1, .int p1), (2, .int p2)]) dX4_listen_58 (by decide) rfl ?_
    refine mk_iconst C (v := 0) dX4_listen_60 (by decide) ?_
    refine mk_istore C (lv' := [(6, .int 0), (5, .int 0), (4, .int r8), (3, .int (mkBits p2)), (0, .ref (aY 0)), (1, .int p1), (2, .int p2)]) dX4_listen_61 (by decide) rfl ?_
    exact mk_lvsub [4, 5, 6, 2, 1, 0] rfl (wL63 600 _ _ _ _ _ hf)
  · replace hf := (if_pos c10).symm.trans hf
    refine mk_iload C 0 dX4_listen_47 rfl ?_
    refine mk_iconst C (v := 1) dX4_listen_49 (by decide) ?_
    refine mk_icmp_ne C 57 dX4_listen_50 (by decide) (fun c11 => ?_) (fun c11 => ?_)
    · replace hf := (if_neg c11).symm.trans hf
      refine mk_iconst C (v := 0) dX4_listen_57 (by decide) ?_
      refine mk_istore C (lv' := [(5, .int 0), (4, .int r8), (3, .int (mkBits p2)), (0, .ref (aY 0)), (1, .int p1), (2, .int p2)]) dX4_listen_58 (by decide) rfl ?_
      refine mk_iconst C (v := 0) dX4_listen_60 (by decide) ?_
      refine mk_istore C (lv' := [(6, .int 0), (5, .int 0), (4, .int r8), (3, .int (mkBits p2)), (0, .ref (aY 0)), (1, .int p1), (2, .int p2)]) dX4_listen_61 (by decide) rfl ?_
      exact mk_lvsub [4, 5, 6, 2, 1, 0] rfl (wL63 600 _ _ _ _ _ hf)
    · replace hf := (if_pos c11).symm.trans hf
      refine mk_iconst C (v := 1) dX4_listen_53 (by decide) ?_
      refine mk_goto C 58 dX4_listen_54 (by decide) ?_
      refine mk_istore C (lv' := [(5, .int 1), (4, .int r8), (3, .int (mkBits p2)), (0, .ref (aY 0)), (1, .int p1), (2, .int p2)]) dX4_listen_58 (by decide) rfl ?_
      refine mk_iconst C (v := 0) dX4_listen_60 (by decide) ?_
      refine mk_istore C (lv' := [(6, .int 0), (5, .int 1), (4, .int r8), (3, .int (mkBits p2)), (0, .ref (aY 0)), (1, .int p1), (2, .int p2)]) dX4_listen_61 (by decide) rfl ?_
      exact mk_lvsub [4, 5, 6, 2, 1, 0] rfl (wL63 600 _ _ _ _ _ hf)
set_option maxHeartbeats 40000000 in
set_option maxRecDepth 100000 in
theorem c_Y_nextBit (l : Launch) (D : va_G) (cI cJ cB cZ cS : ClassId) (X : Nat → Nat) (Y : mk_Y) (aY aP aS aC : Nat → Nat) (uY : Nat → Nat → Int32) (uP : Nat → Nat → Int32) (uS : Nat → Nat → Int32) (uC : Nat → Nat → Int32) (p1 : Int32) (r : Int32) (wC : Nat → Nat → Int32) (hf : f_Y_nextBit uP uC p1 = some (r, wC)) : mk_Met l yX4_nextBit cX4_nextBit 4 (some .int) ({ frames := 1, cells := 0, slots := 0, locals := 22 }) D (mk_TY cI cJ cB cZ cS) X Y [.ref (aY 0), .int p1] (wPlay aY aP aS (aC 0) cI uY ++ (wPlan aP cI uP ++ (wStack aS cI uS ++ (wCourse aC cI uC)))) (wPlay aY aP aS (aC 0) cI uY ++ (wPlan aP cI uP ++ (wStack aS cI uS ++ (wCourse aC cI wC)))) (some (.int r)) 0 0 := by
  refine mk_start (own := RX4) (by decide) rfl (Nat.le_of_ble_eq_true rfl) ?_
  intro sz p e s m args below meth c A C hr hlk hnm
  replace C : mk_Cx p s m args c cX4_nextBit 4 RX4 D (mk_TY cI cJ cB cZ cS) X Y A := C
  show mk_Go p l e (headSpec (mk_ws yX4_nextBit cX4_nextBit 4 (some .int)) ({ frames := 1, cells := 0, slots := 0, locals := 22 })).room s m args below meth c D A 4 0 0 (MQ below (mk_Q (some (.int r)) D (wPlay aY aP aS (aC 0) cI uY ++ (wPlan aP cI uP ++ (wStack aS cI uS ++ (wCourse aC cI wC)))) A) args s 0 0 A) 0 (wPlay aY aP aS (aC 0) cI uY ++ (wPlan aP cI uP ++ (wStack aS cI uS ++ (wCourse aC cI uC)))) [(0, .ref (aY 0)), (1, .int p1)] []
  unfold f_Y_nextBit at hf
  refine mk_aload_n C 0 dX4_nextBit_0 rfl ?_
  refine mk_get C mk_inX4 0 rfl rfl 3 (by decide) mw_254 (v := .ref (aC 0)) rfl dX4_nextBit_1 ?_
  refine mk_get C mk_inX1 12 rfl rfl 7 (by decide) mw_207 (v := .ref (aC 8)) rfl dX4_nextBit_4 ?_
  refine mk_iload_n C 1 dX4_nextBit_7 rfl ?_
  refine mk_callNi C (c_at l D cI cJ cB cZ cS X Y (aC 8) 10 (uC 7) p1) (List.mem_of_getElem? (i := 14) rfl) mw_377 mw_1 mw_378 mkn_X8_at rfl ⟨Nat.le_of_ble_eq_true rfl, Nat.le_of_ble_eq_true rfl⟩ (mk_Fr.at (q := 20) rfl) (Nat.le_of_ble_eq_true rfl) dX4_nextBit_8 rfl ?_
  refine mk_istore_n C (lv' := [(2, .int (mkAt 10 (uC 7) p1)), (0, .ref (aY 0)), (1, .int p1)]) dX4_nextBit_11 (by decide) rfl ?_
  refine mk_aload_n C 1 dX4_nextBit_12 rfl ?_
  refine mk_get C mk_inX4 0 rfl rfl 0 (by decide) mw_250 (v := .ref (aP 0)) rfl dX4_nextBit_13 ?_
  refine mk_get C mk_inX3 2 rfl rfl 8 (by decide) mw_92 (v := .ref (aP 9)) rfl dX4_nextBit_16 ?_
  refine mk_iload_n C 2 dX4_nextBit_19 rfl ?_
  refine mk_callNi C (c_at l D cI cJ cB cZ cS X Y (aP 9) 10 (uP 8) p1) (List.mem_of_getElem? (i := 14) rfl) mw_377 mw_1 mw_378 mkn_X8_at rfl ⟨Nat.le_of_ble_eq_true rfl, Nat.le_of_ble_eq_true rfl⟩ (mk_Fr.at (q := 4) rfl) (Nat.le_of_ble_eq_true rfl) dX4_nextBit_20 rfl ?_
  refine mk_istore_n C (lv' := [(3, .int (mkAt 10 (uP 8) p1)), (2, .int (mkAt 10 (uC 7) p1)), (0, .ref (aY 0)), (1, .int p1)]) dX4_nextBit_23 (by decide) rfl ?_
  refine mk_aload_n C 2 dX4_nextBit_24 rfl ?_
  refine mk_get C mk_inX4 0 rfl rfl 3 (by decide) mw_254 (v := .ref (aC 0)) rfl dX4_nextBit_25 ?_
  refine mk_get C mk_inX1 12 rfl rfl 7 (by decide) mw_207 (v := .ref (aC 8)) rfl dX4_nextBit_28 ?_
  refine mk_iload_n C 3 dX4_nextBit_31 rfl ?_
  refine mk_iload_n C 1 dX4_nextBit_32 rfl ?_
  refine mk_iconst C (v := 1) dX4_nextBit_33 (by decide) ?_
  refine mk_iadd C dX4_nextBit_34 ?_
  refine mk_callNv C (c_put l D cI cJ cB cZ cS X Y (aC 8) 10 (uC 7) p1 ((mkAt 10 (uC 7) p1) + 1)) (List.mem_of_getElem? (i := 15) rfl) mw_483 mw_1 mw_484 mkn_X8_put rfl ⟨Nat.le_of_ble_eq_true rfl, Nat.le_of_ble_eq_true rfl⟩ (mk_Fr.put (q := 20) (ws' := (wPlay aY aP aS (aC 0) cI uY ++ (wPlan aP cI uP ++ (wStack aS cI uS ++ (wCourse aC cI (upR 7 (mkPut 10 (uC 7) p1 ((mkAt 10 (uC 7) p1) + 1)) uC)))))) rfl (st_YPSC_C_7 cI cJ aY aP aS aC (aC 0) uY uP uS uC (mkPut 10 (uC 7) p1 ((mkAt 10 (uC 7) p1) + 1)))) (Nat.le_of_ble_eq_true rfl) dX4_nextBit_35 rfl ?_
  refine mk_iload_n C 0 dX4_nextBit_38 rfl ?_
  refine mk_if_le C 66 dX4_nextBit_39 (by decide) (fun c1 => ?_) (fun c1 => ?_)
  · replace hf := (if_pos c1).symm.trans hf
    refine mk_iconst C (v := 0) dX4_nextBit_66 (by decide) ?_
    have e := Option.some.inj hf
    obtain ⟨e0, e1⟩ := Prod.mk.inj e
    exact mk_iret C hr hlk e0 (by rw [← e1]) dX4_nextBit_67
  · replace hf := (if_neg c1).symm.trans hf
    refine mk_aload_n C 2 dX4_nextBit_42 rfl ?_
    refine mk_get C mk_inX4 0 rfl rfl 0 (by decide) mw_250 (v := .ref (aP 0)) rfl dX4_nextBit_43 ?_
    refine mk_get C mk_inX3 2 rfl rfl 9 (by decide) mw_94 (v := .ref (aP 10)) rfl dX4_nextBit_46 ?_
    refine mk_iload_n C 3 dX4_nextBit_49 rfl ?_
    refine mk_callNi C (c_at l D cI cJ cB cZ cS X Y (aP 10) 10 (uP 9) p1) (List.mem_of_getElem? (i := 14) rfl) mw_377 mw_1 mw_378 mkn_X8_at rfl ⟨Nat.le_of_ble_eq_true rfl, Nat.le_of_ble_eq_true rfl⟩ (mk_Fr.at (q := 5) rfl) (Nat.le_of_ble_eq_true rfl) dX4_nextBit_50 rfl ?_
    refine mk_iload_n C 0 dX4_nextBit_53 rfl ?_
    refine mk_iconst C (v := 1) dX4_nextBit_54 (by decide) ?_
    refine mk_isub C dX4_nextBit_55 ?_
    refine mk_iload_n C 1 dX4_nextBit_56 rfl ?_
    refine mk_iload_n C 0 dX4_nextBit_57 rfl ?_
    obtain ⟨g2, hf⟩ := gN_some hf
    refine mk_irem C dX4_nextBit_58 g2 ?_
    refine mk_isub C dX4_nextBit_59 ?_
    refine mk_ishr C dX4_nextBit_60 ?_
    refine mk_iconst C (v := 1) dX4_nextBit_61 (by decide) ?_
    refine mk_iand C dX4_nextBit_62 ?_
    refine mk_goto C 67 dX4_nextBit_63 (by decide) ?_
    have e := Option.some.inj hf
    obtain ⟨e0, e1⟩ := Prod.mk.inj e
    exact mk_iret C hr hlk e0 (by rw [← e1]) dX4_nextBit_67
set_option maxHeartbeats 40000000 in
set_option maxRecDepth 100000 in
theorem c_Y_counterBehind (l : Launch) (D : va_G) (cI cJ cB cZ cS : ClassId) (X : Nat → Nat) (Y : mk_Y) (aY aP aS aC : Nat → Nat) (uY : Nat → Nat → Int32) (uP : Nat → Nat → Int32) (uS : Nat → Nat → Int32) (uC : Nat → Nat → Int32) (p1 : Int32) (p2 : Int32) (p3 : Int32) (r : Int32) (wC : Nat → Nat → Int32) (hf : f_Y_counterBehind uY uP uC p1 p2 p3 = some (r, wC)) : mk_Met l yX4_counterBehind cX4_counterBehind 5 (some .int) ({ frames := 2, cells := 0, slots := 0, locals := 45 }) D (mk_TY cI cJ cB cZ cS) X Y [.ref (aY 0), .int p1, .int p2, .int p3] (wPlay aY aP aS (aC 0) cI uY ++ (wPlan aP cI uP ++ (wStack aS cI uS ++ (wCourse aC cI uC)))) (wPlay aY aP aS (aC 0) cI uY ++ (wPlan aP cI uP ++ (wStack aS cI uS ++ (wCourse aC cI wC)))) (some (.int r)) 0 0 := by
  refine mk_start (own := RX4) (by decide) rfl (Nat.le_of_ble_eq_true rfl) ?_
  intro sz p e s m args below meth c A C hr hlk hnm
  replace C : mk_Cx p s m args c cX4_counterBehind 5 RX4 D (mk_TY cI cJ cB cZ cS) X Y A := C
  show mk_Go p l e (headSpec (mk_ws yX4_counterBehind cX4_counterBehind 5 (some .int)) ({ frames := 2, cells := 0, slots := 0, locals := 45 })).room s m args below meth c D A 5 0 0 (MQ below (mk_Q (some (.int r)) D (wPlay aY aP aS (aC 0) cI uY ++ (wPlan aP cI uP ++ (wStack aS cI uS ++ (wCourse aC cI wC)))) A) args s 0 0 A) 0 (wPlay aY aP aS (aC 0) cI uY ++ (wPlan aP cI uP ++ (wStack aS cI uS ++ (wCourse aC cI uC)))) [(0, .ref (aY 0)), (1, .int p1), (2, .int p2), (3, .int p3)] []
  unfold f_Y_counterBehind at hf
  refine mk_aload_n C 0 dX4_counterBehind_0 rfl ?_
  refine mk_get C mk_inX4 0 rfl rfl 2 (by decide) mw_253 (v := .ref (aY 3)) rfl dX4_counterBehind_1 ?_
  refine mk_iload_n C 1 dX4_counterBehind_4 rfl ?_
  refine mk_callNi C (c_at l D cI cJ cB cZ cS X Y (aY 3) 10 (uY 2) p1) (List.mem_of_getElem? (i := 14) rfl) mw_377 mw_1 mw_378 mkn_X8_at rfl ⟨Nat.le_of_ble_eq_true rfl, Nat.le_of_ble_eq_true rfl⟩ (mk_Fr.at (q := 1) rfl) (Nat.le_of_ble_eq_true rfl) dX4_counterBehind_5 rfl ?_
  refine mk_istore C (lv' := [(4, .int (mkAt 10 (uY 2) p1)), (0, .ref (aY 0)), (1, .int p1), (2, .int p2), (3, .int p3)]) dX4_counterBehind_8 (by decide) rfl ?_
  refine mk_iload_n C 3 dX4_counterBehind_10 rfl ?_
  refine mk_if_eq C 29 dX4_counterBehind_11 (by decide) (fun c1 => ?_) (fun c1 => ?_)
  · replace hf := (if_pos c1).symm.trans hf
    refine mk_iload_n C 4 dX4_counterBehind_29 rfl ?_
    refine mk_if_eq C 40 dX4_counterBehind_30 (by decide) (fun c2 => ?_) (fun c2 => ?_)
    · replace hf := (if_pos c2).symm.trans hf
      refine mk_iload C 0 dX4_counterBehind_40 rfl ?_
      refine mk_iconst C (v := 1) dX4_counterBehind_42 (by decide) ?_
      refine mk_isub C dX4_counterBehind_43 ?_
      have e := Option.some.inj hf
      obtain ⟨e0, e1⟩ := Prod.mk.inj e
      exact mk_iret C hr hlk e0 (by rw [← e1]) dX4_counterBehind_44
    · replace hf := (if_neg c2).symm.trans hf
      refine mk_iload C 0 dX4_counterBehind_33 rfl ?_
      refine mk_iconst C (v := 1) dX4_counterBehind_35 (by decide) ?_
      refine mk_iadd C dX4_counterBehind_36 ?_
      refine mk_goto C 44 dX4_counterBehind_37 (by decide) ?_
      have e := Option.some.inj hf
      obtain ⟨e0, e1⟩ := Prod.mk.inj e
      exact mk_iret C hr hlk e0 (by rw [← e1]) dX4_counterBehind_44
  · replace hf := (if_neg c1).symm.trans hf
    refine mk_iload_n C 4 dX4_counterBehind_14 rfl ?_
    refine mk_if_eq C 26 dX4_counterBehind_15 (by decide) (fun c3 => ?_) (fun c3 => ?_)
    · replace hf := (if_pos c3).symm.trans hf
      refine mk_iload C 0 dX4_counterBehind_26 rfl ?_
      have e := Option.some.inj hf
      obtain ⟨e0, e1⟩ := Prod.mk.inj e
      exact mk_iret C hr hlk e0 (by rw [← e1]) dX4_counterBehind_28
    · replace hf := (if_neg c3).symm.trans hf
      refine mk_aload_n C 1 dX4_counterBehind_18 rfl ?_
      refine mk_iload_n C 2 dX4_counterBehind_19 rfl ?_
      obtain ⟨r4, uC_5, h6, hf⟩ := b2_some hf
      refine mk_callVi C (c_Y_nextBit l D cI cJ cB cZ cS X Y aY aP aS aC uY uP uS uC p1 r4 uC_5 h6) mw_562 mw_563 mw_564 mw_5 mw_565 mkn_X4_nextBit rfl ⟨Nat.le_of_ble_eq_true rfl, Nat.le_of_ble_eq_true rfl⟩ 0 rfl rfl rfl (mk_Fr.all _ _) (Nat.le_of_ble_eq_true rfl) dX4_counterBehind_20 rfl ?_
      refine mk_goto C 28 dX4_counterBehind_23 (by decide) ?_
      have e := Option.some.inj hf
      obtain ⟨e0, e1⟩ := Prod.mk.inj e
      exact mk_iret C hr hlk e0 (by rw [← e1]) dX4_counterBehind_28
set_option maxHeartbeats 40000000 in
set_option maxRecDepth 100000 in
theorem c_Y_playByCounters (l : Launch) (D : va_G) (cI cJ cB cZ cS : ClassId) (X : Nat → Nat) (Y : mk_Y) (aY aP aS aC : Nat → Nat) (uY : Nat → Nat → Int32) (uP : Nat → Nat → Int32) (uS : Nat → Nat → Int32) (uC : Nat → Nat → Int32) (p1 : Int32) (wY : Nat → Nat → Int32) (wC : Nat → Nat → Int32) (hf : f_Y_playByCounters uY uP uC p1 = some (wY, wC)) : mk_Met l yX4_playByCounters cX4_playByCounters 6 none ({ frames := 3, cells := 0, slots := 0, locals := 70 }) D (mk_TY cI cJ cB cZ cS) X Y [.ref (aY 0), .int p1] (wPlay aY aP aS (aC 0) cI uY ++ (wPlan aP cI uP ++ (wStack aS cI uS ++ (wCourse aC cI uC)))) (wPlay aY aP aS (aC 0) cI wY ++ (wPlan aP cI uP ++ (wStack aS cI uS ++ (wCourse aC cI wC)))) none 0 0 := by
  refine mk_start (own := RX4) (by decide) rfl (Nat.le_of_ble_eq_true rfl) ?_
  intro sz p e s m args below meth c A C hr hlk hnm
  replace C : mk_Cx p s m args c cX4_playByCounters 6 RX4 D (mk_TY cI cJ cB cZ cS) X Y A := C
  have wL169 : ∀ (v4 : Int32) (uY : Nat → Nat → Int32) (uC : Nat → Nat → Int32), f_Y_playByCounters_169 uP p1 v4 uY uC = some (wY, wC) → mk_Go p l e (headSpec (mk_ws yX4_playByCounters cX4_playByCounters 6 none) ({ frames := 3, cells := 0, slots := 0, locals := 70 })).room s m args below meth c D A 6 0 0 (MQ below (mk_Q none D (wPlay aY aP aS (aC 0) cI wY ++ (wPlan aP cI uP ++ (wStack aS cI uS ++ (wCourse aC cI wC)))) A) args s 0 0 A) 169 (wPlay aY aP aS (aC 0) cI uY ++ (wPlan aP cI uP ++ (wStack aS cI uS ++ (wCourse aC cI uC)))) [(0, .ref (aY 0)), (1, .int p1), (4, .int v4)] [] := by
    intro  v4 uY uC hf
    unfold f_Y_playByCounters_169 at hf
    refine mk_aload_n C 0 dX4_playByCounters_169 rfl ?_
    refine mk_get C mk_inX4 0 rfl rfl 3 (by decide) mw_254 (v := .ref (aC 0)) rfl dX4_playByCounters_170 ?_
    refine mk_get C mk_inX1 12 rfl rfl 3 (by decide) mw_196 (v := .ref (aC 4)) rfl dX4_playByCounters_173 ?_
    refine mk_iload_n C 1 dX4_playByCounters_176 rfl ?_
    refine mk_iload C 2 dX4_playByCounters_177 rfl ?_
    refine mk_iconst C (v := 1) dX4_playByCounters_179 (by decide) ?_
    refine mk_iadd C dX4_playByCounters_180 ?_
    refine mk_callNv C (c_put l D cI cJ cB cZ cS X Y (aC 4) 200 (uC 3) p1 (v4 + 1)) (List.mem_of_getElem? (i := 15) rfl) mw_483 mw_1 mw_484 mkn_X8_put rfl ⟨Nat.le_of_ble_eq_true rfl, Nat.le_of_ble_eq_true rfl⟩ (mk_Fr.put (q := 16) (ws' := (wPlay aY aP aS (aC 0) cI uY ++ (wPlan aP cI uP ++ (wStack aS cI uS ++ (wCourse aC cI (upR 3 (mkPut 200 (uC 3) p1 (v4 + 1)) uC)))))) rfl (st_YPSC_C_3 cI cJ aY aP aS aC (aC 0) uY uP uS uC (mkPut 200 (uC 3) p1 (v4 + 1)))) (Nat.le_of_ble_eq_true rfl) dX4_playByCounters_181 rfl ?_
    have e := Option.some.inj hf
    obtain ⟨e0, e1⟩ := Prod.mk.inj e
    exact mk_vret C hr hlk (by rw [← e0, ← e1]) dX4_playByCounters_184
  have wL141 : ∀ (k72 : Int32 → Int32 → Int32 → Int32 → (Nat → Nat → Int32) → (Nat → Nat → Int32) → Option ((Nat → Nat → Int32) × (Nat → Nat → Int32))), (∀ (v2 : Int32) (v3 : Int32) (v4 : Int32) (v5 : Int32) (uY : Nat → Nat → Int32) (uC : Nat → Nat → Int32), k72 v2 v3 v4 v5 uY uC = some (wY, wC) → mk_Go p l e (headSpec (mk_ws yX4_playByCounters cX4_playByCounters 6 none) ({ frames := 3, cells := 0, slots := 0, locals := 70 })).room s m args below meth c D A 6 0 0 (MQ below (mk_Q none D (wPlay aY aP aS (aC 0) cI wY ++ (wPlan aP cI uP ++ (wStack aS cI uS ++ (wCourse aC cI wC)))) A) args s 0 0 A) 72 (wPlay aY aP aS (aC 0) cI uY ++ (wPlan aP cI uP ++ (wStack aS cI uS ++ (wCourse aC cI uC)))) [(0, .ref (aY 0)), (1, .int p1), (2, .int v2), (3, .int v3), (4, .int v4), (5, .int v5)] []) → ∀ (v2 : Int32) (v3 : Int32) (v4 : Int32) (v5 : Int32) (t1 : Int32) (t3 : Int32) (t4 : Int32) (t5 : Int32) (uY : Nat → Nat → Int32) (uC : Nat → Nat → Int32), f_Y_playByCounters_141 uP p1 k72 v2 v3 v4 v5 t1 t3 t4 t5 uY uC = some (wY, wC) → mk_Go p l e (headSpec (mk_ws yX4_playByCounters cX4_playByCounters 6 none) ({ frames := 3, cells := 0, slots := 0, locals := 70 })).room s m args below meth c D A 6 0 0 (MQ below (mk_Q none D (wPlay aY aP aS (aC 0) cI wY ++ (wPlan aP cI uP ++ (wStack aS cI uS ++ (wCourse aC cI wC)))) A) args s 0 0 A) 141 (wPlay aY aP aS (aC 0) cI uY ++ (wPlan aP cI uP ++ (wStack aS cI uS ++ (wCourse aC cI uC)))) [(0, .ref (aY 0)), (1, .int p1), (2, .int v2), (3, .int v3), (4, .int v4), (5, .int v5)] [.int t5, .int t4, .int t3, .ref (aY 0), .int t1, .ref (aY 3)] := by
    intro k72 hk72 v2 v3 v4 v5 t1 t3 t4 t5 uY uC hf
    unfold f_Y_playByCounters_141 at hf
    obtain ⟨r1, uC_2, h3, hf⟩ := b2_some hf
    refine mk_callVi C (c_Y_counterBehind l D cI cJ cB cZ cS X Y aY aP aS aC uY uP uS uC t3 t4 t5 r1 uC_2 h3) mw_558 mw_559 mw_560 mw_5 mw_561 mkn_X4_counterBehind rfl ⟨Nat.le_of_ble_eq_true rfl, Nat.le_of_ble_eq_true rfl⟩ 0 rfl rfl rfl (mk_Fr.all _ _) (Nat.le_of_ble_eq_true rfl) dX4_playByCounters_141 rfl ?_
    refine mk_callNv C (c_put l D cI cJ cB cZ cS X Y (aY 3) 10 (uY 2) t1 r1) (List.mem_of_getElem? (i := 15) rfl) mw_483 mw_1 mw_484 mkn_X8_put rfl ⟨Nat.le_of_ble_eq_true rfl, Nat.le_of_ble_eq_true rfl⟩ (mk_Fr.put (q := 1) (ws' := (wPlay aY aP aS (aC 0) cI (upR 2 (mkPut 10 (uY 2) t1 r1) uY) ++ (wPlan aP cI uP ++ (wStack aS cI uS ++ (wCourse aC cI uC_2))))) rfl (st_YPSC_Y_2 cI cJ aY aP aS aC (aC 0) uY uP uS uC_2 (mkPut 10 (uY 2) t1 r1))) (Nat.le_of_ble_eq_true rfl) dX4_playByCounters_144 rfl ?_
    refine mk_iload C 4 dX4_playByCounters_147 rfl ?_
    refine mk_aload_n C 0 dX4_playByCounters_149 rfl ?_
    refine mk_get C mk_inX4 0 rfl rfl 2 (by decide) mw_253 (v := .ref (aY 3)) rfl dX4_playByCounters_150 ?_
    refine mk_iload C 5 dX4_playByCounters_153 rfl ?_
    refine mk_callNi C (c_at l D cI cJ cB cZ cS X Y (aY 3) 10 (mkPut 10 (uY 2) t1 r1) v5) (List.mem_of_getElem? (i := 14) rfl) mw_377 mw_1 mw_378 mkn_X8_at rfl ⟨Nat.le_of_ble_eq_true rfl, Nat.le_of_ble_eq_true rfl⟩ (mk_Fr.at (q := 1) rfl) (Nat.le_of_ble_eq_true rfl) dX4_playByCounters_155 rfl ?_
    refine mk_mmax C mw_566 mw_567 mw_16 mw_568 ⟨Nat.le_of_ble_eq_true rfl, Nat.le_of_ble_eq_true rfl⟩ ⟨Nat.zero_le _, Nat.zero_le _⟩ dX4_playByCounters_158 ?_
    refine mk_istore C (lv' := [(4, .int (if v4 < (mkAt 10 (mkPut 10 (uY 2) t1 r1) v5) then (mkAt 10 (mkPut 10 (uY 2) t1 r1) v5) else v4)), (0, .ref (aY 0)), (1, .int p1), (2, .int v2), (3, .int v3), (5, .int v5)]) dX4_playByCounters_161 (by decide) rfl ?_
    refine mk_iinc C (v := (v5 + 1)) (lv' := [(5, .int (v5 + 1)), (4, .int (if v4 < (mkAt 10 (mkPut 10 (uY 2) t1 r1) v5) then (mkAt 10 (mkPut 10 (uY 2) t1 r1) v5) else v4)), (0, .ref (aY 0)), (1, .int p1), (2, .int v2), (3, .int v3)]) 5 dX4_playByCounters_163 rfl rfl (by decide) rfl ?_
    refine mk_goto C 72 dX4_playByCounters_166 (by decide) ?_
    exact mk_lvsub [2, 3, 4, 5, 1, 0] rfl (hk72 _ _ _ _ _ _ hf)
  have wL131 : ∀ (k72 : Int32 → Int32 → Int32 → Int32 → (Nat → Nat → Int32) → (Nat → Nat → Int32) → Option ((Nat → Nat → Int32) × (Nat → Nat → Int32))), (∀ (v2 : Int32) (v3 : Int32) (v4 : Int32) (v5 : Int32) (uY : Nat → Nat → Int32) (uC : Nat → Nat → Int32), k72 v2 v3 v4 v5 uY uC = some (wY, wC) → mk_Go p l e (headSpec (mk_ws yX4_playByCounters cX4_playByCounters 6 none) ({ frames := 3, cells := 0, slots := 0, locals := 70 })).room s m args below meth c D A 6 0 0 (MQ below (mk_Q none D (wPlay aY aP aS (aC 0) cI wY ++ (wPlan aP cI uP ++ (wStack aS cI uS ++ (wCourse aC cI wC)))) A) args s 0 0 A) 72 (wPlay aY aP aS (aC 0) cI uY ++ (wPlan aP cI uP ++ (wStack aS cI uS ++ (wCourse aC cI uC)))) [(0, .ref (aY 0)), (1, .int p1), (2, .int v2), (3, .int v3), (4, .int v4), (5, .int v5)] []) → ∀ (v2 : Int32) (v3 : Int32) (v4 : Int32) (v5 : Int32) (t1 : Int32) (t3 : Int32) (t4 : Int32) (uY : Nat → Nat → Int32) (uC : Nat → Nat → Int32), f_Y_playByCounters_131 uP p1 k72 v2 v3 v4 v5 t1 t3 t4 uY uC = some (wY, wC) → mk_Go p l e (headSpec (mk_ws yX4_playByCounters cX4_playByCounters 6 none) ({ frames := 3, cells := 0, slots := 0, locals := 70 })).room s m args below meth c D A 6 0 0 (MQ below (mk_Q none D (wPlay aY aP aS (aC 0) cI wY ++ (wPlan aP cI uP ++ (wStack aS cI uS ++ (wCourse aC cI wC)))) A) args s 0 0 A) 131 (wPlay aY aP aS (aC 0) cI uY ++ (wPlan aP cI uP ++ (wStack aS cI uS ++ (wCourse aC cI uC)))) [(0, .ref (aY 0)), (1, .int p1), (2, .int v2), (3, .int v3), (4, .int v4), (5, .int v5)] [.int t4, .int t3, .ref (aY 0), .int t1, .ref (aY 3)] := by
    intro k72 hk72 v2 v3 v4 v5 t1 t3 t4 uY uC hf
    unfold f_Y_playByCounters_131 at hf
    refine mk_iload_n C 3 dX4_playByCounters_131 rfl ?_
    refine mk_iconst C (v := 2) dX4_playByCounters_132 (by decide) ?_
    refine mk_icmp_ne C 140 dX4_playByCounters_133 (by decide) (fun c4 => ?_) (fun c4 => ?_)
    · replace hf := (if_neg c4).symm.trans hf
      refine mk_iconst C (v := 0) dX4_playByCounters_140 (by decide) ?_
      exact mk_lvsub [0, 1, 2, 3, 4, 5] rfl (wL141 _ hk72 _ _ _ _ _ _ _ _ _ _ hf)
    · replace hf := (if_pos c4).symm.trans hf
      refine mk_iconst C (v := 1) dX4_playByCounters_136 (by decide) ?_
      refine mk_goto C 141 dX4_playByCounters_137 (by decide) ?_
      exact mk_lvsub [0, 1, 2, 3, 4, 5] rfl (wL141 _ hk72 _ _ _ _ _ _ _ _ _ _ hf)
  have wL72 : ∀ (n : Nat) (v2 : Int32) (v3 : Int32) (v4 : Int32) (v5 : Int32) (uY : Nat → Nat → Int32) (uC : Nat → Nat → Int32), f_Y_playByCounters_72 uP p1 n v2 v3 v4 v5 uY uC = some (wY, wC) → mk_Go p l e (headSpec (mk_ws yX4_playByCounters cX4_playByCounters 6 none) ({ frames := 3, cells := 0, slots := 0, locals := 70 })).room s m args below meth c D A 6 0 0 (MQ below (mk_Q none D (wPlay aY aP aS (aC 0) cI wY ++ (wPlan aP cI uP ++ (wStack aS cI uS ++ (wCourse aC cI wC)))) A) args s 0 0 A) 72 (wPlay aY aP aS (aC 0) cI uY ++ (wPlan aP cI uP ++ (wStack aS cI uS ++ (wCourse aC cI uC)))) [(0, .ref (aY 0)), (1, .int p1), (2, .int v2), (3, .int v3), (4, .int v4), (5, .int v5)] [] := by
    intro  n
    induction n with
    | zero => intro v2 v3 v4 v5 uY uC hf; exact nomatch (show (none : Option ((Nat → Nat → Int32) × (Nat → Nat → Int32))) = some _ from hf)
    | succ n ih =>
      intro v2 v3 v4 v5 uY uC hf
      rw [f_Y_playByCounters_72] at hf
      refine mk_iload C 5 dX4_playByCounters_72 rfl ?_
      refine mk_aload_n C 0 dX4_playByCounters_74 rfl ?_
      refine mk_get C mk_inX4 0 rfl rfl 0 (by decide) mw_250 (v := .ref (aP 0)) rfl dX4_playByCounters_75 ?_
      refine mk_get C mk_inX3 2 rfl rfl 5 (by decide) mw_80 (v := .int (uP 5 0)) rfl dX4_playByCounters_78 ?_
      refine mk_icmp_ge C 169 dX4_playByCounters_81 (by decide) (fun c5 => ?_) (fun c5 => ?_)
      · replace hf := (if_pos c5).symm.trans hf
        exact mk_lvsub [0, 1, 4] rfl (wL169 _ _ _ hf)
      · replace hf := (if_neg c5).symm.trans hf
        refine mk_aload_n C 0 dX4_playByCounters_84 rfl ?_
        refine mk_get C mk_inX4 0 rfl rfl 7 (by decide) mw_259 (v := .int (uY 7 0)) rfl dX4_playByCounters_85 ?_
        refine mk_iload C 5 dX4_playByCounters_88 rfl ?_
        refine mk_ishr C dX4_playByCounters_90 ?_
        refine mk_if_eq C 169 dX4_playByCounters_91 (by decide) (fun c6 => ?_) (fun c6 => ?_)
        · replace hf := (if_pos c6).symm.trans hf
          exact mk_lvsub [0, 1, 4] rfl (wL169 _ _ _ hf)
        · replace hf := (if_neg c6).symm.trans hf
          refine mk_aload_n C 0 dX4_playByCounters_94 rfl ?_
          refine mk_get C mk_inX4 0 rfl rfl 7 (by decide) mw_259 (v := .int (uY 7 0)) rfl dX4_playByCounters_95 ?_
          refine mk_iload C 5 dX4_playByCounters_98 rfl ?_
          refine mk_ishr C dX4_playByCounters_100 ?_
          refine mk_iconst C (v := 1) dX4_playByCounters_101 (by decide) ?_
          refine mk_iand C dX4_playByCounters_102 ?_
          refine mk_iconst C (v := 1) dX4_playByCounters_103 (by decide) ?_
          refine mk_icmp_ne C 163 dX4_playByCounters_104 (by decide) (fun c7 => ?_) (fun c7 => ?_)
          · replace hf := (if_neg c7).symm.trans hf
            refine mk_iinc C (v := (v5 + 1)) (lv' := [(5, .int (v5 + 1)), (0, .ref (aY 0)), (1, .int p1), (2, .int v2), (3, .int v3), (4, .int v4)]) 5 dX4_playByCounters_163 rfl rfl (by decide) rfl ?_
            refine mk_goto C 72 dX4_playByCounters_166 (by decide) ?_
            exact mk_lvsub [1, 2, 3, 4, 5, 0] rfl (ih _ _ _ _ _ _ hf)
          · replace hf := (if_pos c7).symm.trans hf
            refine mk_aload_n C 0 dX4_playByCounters_107 rfl ?_
            refine mk_get C mk_inX4 0 rfl rfl 2 (by decide) mw_253 (v := .ref (aY 3)) rfl dX4_playByCounters_108 ?_
            refine mk_iload C 5 dX4_playByCounters_111 rfl ?_
            refine mk_aload_n C 0 dX4_playByCounters_113 rfl ?_
            refine mk_iload C 5 dX4_playByCounters_114 rfl ?_
            refine mk_iload_n C 2 dX4_playByCounters_116 rfl ?_
            refine mk_iload C 5 dX4_playByCounters_117 rfl ?_
            refine mk_ishr C dX4_playByCounters_119 ?_
            refine mk_iconst C (v := 1) dX4_playByCounters_120 (by decide) ?_
            refine mk_iand C dX4_playByCounters_121 ?_
            refine mk_iconst C (v := 1) dX4_playByCounters_122 (by decide) ?_
            refine mk_icmp_ne C 130 dX4_playByCounters_123 (by decide) (fun c8 => ?_) (fun c8 => ?_)
            · replace hf := (if_neg c8).symm.trans hf
              refine mk_iconst C (v := 0) dX4_playByCounters_130 (by decide) ?_
              exact mk_lvsub [0, 1, 2, 3, 4, 5] rfl (wL131 _ ih _ _ _ _ _ _ _ _ _ hf)
            · replace hf := (if_pos c8).symm.trans hf
              refine mk_iconst C (v := 1) dX4_playByCounters_126 (by decide) ?_
              refine mk_goto C 131 dX4_playByCounters_127 (by decide) ?_
              exact mk_lvsub [0, 1, 2, 3, 4, 5] rfl (wL131 _ ih _ _ _ _ _ _ _ _ _ hf)
  have wL59 : ∀ (v2 : Int32) (uY : Nat → Nat → Int32) (uC : Nat → Nat → Int32), f_Y_playByCounters_59 uP p1 v2 uY uC = some (wY, wC) → mk_Go p l e (headSpec (mk_ws yX4_playByCounters cX4_playByCounters 6 none) ({ frames := 3, cells := 0, slots := 0, locals := 70 })).room s m args below meth c D A 6 0 0 (MQ below (mk_Q none D (wPlay aY aP aS (aC 0) cI wY ++ (wPlan aP cI uP ++ (wStack aS cI uS ++ (wCourse aC cI wC)))) A) args s 0 0 A) 59 (wPlay aY aP aS (aC 0) cI uY ++ (wPlan aP cI uP ++ (wStack aS cI uS ++ (wCourse aC cI uC)))) [(0, .ref (aY 0)), (1, .int p1), (2, .int v2)] [] := by
    intro  v2 uY uC hf
    unfold f_Y_playByCounters_59 at hf
    refine mk_aload_n C 0 dX4_playByCounters_59 rfl ?_
    refine mk_iload_n C 1 dX4_playByCounters_60 rfl ?_
    refine mk_iload_n C 2 dX4_playByCounters_61 rfl ?_
    obtain ⟨r9, uY_10, uC_11, h12, hf⟩ := b3_some hf
    refine mk_callVi C (c_Y_listen l D cI cJ cB cZ cS X Y aY aP aS aC uY uP uS uC p1 v2 r9 uY_10 uC_11 h12) mw_535 mw_536 mw_537 mw_5 mw_538 mkn_X4_listen rfl ⟨Nat.le_of_ble_eq_true rfl, Nat.le_of_ble_eq_true rfl⟩ 0 rfl rfl rfl (mk_Fr.all _ _) (Nat.le_of_ble_eq_true rfl) dX4_playByCounters_62 rfl ?_
    refine mk_istore_n C (lv' := [(3, .int r9), (0, .ref (aY 0)), (1, .int p1), (2, .int v2)]) dX4_playByCounters_65 (by decide) rfl ?_
    refine mk_iconst C (v := (-1)) dX4_playByCounters_66 (by decide) ?_
    refine mk_istore C (lv' := [(4, .int (-1)), (3, .int r9), (0, .ref (aY 0)), (1, .int p1), (2, .int v2)]) dX4_playByCounters_67 (by decide) rfl ?_
    refine mk_iconst C (v := 0) dX4_playByCounters_69 (by decide) ?_
    refine mk_istore C (lv' := [(5, .int 0), (4, .int (-1)), (3, .int r9), (0, .ref (aY 0)), (1, .int p1), (2, .int v2)]) dX4_playByCounters_70 (by decide) rfl ?_
    exact mk_lvsub [3, 4, 5, 2, 1, 0] rfl (wL72 600 _ _ _ _ _ _ hf)
  have wL4 : ∀ (n : Nat) (v2 : Int32) (v3 : Int32) (uY : Nat → Nat → Int32) (uC : Nat → Nat → Int32), f_Y_playByCounters_4 uP p1 n v2 v3 uY uC = some (wY, wC) → mk_Go p l e (headSpec (mk_ws yX4_playByCounters cX4_playByCounters 6 none) ({ frames := 3, cells := 0, slots := 0, locals := 70 })).room s m args below meth c D A 6 0 0 (MQ below (mk_Q none D (wPlay aY aP aS (aC 0) cI wY ++ (wPlan aP cI uP ++ (wStack aS cI uS ++ (wCourse aC cI wC)))) A) args s 0 0 A) 4 (wPlay aY aP aS (aC 0) cI uY ++ (wPlan aP cI uP ++ (wStack aS cI uS ++ (wCourse aC cI uC)))) [(0, .ref (aY 0)), (1, .int p1), (2, .int v2), (3, .int v3)] [] := by
    intro  n
    induction n with
    | zero => intro v2 v3 uY uC hf; exact nomatch (show (none : Option ((Nat → Nat → Int32) × (Nat → Nat → Int32))) = some _ from hf)
    | succ n ih =>
      intro v2 v3 uY uC hf
      rw [f_Y_playByCounters_4] at hf
      refine mk_iload_n C 3 dX4_playByCounters_4 rfl ?_
      refine mk_aload_n C 0 dX4_playByCounters_5 rfl ?_
      refine mk_get C mk_inX4 0 rfl rfl 0 (by decide) mw_250 (v := .ref (aP 0)) rfl dX4_playByCounters_6 ?_
      refine mk_get C mk_inX3 2 rfl rfl 5 (by decide) mw_80 (v := .int (uP 5 0)) rfl dX4_playByCounters_9 ?_
      refine mk_icmp_ge C 59 dX4_playByCounters_12 (by decide) (fun c13 => ?_) (fun c13 => ?_)
      · replace hf := (if_pos c13).symm.trans hf
        exact mk_lvsub [0, 1, 2] rfl (wL59 _ _ _ hf)
      · replace hf := (if_neg c13).symm.trans hf
        refine mk_aload_n C 0 dX4_playByCounters_15 rfl ?_
        refine mk_get C mk_inX4 0 rfl rfl 7 (by decide) mw_259 (v := .int (uY 7 0)) rfl dX4_playByCounters_16 ?_
        refine mk_iload_n C 3 dX4_playByCounters_19 rfl ?_
        refine mk_ishr C dX4_playByCounters_20 ?_
        refine mk_if_eq C 59 dX4_playByCounters_21 (by decide) (fun c14 => ?_) (fun c14 => ?_)
        · replace hf := (if_pos c14).symm.trans hf
          exact mk_lvsub [0, 1, 2] rfl (wL59 _ _ _ hf)
        · replace hf := (if_neg c14).symm.trans hf
          refine mk_aload_n C 0 dX4_playByCounters_24 rfl ?_
          refine mk_get C mk_inX4 0 rfl rfl 7 (by decide) mw_259 (v := .int (uY 7 0)) rfl dX4_playByCounters_25 ?_
          refine mk_iload_n C 3 dX4_playByCounters_28 rfl ?_
          refine mk_ishr C dX4_playByCounters_29 ?_
          refine mk_iconst C (v := 1) dX4_playByCounters_30 (by decide) ?_
          refine mk_iand C dX4_playByCounters_31 ?_
          refine mk_iconst C (v := 1) dX4_playByCounters_32 (by decide) ?_
          refine mk_icmp_ne C 53 dX4_playByCounters_33 (by decide) (fun c15 => ?_) (fun c15 => ?_)
          · replace hf := (if_neg c15).symm.trans hf
            refine mk_iinc C (v := (v3 + 1)) (lv' := [(3, .int (v3 + 1)), (0, .ref (aY 0)), (1, .int p1), (2, .int v2)]) 3 dX4_playByCounters_53 rfl rfl (by decide) rfl ?_
            refine mk_goto C 4 dX4_playByCounters_56 (by decide) ?_
            exact mk_lvsub [1, 2, 3, 0] rfl (ih _ _ _ _ hf)
          · replace hf := (if_pos c15).symm.trans hf
            refine mk_aload_n C 0 dX4_playByCounters_36 rfl ?_
            refine mk_get C mk_inX4 0 rfl rfl 2 (by decide) mw_253 (v := .ref (aY 3)) rfl dX4_playByCounters_37 ?_
            refine mk_iload_n C 3 dX4_playByCounters_40 rfl ?_
            refine mk_callNi C (c_at l D cI cJ cB cZ cS X Y (aY 3) 10 (uY 2) v3) (List.mem_of_getElem? (i := 14) rfl) mw_377 mw_1 mw_378 mkn_X8_at rfl ⟨Nat.le_of_ble_eq_true rfl, Nat.le_of_ble_eq_true rfl⟩ (mk_Fr.at (q := 1) rfl) (Nat.le_of_ble_eq_true rfl) dX4_playByCounters_41 rfl ?_
            refine mk_if_ne C 53 dX4_playByCounters_44 (by decide) (fun c16 => ?_) (fun c16 => ?_)
            · replace hf := (if_neg c16).symm.trans hf
              refine mk_iinc C (v := (v3 + 1)) (lv' := [(3, .int (v3 + 1)), (0, .ref (aY 0)), (1, .int p1), (2, .int v2)]) 3 dX4_playByCounters_53 rfl rfl (by decide) rfl ?_
              refine mk_goto C 4 dX4_playByCounters_56 (by decide) ?_
              exact mk_lvsub [1, 2, 3, 0] rfl (ih _ _ _ _ hf)
            · replace hf := (if_pos c16).symm.trans hf
              refine mk_iload_n C 2 dX4_playByCounters_47 rfl ?_
              refine mk_iconst C (v := 1) dX4_playByCounters_48 (by decide) ?_
              refine mk_iload_n C 3 dX4_playByCounters_49 rfl ?_
              refine mk_ishl C dX4_playByCounters_50 ?_
              refine mk_ior C dX4_playByCounters_51 ?_
              refine mk_istore_n C (lv' := [(2, .int (v2 ||| (1 <<< (v3 &&& 31)))), (0, .ref (aY 0)), (1, .int p1), (3, .int v3)]) dX4_playByCounters_52 (by decide) rfl ?_
              refine mk_iinc C (v := (v3 + 1)) (lv' := [(3, .int (v3 + 1)), (2, .int (v2 ||| (1 <<< (v3 &&& 31)))), (0, .ref (aY 0)), (1, .int p1)]) 3 dX4_playByCounters_53 rfl rfl (by decide) rfl ?_
              refine mk_goto C 4 dX4_playByCounters_56 (by decide) ?_
              exact mk_lvsub [2, 3, 1, 0] rfl (ih _ _ _ _ hf)
  show mk_Go p l e (headSpec (mk_ws yX4_playByCounters cX4_playByCounters 6 none) ({ frames := 3, cells := 0, slots := 0, locals := 70 })).room s m args below meth c D A 6 0 0 (MQ below (mk_Q none D (wPlay aY aP aS (aC 0) cI wY ++ (wPlan aP cI uP ++ (wStack aS cI uS ++ (wCourse aC cI wC)))) A) args s 0 0 A) 0 (wPlay aY aP aS (aC 0) cI uY ++ (wPlan aP cI uP ++ (wStack aS cI uS ++ (wCourse aC cI uC)))) [(0, .ref (aY 0)), (1, .int p1)] []
  unfold f_Y_playByCounters at hf
  refine mk_iconst C (v := 0) dX4_playByCounters_0 (by decide) ?_
  refine mk_istore_n C (lv' := [(2, .int 0), (0, .ref (aY 0)), (1, .int p1)]) dX4_playByCounters_1 (by decide) rfl ?_
  refine mk_iconst C (v := 0) dX4_playByCounters_2 (by decide) ?_
  refine mk_istore_n C (lv' := [(3, .int 0), (2, .int 0), (0, .ref (aY 0)), (1, .int p1)]) dX4_playByCounters_3 (by decide) rfl ?_
  exact mk_lvsub [2, 3, 1, 0] rfl (wL4 600 _ _ _ _ hf)
set_option maxHeartbeats 40000000 in
set_option maxRecDepth 100000 in
theorem c_Y_within (l : Launch) (D : va_G) (cI cJ cB cZ cS : ClassId) (X : Nat → Nat) (Y : mk_Y) (aY aP aS aC : Nat → Nat) (uY : Nat → Nat → Int32) (uP : Nat → Nat → Int32) (uS : Nat → Nat → Int32) (uC : Nat → Nat → Int32) (p1 : Int32) (p2 : Int32) (p3 : Int32) (r : Int32) (hf : f_Y_within uP p1 p2 p3 = some r) : mk_Met l yX4_within cX4_within 7 (some .int) ({ frames := 2, cells := 0, slots := 0, locals := 42 }) D (mk_TY cI cJ cB cZ cS) X Y [.ref (aY 0), .int p1, .int p2, .int p3] (wPlay aY aP aS (aC 0) cI uY ++ (wPlan aP cI uP ++ (wStack aS cI uS ++ (wCourse aC cI uC)))) (wPlay aY aP aS (aC 0) cI uY ++ (wPlan aP cI uP ++ (wStack aS cI uS ++ (wCourse aC cI uC)))) (some (.int r)) 0 0 := by
  refine mk_start (own := RX4) (by decide) rfl (Nat.le_of_ble_eq_true rfl) ?_
  intro sz p e s m args below meth c A C hr hlk hnm
  replace C : mk_Cx p s m args c cX4_within 7 RX4 D (mk_TY cI cJ cB cZ cS) X Y A := C
  have wL6 : ∀ (n : Nat) (v4 : Int32) (v5 : Int32), f_Y_within_6 uP p1 p2 p3 n v4 v5 = some r → mk_Go p l e (headSpec (mk_ws yX4_within cX4_within 7 (some .int)) ({ frames := 2, cells := 0, slots := 0, locals := 42 })).room s m args below meth c D A 7 0 0 (MQ below (mk_Q (some (.int r)) D (wPlay aY aP aS (aC 0) cI uY ++ (wPlan aP cI uP ++ (wStack aS cI uS ++ (wCourse aC cI uC)))) A) args s 0 0 A) 6 (wPlay aY aP aS (aC 0) cI uY ++ (wPlan aP cI uP ++ (wStack aS cI uS ++ (wCourse aC cI uC)))) [(0, .ref (aY 0)), (1, .int p1), (2, .int p2), (3, .int p3), (4, .int v4), (5, .int v5)] [] := by
    intro  n
    induction n with
    | zero => intro v4 v5 hf; exact nomatch (show (none : Option (Int32)) = some _ from hf)
    | succ n ih =>
      intro v4 v5 hf
      rw [f_Y_within_6] at hf
      refine mk_iload C 5 dX4_within_6 rfl ?_
      refine mk_aload_n C 0 dX4_within_8 rfl ?_
      refine mk_get C mk_inX4 0 rfl rfl 0 (by decide) mw_250 (v := .ref (aP 0)) rfl dX4_within_9 ?_
      refine mk_get C mk_inX3 2 rfl rfl 5 (by decide) mw_80 (v := .int (uP 5 0)) rfl dX4_within_12 ?_
      refine mk_icmp_ge C 73 dX4_within_15 (by decide) (fun c1 => ?_) (fun c1 => ?_)
      · replace hf := (if_pos c1).symm.trans hf
        refine mk_iload C 4 dX4_within_73 rfl ?_
        have e0 := Option.some.inj hf
        exact mk_iret C hr hlk e0 rfl dX4_within_75
      · replace hf := (if_neg c1).symm.trans hf
        refine mk_iload_n C 1 dX4_within_18 rfl ?_
        refine mk_iload C 5 dX4_within_19 rfl ?_
        refine mk_ishr C dX4_within_21 ?_
        refine mk_if_eq C 73 dX4_within_22 (by decide) (fun c2 => ?_) (fun c2 => ?_)
        · replace hf := (if_pos c2).symm.trans hf
          refine mk_iload C 4 dX4_within_73 rfl ?_
          have e0 := Option.some.inj hf
          exact mk_iret C hr hlk e0 rfl dX4_within_75
        · replace hf := (if_neg c2).symm.trans hf
          refine mk_aload_n C 0 dX4_within_25 rfl ?_
          refine mk_get C mk_inX4 0 rfl rfl 0 (by decide) mw_250 (v := .ref (aP 0)) rfl dX4_within_26 ?_
          refine mk_iload C 5 dX4_within_29 rfl ?_
          obtain ⟨r3, h4, hf⟩ := b1_some hf
          refine mk_callVi C (c_P_moment l D cI cJ cB cZ cS X Y aP uP v5 r3 h4) mw_581 mw_582 mw_583 mw_4 mw_584 mkn_X3_moment rfl ⟨Nat.le_of_ble_eq_true rfl, Nat.le_of_ble_eq_true rfl⟩ 2 rfl rfl rfl (fr_Y_P cI cJ aY aP aS aC (aC 0) uY uP uS uC uP) (Nat.le_of_ble_eq_true rfl) dX4_within_31 rfl ?_
          refine mk_istore C (lv' := [(6, .int r3), (0, .ref (aY 0)), (1, .int p1), (2, .int p2), (3, .int p3), (4, .int v4), (5, .int v5)]) dX4_within_34 (by decide) rfl ?_
          refine mk_iload_n C 2 dX4_within_36 rfl ?_
          refine mk_iload C 6 dX4_within_37 rfl ?_
          refine mk_ishr C dX4_within_39 ?_
          refine mk_iconst C (v := 1) dX4_within_40 (by decide) ?_
          refine mk_iand C dX4_within_41 ?_
          refine mk_iconst C (v := 1) dX4_within_42 (by decide) ?_
          refine mk_icmp_ne C 67 dX4_within_43 (by decide) (fun c5 => ?_) (fun c5 => ?_)
          · replace hf := (if_neg c5).symm.trans hf
            refine mk_iinc C (v := (v5 + 1)) (lv' := [(5, .int (v5 + 1)), (6, .int r3), (0, .ref (aY 0)), (1, .int p1), (2, .int p2), (3, .int p3), (4, .int v4)]) 6 dX4_within_67 rfl rfl (by decide) rfl ?_
            refine mk_goto C 6 dX4_within_70 (by decide) ?_
            exact mk_lvsub [2, 3, 4, 5, 6, 0] rfl (ih _ _ hf)
          · replace hf := (if_pos c5).symm.trans hf
            refine mk_iload C 0 dX4_within_46 rfl ?_
            refine mk_iload_n C 3 dX4_within_48 rfl ?_
            refine mk_icmp_lt C 67 dX4_within_49 (by decide) (fun c6 => ?_) (fun c6 => ?_)
            · replace hf := (if_pos c6).symm.trans hf
              refine mk_iinc C (v := (v5 + 1)) (lv' := [(5, .int (v5 + 1)), (6, .int r3), (0, .ref (aY 0)), (1, .int p1), (2, .int p2), (3, .int p3), (4, .int v4)]) 6 dX4_within_67 rfl rfl (by decide) rfl ?_
              refine mk_goto C 6 dX4_within_70 (by decide) ?_
              exact mk_lvsub [2, 3, 4, 5, 6, 0] rfl (ih _ _ hf)
            · replace hf := (if_neg c6).symm.trans hf
              refine mk_iload C 0 dX4_within_52 rfl ?_
              refine mk_iload_n C 4 dX4_within_54 rfl ?_
              refine mk_icmp_ge C 67 dX4_within_55 (by decide) (fun c7 => ?_) (fun c7 => ?_)
              · replace hf := (if_pos c7).symm.trans hf
                refine mk_iinc C (v := (v5 + 1)) (lv' := [(5, .int (v5 + 1)), (6, .int r3), (0, .ref (aY 0)), (1, .int p1), (2, .int p2), (3, .int p3), (4, .int v4)]) 6 dX4_within_67 rfl rfl (by decide) rfl ?_
                refine mk_goto C 6 dX4_within_70 (by decide) ?_
                exact mk_lvsub [2, 3, 4, 5, 6, 0] rfl (ih _ _ hf)
              · replace hf := (if_neg c7).symm.trans hf
                refine mk_iload C 5 dX4_within_58 rfl ?_
                refine mk_iconst C (v := 1) dX4_within_60 (by decide) ?_
                refine mk_iload C 6 dX4_within_61 rfl ?_
                refine mk_ishl C dX4_within_63 ?_
                refine mk_ior C dX4_within_64 ?_
                refine mk_istore C (lv' := [(4, .int (v4 ||| (1 <<< (v5 &&& 31)))), (6, .int r3), (0, .ref (aY 0)), (1, .int p1), (2, .int p2), (3, .int p3), (5, .int v5)]) dX4_within_65 (by decide) rfl ?_
                refine mk_iinc C (v := (v5 + 1)) (lv' := [(5, .int (v5 + 1)), (4, .int (v4 ||| (1 <<< (v5 &&& 31)))), (6, .int r3), (0, .ref (aY 0)), (1, .int p1), (2, .int p2), (3, .int p3)]) 6 dX4_within_67 rfl rfl (by decide) rfl ?_
                refine mk_goto C 6 dX4_within_70 (by decide) ?_
                exact mk_lvsub [3, 4, 5, 6, 1, 0] rfl (ih _ _ hf)
  show mk_Go p l e (headSpec (mk_ws yX4_within cX4_within 7 (some .int)) ({ frames := 2, cells := 0, slots := 0, locals := 42 })).room s m args below meth c D A 7 0 0 (MQ below (mk_Q (some (.int r)) D (wPlay aY aP aS (aC 0) cI uY ++ (wPlan aP cI uP ++ (wStack aS cI uS ++ (wCourse aC cI uC)))) A) args s 0 0 A) 0 (wPlay aY aP aS (aC 0) cI uY ++ (wPlan aP cI uP ++ (wStack aS cI uS ++ (wCourse aC cI uC)))) [(0, .ref (aY 0)), (1, .int p1), (2, .int p2), (3, .int p3)] []
  unfold f_Y_within at hf
  refine mk_iconst C (v := 0) dX4_within_0 (by decide) ?_
  refine mk_istore C (lv' := [(4, .int 0), (0, .ref (aY 0)), (1, .int p1), (2, .int p2), (3, .int p3)]) dX4_within_1 (by decide) rfl ?_
  refine mk_iconst C (v := 0) dX4_within_3 (by decide) ?_
  refine mk_istore C (lv' := [(5, .int 0), (4, .int 0), (0, .ref (aY 0)), (1, .int p1), (2, .int p2), (3, .int p3)]) dX4_within_4 (by decide) rfl ?_
  exact mk_lvsub [2, 3, 4, 5, 1, 0] rfl (wL6 600 _ _ hf)
set_option maxHeartbeats 40000000 in
set_option maxRecDepth 100000 in
theorem c_Y_beginEpoch (l : Launch) (D : va_G) (cI cJ cB cZ cS : ClassId) (X : Nat → Nat) (Y : mk_Y) (aY aP aS aC : Nat → Nat) (uY : Nat → Nat → Int32) (uP : Nat → Nat → Int32) (uS : Nat → Nat → Int32) (uC : Nat → Nat → Int32) (p1 : Int32) (wY : Nat → Nat → Int32) (wS : Nat → Nat → Int32) (wC : Nat → Nat → Int32) (hf : f_Y_beginEpoch uY uP uS uC p1 = some (wY, wS, wC)) : mk_Met l yX4_beginEpoch cX4_beginEpoch 5 none ({ frames := 3, cells := 0, slots := 0, locals := 68 }) D (mk_TY cI cJ cB cZ cS) X Y [.ref (aY 0), .int p1] (wPlay aY aP aS (aC 0) cI uY ++ (wPlan aP cI uP ++ (wStack aS cI uS ++ (wCourse aC cI uC)))) (wPlay aY aP aS (aC 0) cI wY ++ (wPlan aP cI uP ++ (wStack aS cI wS ++ (wCourse aC cI wC)))) none 0 0 := by
  refine mk_start (own := RX4) (by decide) rfl (Nat.le_of_ble_eq_true rfl) ?_
  intro sz p e s m args below meth c A C hr hlk hnm
  replace C : mk_Cx p s m args c cX4_beginEpoch 5 RX4 D (mk_TY cI cJ cB cZ cS) X Y A := C
  have wL100 : ∀ (v2 : Int32) (t1 : Int32) (uY : Nat → Nat → Int32) (uS : Nat → Nat → Int32) (uC : Nat → Nat → Int32), f_Y_beginEpoch_100 uP p1 v2 t1 uY uS uC = some (wY, wS, wC) → mk_Go p l e (headSpec (mk_ws yX4_beginEpoch cX4_beginEpoch 5 none) ({ frames := 3, cells := 0, slots := 0, locals := 68 })).room s m args below meth c D A 5 0 0 (MQ below (mk_Q none D (wPlay aY aP aS (aC 0) cI wY ++ (wPlan aP cI uP ++ (wStack aS cI wS ++ (wCourse aC cI wC)))) A) args s 0 0 A) 100 (wPlay aY aP aS (aC 0) cI uY ++ (wPlan aP cI uP ++ (wStack aS cI uS ++ (wCourse aC cI uC)))) [(0, .ref (aY 0)), (1, .int p1), (2, .int v2)] [.int t1, .ref (aY 0)] := by
    intro  v2 t1 uY uS uC hf
    unfold f_Y_beginEpoch_100 at hf
    obtain ⟨g1, hf⟩ := gZ_some hf
    refine mk_put C mk_inX4 tyX4 tyX4_ok nmX4 0 rfl rfl 12 (by decide) mw_264 rfl (mk_nz g1) (mk_fz g1) (Nat.le_of_ble_eq_true rfl) (ws' := (wPlay aY aP aS (aC 0) cI (upF 12 t1 uY) ++ (wPlan aP cI uP ++ (wStack aS cI uS ++ (wCourse aC cI uC))))) (st_YPSC_Y_12 cI cJ aY aP aS aC (aC 0) uY uP uS uC t1) dX4_beginEpoch_100 ?_
    refine mk_aload_n C 0 dX4_beginEpoch_103 rfl ?_
    refine mk_get C mk_inX4 0 rfl rfl 12 (by decide) mw_264 (v := .int t1) rfl dX4_beginEpoch_104 ?_
    refine mk_if_eq C 119 dX4_beginEpoch_107 (by decide) (fun c2 => ?_) (fun c2 => ?_)
    · replace hf := (if_pos c2).symm.trans hf
      have e := Option.some.inj hf
      simp only [Prod.mk.injEq] at e
      obtain ⟨e0, e1, e2⟩ := e
      exact mk_vret C hr hlk (by rw [← e0, ← e1, ← e2]) dX4_beginEpoch_119
    · replace hf := (if_neg c2).symm.trans hf
      refine mk_aload_n C 0 dX4_beginEpoch_110 rfl ?_
      refine mk_get C mk_inX4 0 rfl rfl 3 (by decide) mw_254 (v := .ref (aC 0)) rfl dX4_beginEpoch_111 ?_
      refine mk_iload_n C 1 dX4_beginEpoch_114 rfl ?_
      refine mk_iload_n C 2 dX4_beginEpoch_115 rfl ?_
      obtain ⟨uC_3, h4, hf⟩ := b1_some hf
      refine mk_callVv C (c_C_openEpoch l D cI cJ cB cZ cS X Y aC uC p1 v2 uC_3 h4) mw_590 mw_591 mw_592 mw_7 mw_593 mkn_X1_openEpoch rfl ⟨Nat.le_of_ble_eq_true rfl, Nat.le_of_ble_eq_true rfl⟩ 12 rfl rfl rfl (fr_Y_C cI cJ aY aP aS aC (aC 0) (upF 12 t1 uY) uP uS uC uC_3) (Nat.le_of_ble_eq_true rfl) dX4_beginEpoch_116 rfl ?_
      have e := Option.some.inj hf
      simp only [Prod.mk.injEq] at e
      obtain ⟨e0, e1, e2⟩ := e
      exact mk_vret C hr hlk (by rw [← e0, ← e1, ← e2]) dX4_beginEpoch_119
  have wL79 : ∀ (v2 : Int32) (v3 : Int32) (v4 : Int32) (uY : Nat → Nat → Int32) (uS : Nat → Nat → Int32) (uC : Nat → Nat → Int32), f_Y_beginEpoch_79 uP p1 v2 v3 v4 uY uS uC = some (wY, wS, wC) → mk_Go p l e (headSpec (mk_ws yX4_beginEpoch cX4_beginEpoch 5 none) ({ frames := 3, cells := 0, slots := 0, locals := 68 })).room s m args below meth c D A 5 0 0 (MQ below (mk_Q none D (wPlay aY aP aS (aC 0) cI wY ++ (wPlan aP cI uP ++ (wStack aS cI wS ++ (wCourse aC cI wC)))) A) args s 0 0 A) 79 (wPlay aY aP aS (aC 0) cI uY ++ (wPlan aP cI uP ++ (wStack aS cI uS ++ (wCourse aC cI uC)))) [(0, .ref (aY 0)), (1, .int p1), (2, .int v2), (3, .int v3), (4, .int v4)] [] := by
    intro  v2 v3 v4 uY uS uC hf
    unfold f_Y_beginEpoch_79 at hf
    refine mk_aload_n C 0 dX4_beginEpoch_79 rfl ?_
    refine mk_get C mk_inX4 0 rfl rfl 1 (by decide) mw_252 (v := .ref (aS 0)) rfl dX4_beginEpoch_80 ?_
    refine mk_iload_n C 2 dX4_beginEpoch_83 rfl ?_
    refine mk_iload_n C 3 dX4_beginEpoch_84 rfl ?_
    refine mk_iload C 4 dX4_beginEpoch_85 rfl ?_
    obtain ⟨uS_5, h6, hf⟩ := b1_some hf
    refine mk_callVv C (c_S_push l D cI cJ cB cZ cS X Y aS uS v2 v3 v4 uS_5 h6) mw_585 mw_586 mw_587 mw_6 mw_588 mkn_X6_push rfl ⟨Nat.le_of_ble_eq_true rfl, Nat.le_of_ble_eq_true rfl⟩ 8 rfl rfl rfl (fr_Y_S cI cJ aY aP aS aC (aC 0) uY uP uS uC uS_5) (Nat.le_of_ble_eq_true rfl) dX4_beginEpoch_87 rfl ?_
    refine mk_aload_n C 0 dX4_beginEpoch_90 rfl ?_
    refine mk_iload_n C 2 dX4_beginEpoch_91 rfl ?_
    refine mk_if_eq C 99 dX4_beginEpoch_92 (by decide) (fun c7 => ?_) (fun c7 => ?_)
    · replace hf := (if_pos c7).symm.trans hf
      refine mk_iconst C (v := 0) dX4_beginEpoch_99 (by decide) ?_
      exact mk_lvsub [0, 1, 2] rfl (wL100 _ _ _ _ _ hf)
    · replace hf := (if_neg c7).symm.trans hf
      refine mk_iconst C (v := 1) dX4_beginEpoch_95 (by decide) ?_
      refine mk_goto C 100 dX4_beginEpoch_96 (by decide) ?_
      exact mk_lvsub [0, 1, 2] rfl (wL100 _ _ _ _ _ hf)
  show mk_Go p l e (headSpec (mk_ws yX4_beginEpoch cX4_beginEpoch 5 none) ({ frames := 3, cells := 0, slots := 0, locals := 68 })).room s m args below meth c D A 5 0 0 (MQ below (mk_Q none D (wPlay aY aP aS (aC 0) cI wY ++ (wPlan aP cI uP ++ (wStack aS cI wS ++ (wCourse aC cI wC)))) A) args s 0 0 A) 0 (wPlay aY aP aS (aC 0) cI uY ++ (wPlan aP cI uP ++ (wStack aS cI uS ++ (wCourse aC cI uC)))) [(0, .ref (aY 0)), (1, .int p1)] []
  unfold f_Y_beginEpoch at hf
  refine mk_aload_n C 0 dX4_beginEpoch_0 rfl ?_
  refine mk_get C mk_inX4 0 rfl rfl 7 (by decide) mw_259 (v := .int (uY 7 0)) rfl dX4_beginEpoch_1 ?_
  refine mk_istore_n C (lv' := [(2, .int (uY 7 0)), (0, .ref (aY 0)), (1, .int p1)]) dX4_beginEpoch_4 (by decide) rfl ?_
  refine mk_aload_n C 1 dX4_beginEpoch_5 rfl ?_
  refine mk_get C mk_inX4 0 rfl rfl 9 (by decide) mw_261 (v := .int (uY 9 0)) rfl dX4_beginEpoch_6 ?_
  refine mk_istore_n C (lv' := [(3, .int (uY 9 0)), (2, .int (uY 7 0)), (0, .ref (aY 0)), (1, .int p1)]) dX4_beginEpoch_9 (by decide) rfl ?_
  refine mk_aload_n C 2 dX4_beginEpoch_10 rfl ?_
  refine mk_get C mk_inX4 0 rfl rfl 9 (by decide) mw_261 (v := .int (uY 9 0)) rfl dX4_beginEpoch_11 ?_
  refine mk_istore C (lv' := [(4, .int (uY 9 0)), (3, .int (uY 9 0)), (2, .int (uY 7 0)), (0, .ref (aY 0)), (1, .int p1)]) dX4_beginEpoch_14 (by decide) rfl ?_
  refine mk_aload_n C 3 dX4_beginEpoch_16 rfl ?_
  refine mk_get C mk_inX4 0 rfl rfl 4 (by decide) mw_256 (v := .int (uY 4 0)) rfl dX4_beginEpoch_17 ?_
  refine mk_iconst C (v := 3) dX4_beginEpoch_20 (by decide) ?_
  refine mk_icmp_ne C 79 dX4_beginEpoch_21 (by decide) (fun c8 => ?_) (fun c8 => ?_)
  · replace hf := (if_neg c8).symm.trans hf
    exact mk_lvsub [3, 4, 2, 1, 0] rfl (wL79 _ _ _ _ _ _ hf)
  · replace hf := (if_pos c8).symm.trans hf
    refine mk_aload_n C 3 dX4_beginEpoch_24 rfl ?_
    refine mk_get C mk_inX4 0 rfl rfl 9 (by decide) mw_261 (v := .int (uY 9 0)) rfl dX4_beginEpoch_25 ?_
    refine mk_bipush C (v := 16) dX4_beginEpoch_28 (by decide) ?_
    refine mk_aload_n C 3 dX4_beginEpoch_30 rfl ?_
    refine mk_get C mk_inX4 0 rfl rfl 0 (by decide) mw_250 (v := .ref (aP 0)) rfl dX4_beginEpoch_31 ?_
    refine mk_get C mk_inX3 2 rfl rfl 3 (by decide) mw_74 (v := .int (uP 3 0)) rfl dX4_beginEpoch_34 ?_
    refine mk_imul C dX4_beginEpoch_37 ?_
    refine mk_iadd C dX4_beginEpoch_38 ?_
    refine mk_bipush C (v := 16) dX4_beginEpoch_39 (by decide) ?_
    refine mk_iload_n C 4 dX4_beginEpoch_41 rfl ?_
    refine mk_imul C dX4_beginEpoch_42 ?_
    refine mk_bipush C (v := 16) dX4_beginEpoch_43 (by decide) ?_
    refine mk_iadd C dX4_beginEpoch_45 ?_
    refine mk_mmin C mw_545 mw_546 mw_16 mw_547 ⟨Nat.le_of_ble_eq_true rfl, Nat.le_of_ble_eq_true rfl⟩ ⟨Nat.zero_le _, Nat.zero_le _⟩ dX4_beginEpoch_46 ?_
    refine mk_istore C (lv' := [(4, .int (if ((16 * p1) + 16) < ((uY 9 0) + (16 * (uP 3 0))) then ((16 * p1) + 16) else ((uY 9 0) + (16 * (uP 3 0))))), (3, .int (uY 9 0)), (2, .int (uY 7 0)), (0, .ref (aY 0)), (1, .int p1)]) dX4_beginEpoch_49 (by decide) rfl ?_
    refine mk_aload_n C 3 dX4_beginEpoch_51 rfl ?_
    refine mk_aload_n C 3 dX4_beginEpoch_52 rfl ?_
    refine mk_get C mk_inX4 0 rfl rfl 7 (by decide) mw_259 (v := .int (uY 7 0)) rfl dX4_beginEpoch_53 ?_
    refine mk_iload_n C 1 dX4_beginEpoch_56 rfl ?_
    refine mk_iload C 0 dX4_beginEpoch_57 rfl ?_
    obtain ⟨r9, h10, hf⟩ := b1_some hf
    refine mk_callVi C (c_Y_within l D cI cJ cB cZ cS X Y aY aP aS aC uY uP uS uC (uY 7 0) (uY 9 0) (if ((16 * p1) + 16) < ((uY 9 0) + (16 * (uP 3 0))) then ((16 * p1) + 16) else ((uY 9 0) + (16 * (uP 3 0)))) r9 h10) mw_577 mw_578 mw_579 mw_5 mw_580 mkn_X4_within rfl ⟨Nat.le_of_ble_eq_true rfl, Nat.le_of_ble_eq_true rfl⟩ 0 rfl rfl rfl (mk_Fr.all _ _) (Nat.le_of_ble_eq_true rfl) dX4_beginEpoch_59 rfl ?_
    refine mk_istore_n C (lv' := [(2, .int r9), (4, .int (if ((16 * p1) + 16) < ((uY 9 0) + (16 * (uP 3 0))) then ((16 * p1) + 16) else ((uY 9 0) + (16 * (uP 3 0))))), (3, .int (uY 9 0)), (0, .ref (aY 0)), (1, .int p1)]) dX4_beginEpoch_62 (by decide) rfl ?_
    refine mk_aload_n C 3 dX4_beginEpoch_63 rfl ?_
    refine mk_dup C dX4_beginEpoch_64 rfl ?_
    refine mk_get C mk_inX4 0 rfl rfl 8 (by decide) mw_260 (v := .int (uY 8 0)) rfl dX4_beginEpoch_65 ?_
    refine mk_iload_n C 0 dX4_beginEpoch_68 rfl ?_
    refine mk_ior C dX4_beginEpoch_69 ?_
    refine mk_put C mk_inX4 tyX4 tyX4_ok nmX4 0 rfl rfl 8 (by decide) mw_260 rfl rfl rfl (Nat.le_of_ble_eq_true rfl) (ws' := (wPlay aY aP aS (aC 0) cI (upF 8 ((uY 8 0) ||| r9) uY) ++ (wPlan aP cI uP ++ (wStack aS cI uS ++ (wCourse aC cI uC))))) (st_YPSC_Y_8 cI cJ aY aP aS aC (aC 0) uY uP uS uC ((uY 8 0) ||| r9)) dX4_beginEpoch_70 ?_
    refine mk_aload_n C 3 dX4_beginEpoch_73 rfl ?_
    refine mk_iload C 1 dX4_beginEpoch_74 rfl ?_
    refine mk_put C mk_inX4 tyX4 tyX4_ok nmX4 0 rfl rfl 9 (by decide) mw_261 rfl rfl rfl (Nat.le_of_ble_eq_true rfl) (ws' := (wPlay aY aP aS (aC 0) cI (upF 9 (if ((16 * p1) + 16) < ((uY 9 0) + (16 * (uP 3 0))) then ((16 * p1) + 16) else ((uY 9 0) + (16 * (uP 3 0)))) (upF 8 ((uY 8 0) ||| r9) uY)) ++ (wPlan aP cI uP ++ (wStack aS cI uS ++ (wCourse aC cI uC))))) (st_YPSC_Y_9 cI cJ aY aP aS aC (aC 0) (upF 8 ((uY 8 0) ||| r9) uY) uP uS uC (if ((16 * p1) + 16) < ((uY 9 0) + (16 * (uP 3 0))) then ((16 * p1) + 16) else ((uY 9 0) + (16 * (uP 3 0))))) dX4_beginEpoch_76 ?_
    exact mk_lvsub [3, 4, 0, 2, 1] rfl (wL79 _ _ _ _ _ _ hf)
set_option maxHeartbeats 40000000 in
set_option maxRecDepth 100000 in
theorem c_Y_takeBits (l : Launch) (D : va_G) (cI cJ cB cZ cS : ClassId) (X : Nat → Nat) (Y : mk_Y) (aY aP aS aC : Nat → Nat) (uY : Nat → Nat → Int32) (uP : Nat → Nat → Int32) (uS : Nat → Nat → Int32) (uC : Nat → Nat → Int32) (p1 : Int32) (r : Int32) (wC : Nat → Nat → Int32) (hf : f_Y_takeBits uP uC p1 = some (r, wC)) : mk_Met l yX4_takeBits cX4_takeBits 4 (some .int) ({ frames := 2, cells := 0, slots := 0, locals := 45 }) D (mk_TY cI cJ cB cZ cS) X Y [.ref (aY 0), .int p1] (wPlay aY aP aS (aC 0) cI uY ++ (wPlan aP cI uP ++ (wStack aS cI uS ++ (wCourse aC cI uC)))) (wPlay aY aP aS (aC 0) cI uY ++ (wPlan aP cI uP ++ (wStack aS cI uS ++ (wCourse aC cI wC)))) (some (.int r)) 0 0 := by
  refine mk_start (own := RX4) (by decide) rfl (Nat.le_of_ble_eq_true rfl) ?_
  intro sz p e s m args below meth c A C hr hlk hnm
  replace C : mk_Cx p s m args c cX4_takeBits 4 RX4 D (mk_TY cI cJ cB cZ cS) X Y A := C
  have wL4 : ∀ (n : Nat) (v2 : Int32) (v3 : Int32) (uC : Nat → Nat → Int32), f_Y_takeBits_4 uP p1 n v2 v3 uC = some (r, wC) → mk_Go p l e (headSpec (mk_ws yX4_takeBits cX4_takeBits 4 (some .int)) ({ frames := 2, cells := 0, slots := 0, locals := 45 })).room s m args below meth c D A 4 0 0 (MQ below (mk_Q (some (.int r)) D (wPlay aY aP aS (aC 0) cI uY ++ (wPlan aP cI uP ++ (wStack aS cI uS ++ (wCourse aC cI wC)))) A) args s 0 0 A) 4 (wPlay aY aP aS (aC 0) cI uY ++ (wPlan aP cI uP ++ (wStack aS cI uS ++ (wCourse aC cI uC)))) [(0, .ref (aY 0)), (1, .int p1), (2, .int v2), (3, .int v3)] [] := by
    intro  n
    induction n with
    | zero => intro v2 v3 uC hf; exact nomatch (show (none : Option (Int32 × (Nat → Nat → Int32))) = some _ from hf)
    | succ n ih =>
      intro v2 v3 uC hf
      rw [f_Y_takeBits_4] at hf
      refine mk_iload_n C 3 dX4_takeBits_4 rfl ?_
      refine mk_aload_n C 0 dX4_takeBits_5 rfl ?_
      refine mk_get C mk_inX4 0 rfl rfl 0 (by decide) mw_250 (v := .ref (aP 0)) rfl dX4_takeBits_6 ?_
      refine mk_get C mk_inX3 2 rfl rfl 5 (by decide) mw_80 (v := .int (uP 5 0)) rfl dX4_takeBits_9 ?_
      refine mk_icmp_ge C 50 dX4_takeBits_12 (by decide) (fun c1 => ?_) (fun c1 => ?_)
      · replace hf := (if_pos c1).symm.trans hf
        refine mk_iload_n C 2 dX4_takeBits_50 rfl ?_
        have e := Option.some.inj hf
        obtain ⟨e0, e1⟩ := Prod.mk.inj e
        exact mk_iret C hr hlk e0 (by rw [← e1]) dX4_takeBits_51
      · replace hf := (if_neg c1).symm.trans hf
        refine mk_iload_n C 1 dX4_takeBits_15 rfl ?_
        refine mk_iload_n C 3 dX4_takeBits_16 rfl ?_
        refine mk_ishr C dX4_takeBits_17 ?_
        refine mk_if_eq C 50 dX4_takeBits_18 (by decide) (fun c2 => ?_) (fun c2 => ?_)
        · replace hf := (if_pos c2).symm.trans hf
          refine mk_iload_n C 2 dX4_takeBits_50 rfl ?_
          have e := Option.some.inj hf
          obtain ⟨e0, e1⟩ := Prod.mk.inj e
          exact mk_iret C hr hlk e0 (by rw [← e1]) dX4_takeBits_51
        · replace hf := (if_neg c2).symm.trans hf
          refine mk_iload_n C 1 dX4_takeBits_21 rfl ?_
          refine mk_iload_n C 3 dX4_takeBits_22 rfl ?_
          refine mk_ishr C dX4_takeBits_23 ?_
          refine mk_iconst C (v := 1) dX4_takeBits_24 (by decide) ?_
          refine mk_iand C dX4_takeBits_25 ?_
          refine mk_iconst C (v := 1) dX4_takeBits_26 (by decide) ?_
          refine mk_icmp_ne C 44 dX4_takeBits_27 (by decide) (fun c3 => ?_) (fun c3 => ?_)
          · replace hf := (if_neg c3).symm.trans hf
            refine mk_iinc C (v := (v3 + 1)) (lv' := [(3, .int (v3 + 1)), (0, .ref (aY 0)), (1, .int p1), (2, .int v2)]) 3 dX4_takeBits_44 rfl rfl (by decide) rfl ?_
            refine mk_goto C 4 dX4_takeBits_47 (by decide) ?_
            exact mk_lvsub [1, 2, 3, 0] rfl (ih _ _ _ hf)
          · replace hf := (if_pos c3).symm.trans hf
            refine mk_aload_n C 0 dX4_takeBits_30 rfl ?_
            refine mk_iload_n C 3 dX4_takeBits_31 rfl ?_
            obtain ⟨r4, uC_5, h6, hf⟩ := b2_some hf
            refine mk_callVi C (c_Y_nextBit l D cI cJ cB cZ cS X Y aY aP aS aC uY uP uS uC v3 r4 uC_5 h6) mw_562 mw_563 mw_564 mw_5 mw_565 mkn_X4_nextBit rfl ⟨Nat.le_of_ble_eq_true rfl, Nat.le_of_ble_eq_true rfl⟩ 0 rfl rfl rfl (mk_Fr.all _ _) (Nat.le_of_ble_eq_true rfl) dX4_takeBits_32 rfl ?_
            refine mk_if_ne C 44 dX4_takeBits_35 (by decide) (fun c7 => ?_) (fun c7 => ?_)
            · replace hf := (if_neg c7).symm.trans hf
              refine mk_iinc C (v := (v3 + 1)) (lv' := [(3, .int (v3 + 1)), (0, .ref (aY 0)), (1, .int p1), (2, .int v2)]) 3 dX4_takeBits_44 rfl rfl (by decide) rfl ?_
              refine mk_goto C 4 dX4_takeBits_47 (by decide) ?_
              exact mk_lvsub [1, 2, 3, 0] rfl (ih _ _ _ hf)
            · replace hf := (if_pos c7).symm.trans hf
              refine mk_iload_n C 2 dX4_takeBits_38 rfl ?_
              refine mk_iconst C (v := 1) dX4_takeBits_39 (by decide) ?_
              refine mk_iload_n C 3 dX4_takeBits_40 rfl ?_
              refine mk_ishl C dX4_takeBits_41 ?_
              refine mk_ior C dX4_takeBits_42 ?_
              refine mk_istore_n C (lv' := [(2, .int (v2 ||| (1 <<< (v3 &&& 31)))), (0, .ref (aY 0)), (1, .int p1), (3, .int v3)]) dX4_takeBits_43 (by decide) rfl ?_
              refine mk_iinc C (v := (v3 + 1)) (lv' := [(3, .int (v3 + 1)), (2, .int (v2 ||| (1 <<< (v3 &&& 31)))), (0, .ref (aY 0)), (1, .int p1)]) 3 dX4_takeBits_44 rfl rfl (by decide) rfl ?_
              refine mk_goto C 4 dX4_takeBits_47 (by decide) ?_
              exact mk_lvsub [2, 3, 1, 0] rfl (ih _ _ _ hf)
  show mk_Go p l e (headSpec (mk_ws yX4_takeBits cX4_takeBits 4 (some .int)) ({ frames := 2, cells := 0, slots := 0, locals := 45 })).room s m args below meth c D A 4 0 0 (MQ below (mk_Q (some (.int r)) D (wPlay aY aP aS (aC 0) cI uY ++ (wPlan aP cI uP ++ (wStack aS cI uS ++ (wCourse aC cI wC)))) A) args s 0 0 A) 0 (wPlay aY aP aS (aC 0) cI uY ++ (wPlan aP cI uP ++ (wStack aS cI uS ++ (wCourse aC cI uC)))) [(0, .ref (aY 0)), (1, .int p1)] []
  unfold f_Y_takeBits at hf
  refine mk_iconst C (v := 0) dX4_takeBits_0 (by decide) ?_
  refine mk_istore_n C (lv' := [(2, .int 0), (0, .ref (aY 0)), (1, .int p1)]) dX4_takeBits_1 (by decide) rfl ?_
  refine mk_iconst C (v := 0) dX4_takeBits_2 (by decide) ?_
  refine mk_istore_n C (lv' := [(3, .int 0), (2, .int 0), (0, .ref (aY 0)), (1, .int p1)]) dX4_takeBits_3 (by decide) rfl ?_
  exact mk_lvsub [2, 3, 1, 0] rfl (wL4 600 _ _ _ hf)
set_option maxHeartbeats 40000000 in
set_option maxRecDepth 100000 in
theorem c_Y_splitTop (l : Launch) (D : va_G) (cI cJ cB cZ cS : ClassId) (X : Nat → Nat) (Y : mk_Y) (aY aP aS aC : Nat → Nat) (uY : Nat → Nat → Int32) (uP : Nat → Nat → Int32) (uS : Nat → Nat → Int32) (uC : Nat → Nat → Int32) (wY : Nat → Nat → Int32) (wS : Nat → Nat → Int32) (wC : Nat → Nat → Int32) (hf : f_Y_splitTop uY uP uS uC = some (wY, wS, wC)) : mk_Met l yX4_splitTop cX4_splitTop 6 none ({ frames := 3, cells := 0, slots := 0, locals := 68 }) D (mk_TY cI cJ cB cZ cS) X Y [.ref (aY 0)] (wPlay aY aP aS (aC 0) cI uY ++ (wPlan aP cI uP ++ (wStack aS cI uS ++ (wCourse aC cI uC)))) (wPlay aY aP aS (aC 0) cI wY ++ (wPlan aP cI uP ++ (wStack aS cI wS ++ (wCourse aC cI wC)))) none 0 0 := by
  refine mk_start (own := RX4) (by decide) rfl (Nat.le_of_ble_eq_true rfl) ?_
  intro sz p e s m args below meth c A C hr hlk hnm
  replace C : mk_Cx p s m args c cX4_splitTop 6 RX4 D (mk_TY cI cJ cB cZ cS) X Y A := C
  have wL81 : ∀ (v1 : Int32) (v2 : Int32) (v3 : Int32) (v4 : Int32) (t0 : Int32) (uY : Nat → Nat → Int32) (uS : Nat → Nat → Int32) (uC : Nat → Nat → Int32), f_Y_splitTop_81 uP v1 v2 v3 v4 t0 uY uS uC = some (wY, wS, wC) → mk_Go p l e (headSpec (mk_ws yX4_splitTop cX4_splitTop 6 none) ({ frames := 3, cells := 0, slots := 0, locals := 68 })).room s m args below meth c D A 6 0 0 (MQ below (mk_Q none D (wPlay aY aP aS (aC 0) cI wY ++ (wPlan aP cI uP ++ (wStack aS cI wS ++ (wCourse aC cI wC)))) A) args s 0 0 A) 81 (wPlay aY aP aS (aC 0) cI uY ++ (wPlan aP cI uP ++ (wStack aS cI uS ++ (wCourse aC cI uC)))) [(0, .ref (aY 0)), (1, .int v1), (2, .int v2), (3, .int v3), (4, .int v4)] [.int t0] := by
    intro  v1 v2 v3 v4 t0 uY uS uC hf
    unfold f_Y_splitTop_81 at hf
    refine mk_istore C (lv' := [(5, .int t0), (0, .ref (aY 0)), (1, .int v1), (2, .int v2), (3, .int v3), (4, .int v4)]) dX4_splitTop_81 (by decide) rfl ?_
    refine mk_aload_n C 1 dX4_splitTop_83 rfl ?_
    refine mk_get C mk_inX4 0 rfl rfl 1 (by decide) mw_252 (v := .ref (aS 0)) rfl dX4_splitTop_84 ?_
    obtain ⟨uS_1, h2, hf⟩ := b1_some hf
    refine mk_callVv C (c_S_pop l D cI cJ cB cZ cS X Y aS uS uS_1 h2) mw_607 mw_608 mw_609 mw_6 mw_610 mkn_X6_pop rfl ⟨Nat.le_of_ble_eq_true rfl, Nat.le_of_ble_eq_true rfl⟩ 8 rfl rfl rfl (fr_Y_S cI cJ aY aP aS aC (aC 0) uY uP uS uC uS_1) (Nat.le_of_ble_eq_true rfl) dX4_splitTop_87 rfl ?_
    refine mk_aload_n C 1 dX4_splitTop_90 rfl ?_
    refine mk_get C mk_inX4 0 rfl rfl 1 (by decide) mw_252 (v := .ref (aS 0)) rfl dX4_splitTop_91 ?_
    refine mk_iload_n C 2 dX4_splitTop_94 rfl ?_
    refine mk_iload C 0 dX4_splitTop_95 rfl ?_
    refine mk_iconst C (v := (-1)) dX4_splitTop_97 (by decide) ?_
    refine mk_ixor C dX4_splitTop_98 ?_
    refine mk_iand C dX4_splitTop_99 ?_
    refine mk_iload C 5 dX4_splitTop_100 rfl ?_
    refine mk_iload_n C 4 dX4_splitTop_102 rfl ?_
    obtain ⟨uS_3, h4, hf⟩ := b1_some hf
    refine mk_callVv C (c_S_push l D cI cJ cB cZ cS X Y aS uS_1 (v1 &&& (t0 ^^^ (-1))) v4 v3 uS_3 h4) mw_585 mw_586 mw_587 mw_6 mw_588 mkn_X6_push rfl ⟨Nat.le_of_ble_eq_true rfl, Nat.le_of_ble_eq_true rfl⟩ 8 rfl rfl rfl (fr_Y_S cI cJ aY aP aS aC (aC 0) uY uP uS_1 uC uS_3) (Nat.le_of_ble_eq_true rfl) dX4_splitTop_103 rfl ?_
    refine mk_aload_n C 1 dX4_splitTop_106 rfl ?_
    refine mk_get C mk_inX4 0 rfl rfl 1 (by decide) mw_252 (v := .ref (aS 0)) rfl dX4_splitTop_107 ?_
    refine mk_iload C 0 dX4_splitTop_110 rfl ?_
    refine mk_iload_n C 3 dX4_splitTop_112 rfl ?_
    refine mk_iload C 5 dX4_splitTop_113 rfl ?_
    obtain ⟨uS_5, h6, hf⟩ := b1_some hf
    refine mk_callVv C (c_S_push l D cI cJ cB cZ cS X Y aS uS_3 t0 v2 v4 uS_5 h6) mw_585 mw_586 mw_587 mw_6 mw_588 mkn_X6_push rfl ⟨Nat.le_of_ble_eq_true rfl, Nat.le_of_ble_eq_true rfl⟩ 8 rfl rfl rfl (fr_Y_S cI cJ aY aP aS aC (aC 0) uY uP uS_3 uC uS_5) (Nat.le_of_ble_eq_true rfl) dX4_splitTop_115 rfl ?_
    refine mk_aload_n C 1 dX4_splitTop_118 rfl ?_
    refine mk_iconst C (v := 1) dX4_splitTop_119 (by decide) ?_
    refine mk_put C mk_inX4 tyX4 tyX4_ok nmX4 0 rfl rfl 10 (by decide) mw_262 rfl rfl rfl (Nat.le_of_ble_eq_true rfl) (ws' := (wPlay aY aP aS (aC 0) cI (upF 10 1 uY) ++ (wPlan aP cI uP ++ (wStack aS cI uS_5 ++ (wCourse aC cI uC))))) (st_YPSC_Y_10 cI cJ aY aP aS aC (aC 0) uY uP uS_5 uC 1) dX4_splitTop_120 ?_
    have e := Option.some.inj hf
    simp only [Prod.mk.injEq] at e
    obtain ⟨e0, e1, e2⟩ := e
    exact mk_vret C hr hlk (by rw [← e0, ← e1, ← e2]) dX4_splitTop_123
  show mk_Go p l e (headSpec (mk_ws yX4_splitTop cX4_splitTop 6 none) ({ frames := 3, cells := 0, slots := 0, locals := 68 })).room s m args below meth c D A 6 0 0 (MQ below (mk_Q none D (wPlay aY aP aS (aC 0) cI wY ++ (wPlan aP cI uP ++ (wStack aS cI wS ++ (wCourse aC cI wC)))) A) args s 0 0 A) 0 (wPlay aY aP aS (aC 0) cI uY ++ (wPlan aP cI uP ++ (wStack aS cI uS ++ (wCourse aC cI uC)))) [(0, .ref (aY 0))] []
  unfold f_Y_splitTop at hf
  refine mk_aload_n C 0 dX4_splitTop_0 rfl ?_
  refine mk_get C mk_inX4 0 rfl rfl 1 (by decide) mw_252 (v := .ref (aS 0)) rfl dX4_splitTop_1 ?_
  obtain ⟨r7, h8, hf⟩ := b1_some hf
  refine mk_callVi C (c_S_topWho l D cI cJ cB cZ cS X Y aS uS r7 h8) mw_594 mw_595 mw_596 mw_6 mw_597 mkn_X6_topWho rfl ⟨Nat.le_of_ble_eq_true rfl, Nat.le_of_ble_eq_true rfl⟩ 8 rfl rfl rfl (fr_Y_S cI cJ aY aP aS aC (aC 0) uY uP uS uC uS) (Nat.le_of_ble_eq_true rfl) dX4_splitTop_4 rfl ?_
  refine mk_istore_n C (lv' := [(1, .int r7), (0, .ref (aY 0))]) dX4_splitTop_7 (by decide) rfl ?_
  refine mk_aload_n C 1 dX4_splitTop_8 rfl ?_
  refine mk_get C mk_inX4 0 rfl rfl 1 (by decide) mw_252 (v := .ref (aS 0)) rfl dX4_splitTop_9 ?_
  refine mk_get C mk_inX6 8 rfl rfl 1 (by decide) mw_167 (v := .ref (aS 2)) rfl dX4_splitTop_12 ?_
  refine mk_aload_n C 1 dX4_splitTop_15 rfl ?_
  refine mk_get C mk_inX4 0 rfl rfl 1 (by decide) mw_252 (v := .ref (aS 0)) rfl dX4_splitTop_16 ?_
  refine mk_get C mk_inX6 8 rfl rfl 3 (by decide) mw_171 (v := .int (uS 3 0)) rfl dX4_splitTop_19 ?_
  refine mk_iconst C (v := 1) dX4_splitTop_22 (by decide) ?_
  refine mk_isub C dX4_splitTop_23 ?_
  refine mk_callNi C (c_at l D cI cJ cB cZ cS X Y (aS 2) 201 (uS 1) ((uS 3 0) - 1)) (List.mem_of_getElem? (i := 14) rfl) mw_377 mw_1 mw_378 mkn_X8_at rfl ⟨Nat.le_of_ble_eq_true rfl, Nat.le_of_ble_eq_true rfl⟩ (mk_Fr.at (q := 10) rfl) (Nat.le_of_ble_eq_true rfl) dX4_splitTop_24 rfl ?_
  refine mk_istore_n C (lv' := [(2, .int (mkAt 201 (uS 1) ((uS 3 0) - 1))), (1, .int r7), (0, .ref (aY 0))]) dX4_splitTop_27 (by decide) rfl ?_
  refine mk_aload_n C 2 dX4_splitTop_28 rfl ?_
  refine mk_get C mk_inX4 0 rfl rfl 1 (by decide) mw_252 (v := .ref (aS 0)) rfl dX4_splitTop_29 ?_
  refine mk_get C mk_inX6 8 rfl rfl 2 (by decide) mw_169 (v := .ref (aS 3)) rfl dX4_splitTop_32 ?_
  refine mk_aload_n C 2 dX4_splitTop_35 rfl ?_
  refine mk_get C mk_inX4 0 rfl rfl 1 (by decide) mw_252 (v := .ref (aS 0)) rfl dX4_splitTop_36 ?_
  refine mk_get C mk_inX6 8 rfl rfl 3 (by decide) mw_171 (v := .int (uS 3 0)) rfl dX4_splitTop_39 ?_
  refine mk_iconst C (v := 1) dX4_splitTop_42 (by decide) ?_
  refine mk_isub C dX4_splitTop_43 ?_
  refine mk_callNi C (c_at l D cI cJ cB cZ cS X Y (aS 3) 201 (uS 2) ((uS 3 0) - 1)) (List.mem_of_getElem? (i := 14) rfl) mw_377 mw_1 mw_378 mkn_X8_at rfl ⟨Nat.le_of_ble_eq_true rfl, Nat.le_of_ble_eq_true rfl⟩ (mk_Fr.at (q := 11) rfl) (Nat.le_of_ble_eq_true rfl) dX4_splitTop_44 rfl ?_
  refine mk_istore_n C (lv' := [(3, .int (mkAt 201 (uS 2) ((uS 3 0) - 1))), (2, .int (mkAt 201 (uS 1) ((uS 3 0) - 1))), (1, .int r7), (0, .ref (aY 0))]) dX4_splitTop_47 (by decide) rfl ?_
  refine mk_iload_n C 1 dX4_splitTop_48 rfl ?_
  refine mk_iload_n C 0 dX4_splitTop_49 rfl ?_
  refine mk_iload_n C 1 dX4_splitTop_50 rfl ?_
  refine mk_isub C dX4_splitTop_51 ?_
  refine mk_iconst C (v := 2) dX4_splitTop_52 (by decide) ?_
  refine mk_idiv C dX4_splitTop_53 (by decide) ?_
  refine mk_iadd C dX4_splitTop_54 ?_
  refine mk_istore C (lv' := [(4, .int ((mkAt 201 (uS 1) ((uS 3 0) - 1)) + (((mkAt 201 (uS 2) ((uS 3 0) - 1)) - (mkAt 201 (uS 1) ((uS 3 0) - 1))) / 2))), (3, .int (mkAt 201 (uS 2) ((uS 3 0) - 1))), (2, .int (mkAt 201 (uS 1) ((uS 3 0) - 1))), (1, .int r7), (0, .ref (aY 0))]) dX4_splitTop_55 (by decide) rfl ?_
  refine mk_aload_n C 4 dX4_splitTop_57 rfl ?_
  refine mk_get C mk_inX4 0 rfl rfl 4 (by decide) mw_256 (v := .int (uY 4 0)) rfl dX4_splitTop_58 ?_
  refine mk_iconst C (v := 3) dX4_splitTop_61 (by decide) ?_
  refine mk_icmp_ne C 76 dX4_splitTop_62 (by decide) (fun c9 => ?_) (fun c9 => ?_)
  · replace hf := (if_neg c9).symm.trans hf
    refine mk_aload_n C 4 dX4_splitTop_76 rfl ?_
    refine mk_iload_n C 3 dX4_splitTop_77 rfl ?_
    obtain ⟨r10, uC_11, h12, hf⟩ := b2_some hf
    refine mk_callVi C (c_Y_takeBits l D cI cJ cB cZ cS X Y aY aP aS aC uY uP uS uC r7 r10 uC_11 h12) mw_603 mw_604 mw_605 mw_5 mw_606 mkn_X4_takeBits rfl ⟨Nat.le_of_ble_eq_true rfl, Nat.le_of_ble_eq_true rfl⟩ 0 rfl rfl rfl (mk_Fr.all _ _) (Nat.le_of_ble_eq_true rfl) dX4_splitTop_78 rfl ?_
    exact mk_lvsub [4, 3, 2, 1, 0] rfl (wL81 _ _ _ _ _ _ _ _ hf)
  · replace hf := (if_pos c9).symm.trans hf
    refine mk_aload_n C 4 dX4_splitTop_65 rfl ?_
    refine mk_iload_n C 3 dX4_splitTop_66 rfl ?_
    refine mk_iload_n C 2 dX4_splitTop_67 rfl ?_
    refine mk_iload C 0 dX4_splitTop_68 rfl ?_
    obtain ⟨r13, h14, hf⟩ := b1_some hf
    refine mk_callVi C (c_Y_within l D cI cJ cB cZ cS X Y aY aP aS aC uY uP uS uC r7 (mkAt 201 (uS 1) ((uS 3 0) - 1)) ((mkAt 201 (uS 1) ((uS 3 0) - 1)) + (((mkAt 201 (uS 2) ((uS 3 0) - 1)) - (mkAt 201 (uS 1) ((uS 3 0) - 1))) / 2)) r13 h14) mw_577 mw_578 mw_579 mw_5 mw_580 mkn_X4_within rfl ⟨Nat.le_of_ble_eq_true rfl, Nat.le_of_ble_eq_true rfl⟩ 0 rfl rfl rfl (mk_Fr.all _ _) (Nat.le_of_ble_eq_true rfl) dX4_splitTop_70 rfl ?_
    refine mk_goto C 81 dX4_splitTop_73 (by decide) ?_
    exact mk_lvsub [4, 3, 2, 1, 0] rfl (wL81 _ _ _ _ _ _ _ _ hf)
set_option maxHeartbeats 40000000 in
set_option maxRecDepth 100000 in
theorem c_Y_maySkip (l : Launch) (D : va_G) (cI cJ cB cZ cS : ClassId) (X : Nat → Nat) (Y : mk_Y) (aY aP aS aC : Nat → Nat) (uY : Nat → Nat → Int32) (uP : Nat → Nat → Int32) (uS : Nat → Nat → Int32) (uC : Nat → Nat → Int32) (r : Int32) (hf : f_Y_maySkip uY uP = some r) : mk_Met l yX4_maySkip cX4_maySkip 1 (some .boolean) ({ frames := 0, cells := 0, slots := 0, locals := 0 }) D (mk_TY cI cJ cB cZ cS) X Y [.ref (aY 0)] (wPlay aY aP aS (aC 0) cI uY ++ (wPlan aP cI uP ++ (wStack aS cI uS ++ (wCourse aC cI uC)))) (wPlay aY aP aS (aC 0) cI uY ++ (wPlan aP cI uP ++ (wStack aS cI uS ++ (wCourse aC cI uC)))) (some (.int r)) 0 0 := by
  refine mk_start (own := RX4) (by decide) rfl (Nat.le_of_ble_eq_true rfl) ?_
  intro sz p e s m args below meth c A C hr hlk hnm
  replace C : mk_Cx p s m args c cX4_maySkip 1 RX4 D (mk_TY cI cJ cB cZ cS) X Y A := C
  have wL16 : f_Y_maySkip_16 uY uP = some r → mk_Go p l e (headSpec (mk_ws yX4_maySkip cX4_maySkip 1 (some .boolean)) ({ frames := 0, cells := 0, slots := 0, locals := 0 })).room s m args below meth c D A 1 0 0 (MQ below (mk_Q (some (.int r)) D (wPlay aY aP aS (aC 0) cI uY ++ (wPlan aP cI uP ++ (wStack aS cI uS ++ (wCourse aC cI uC)))) A) args s 0 0 A) 16 (wPlay aY aP aS (aC 0) cI uY ++ (wPlan aP cI uP ++ (wStack aS cI uS ++ (wCourse aC cI uC)))) [(0, .ref (aY 0))] [] := by
    intro   hf
    unfold f_Y_maySkip_16 at hf
    refine mk_aload_n C 0 dX4_maySkip_16 rfl ?_
    refine mk_get C mk_inX4 0 rfl rfl 11 (by decide) mw_263 (v := .int (uY 11 0)) rfl dX4_maySkip_17 ?_
    refine mk_aload_n C 0 dX4_maySkip_20 rfl ?_
    refine mk_get C mk_inX4 0 rfl rfl 0 (by decide) mw_250 (v := .ref (aP 0)) rfl dX4_maySkip_21 ?_
    refine mk_get C mk_inX3 2 rfl rfl 2 (by decide) mw_70 (v := .int (uP 2 0)) rfl dX4_maySkip_24 ?_
    refine mk_icmp_ge C 34 dX4_maySkip_27 (by decide) (fun c1 => ?_) (fun c1 => ?_)
    · replace hf := (if_pos c1).symm.trans hf
      refine mk_iconst C (v := 0) dX4_maySkip_34 (by decide) ?_
      have e0 := Option.some.inj hf
      exact mk_zret C hr hlk rfl e0 rfl dX4_maySkip_35
    · replace hf := (if_neg c1).symm.trans hf
      refine mk_iconst C (v := 1) dX4_maySkip_30 (by decide) ?_
      refine mk_goto C 35 dX4_maySkip_31 (by decide) ?_
      have e0 := Option.some.inj hf
      exact mk_zret C hr hlk rfl e0 rfl dX4_maySkip_35
  show mk_Go p l e (headSpec (mk_ws yX4_maySkip cX4_maySkip 1 (some .boolean)) ({ frames := 0, cells := 0, slots := 0, locals := 0 })).room s m args below meth c D A 1 0 0 (MQ below (mk_Q (some (.int r)) D (wPlay aY aP aS (aC 0) cI uY ++ (wPlan aP cI uP ++ (wStack aS cI uS ++ (wCourse aC cI uC)))) A) args s 0 0 A) 0 (wPlay aY aP aS (aC 0) cI uY ++ (wPlan aP cI uP ++ (wStack aS cI uS ++ (wCourse aC cI uC)))) [(0, .ref (aY 0))] []
  unfold f_Y_maySkip at hf
  refine mk_aload_n C 0 dX4_maySkip_0 rfl ?_
  refine mk_get C mk_inX4 0 rfl rfl 4 (by decide) mw_256 (v := .int (uY 4 0)) rfl dX4_maySkip_1 ?_
  refine mk_iconst C (v := 1) dX4_maySkip_4 (by decide) ?_
  refine mk_icmp_eq C 16 dX4_maySkip_5 (by decide) (fun c2 => ?_) (fun c2 => ?_)
  · replace hf := (if_pos c2).symm.trans hf
    exact mk_lvsub [0] rfl (wL16 hf)
  · replace hf := (if_neg c2).symm.trans hf
    refine mk_aload_n C 0 dX4_maySkip_8 rfl ?_
    refine mk_get C mk_inX4 0 rfl rfl 4 (by decide) mw_256 (v := .int (uY 4 0)) rfl dX4_maySkip_9 ?_
    refine mk_iconst C (v := 3) dX4_maySkip_12 (by decide) ?_
    refine mk_icmp_ne C 34 dX4_maySkip_13 (by decide) (fun c3 => ?_) (fun c3 => ?_)
    · replace hf := (if_neg c3).symm.trans hf
      refine mk_iconst C (v := 0) dX4_maySkip_34 (by decide) ?_
      have e0 := Option.some.inj hf
      exact mk_zret C hr hlk rfl e0 rfl dX4_maySkip_35
    · replace hf := (if_pos c3).symm.trans hf
      exact mk_lvsub [0] rfl (wL16 hf)
