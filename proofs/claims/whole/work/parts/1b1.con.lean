set_option maxHeartbeats 40000000 in
set_option maxRecDepth 100000 in
theorem c_M_common (l : Launch) (D : va_G) (cI cJ : ClassId) (X Y : Nat → Nat) (p0 : Int64) (p2 : Int64) (r : Int64) (hf : f_M_common p0 p2 = some r) : mk_Met l yX2_common cX2_common 11 (some .long) ({ frames := 0, cells := 0, slots := 0, locals := 0 }) D [(cI, .int), (cJ, .long)] X Y [.long p0, .long p2] ([] : va_W) ([] : va_W) (some (.long r)) 0 0 := by
  refine mk_start (own := RX2) (by decide) rfl (Nat.le_of_ble_eq_true rfl) ?_
  intro sz p e s m args below meth c A C hr hlk hnm
  replace C : mk_Cx p s m args c cX2_common 11 RX2 D [(cI, .int), (cJ, .long)] X Y A := C
  have wL9 : ∀ (n : Nat) (v4 : Int64) (v6 : Int64) (v8 : Int32), f_M_common_9 p0 p2 n v4 v6 v8 = some r → mk_Go p l e (headSpec (mk_ws yX2_common cX2_common 11 (some .long)) ({ frames := 0, cells := 0, slots := 0, locals := 0 })).room s m args below meth c D A 11 0 0 (MQ below (mk_Q (some (.long r)) D ([] : va_W) A) args s 0 0 A) 9 ([] : va_W) [(4, .long v4), (6, .long v6), (8, .int v8)] [] := by
    intro  n
    induction n with
    | zero => intro v4 v6 v8 hf; exact nomatch (show (none : Option (Int64)) = some _ from hf)
    | succ n ih =>
      intro v4 v6 v8 hf
      rw [f_M_common_9] at hf
      refine mk_iload C 2 dX2_common_9 rfl ?_
      refine mk_bipush C (v := 100) dX2_common_11 (by decide) ?_
      refine mk_icmp_ge C 44 dX2_common_13 (by decide) (fun c1 => ?_) (fun c1 => ?_)
      · replace hf := (if_pos c1).symm.trans hf
        refine mk_lload C 0 dX2_common_44 rfl ?_
        have e0 := Option.some.inj hf
        exact mk_lret C hr hlk e0 rfl dX2_common_46
      · replace hf := (if_neg c1).symm.trans hf
        refine mk_lload C 1 dX2_common_16 rfl ?_
        refine mk_lconst C (v := 0) dX2_common_18 (by decide) ?_
        refine mk_lcmp C dX2_common_19 ?_
        refine mk_if_eq C 44 dX2_common_20 (by decide) (fun c2 => ?_) (fun c2 => ?_)
        · replace hf := (if_pos c2).symm.trans hf
          refine mk_lload C 0 dX2_common_44 rfl ?_
          have e0 := Option.some.inj hf
          exact mk_lret C hr hlk e0 rfl dX2_common_46
        · replace hf := (if_neg c2).symm.trans hf
          refine mk_lload C 0 dX2_common_23 rfl ?_
          refine mk_lload C 1 dX2_common_25 rfl ?_
          obtain ⟨g3, hf⟩ := gNL_some hf
          refine mk_lrem C dX2_common_27 g3 ?_
          refine mk_lstore C (lv' := [(9, .long (v4 - v4 / v6 * v6)), (4, .long v4), (6, .long v6), (8, .int v8)]) dX2_common_28 (by decide) rfl ?_
          refine mk_lload C 2 dX2_common_30 rfl ?_
          refine mk_lstore C (lv' := [(4, .long v6), (9, .long (v4 - v4 / v6 * v6)), (6, .long v6), (8, .int v8)]) dX2_common_32 (by decide) rfl ?_
          refine mk_lload C 1 dX2_common_34 rfl ?_
          refine mk_lstore C (lv' := [(6, .long (v4 - v4 / v6 * v6)), (4, .long v6), (9, .long (v4 - v4 / v6 * v6)), (8, .int v8)]) dX2_common_36 (by decide) rfl ?_
          refine mk_iinc C (v := (v8 + 1)) (lv' := [(8, .int (v8 + 1)), (6, .long (v4 - v4 / v6 * v6)), (4, .long v6), (9, .long (v4 - v4 / v6 * v6))]) 3 dX2_common_38 rfl rfl (by decide) rfl ?_
          refine mk_goto C 9 dX2_common_41 (by decide) ?_
          exact mk_lvsub [2, 1, 0] rfl (ih _ _ _ hf)
  show mk_Go p l e (headSpec (mk_ws yX2_common cX2_common 11 (some .long)) ({ frames := 0, cells := 0, slots := 0, locals := 0 })).room s m args below meth c D A 11 0 0 (MQ below (mk_Q (some (.long r)) D ([] : va_W) A) args s 0 0 A) 0 ([] : va_W) [(0, .long p0), (2, .long p2)] []
  unfold f_M_common at hf
  refine mk_lload_n C 0 dX2_common_0 rfl ?_
  refine mk_lstore C (lv' := [(4, .long p0), (0, .long p0), (2, .long p2)]) dX2_common_1 (by decide) rfl ?_
  refine mk_lload_n C 2 dX2_common_3 rfl ?_
  refine mk_lstore C (lv' := [(6, .long p2), (4, .long p0), (0, .long p0), (2, .long p2)]) dX2_common_4 (by decide) rfl ?_
  refine mk_iconst C (v := 0) dX2_common_6 (by decide) ?_
  refine mk_istore C (lv' := [(8, .int 0), (6, .long p2), (4, .long p0), (0, .long p0), (2, .long p2)]) dX2_common_7 (by decide) rfl ?_
  exact mk_lvsub [2, 1, 0] rfl (wL9 600 _ _ _ hf)
set_option maxHeartbeats 40000000 in
set_option maxRecDepth 100000 in
theorem c_M_set (l : Launch) (D : va_G) (cI cJ : ClassId) (X Y : Nat → Nat) (aM : Nat → Nat) (uM : Nat → Nat → Int64) (p1 : Int64) (p3 : Int64) (wM : Nat → Nat → Int64) (hf : f_M_set uM p1 p3 = some wM) : mk_Met l yX2_set cX2_set 7 none ({ frames := 1, cells := 0, slots := 0, locals := 30 }) D [(cI, .int), (cJ, .long)] X Y [.ref (aM 0), .long p1, .long p3] (wMeans aM cJ uM) (wMeans aM cJ wM) none 0 0 := by
  refine mk_start (own := RX2) (by decide) rfl (Nat.le_of_ble_eq_true rfl) ?_
  intro sz p e s m args below meth c A C hr hlk hnm
  replace C : mk_Cx p s m args c cX2_set 7 RX2 D [(cI, .int), (cJ, .long)] X Y A := C
  have wL42 : ∀ (t1 : Int64) (uM : Nat → Nat → Int64), f_M_set_42 p1 p3 t1 uM = some wM → mk_Go p l e (headSpec (mk_ws yX2_set cX2_set 7 none) ({ frames := 1, cells := 0, slots := 0, locals := 30 })).room s m args below meth c D A 7 0 0 (MQ below (mk_Q none D (wMeans aM cJ wM) A) args s 0 0 A) 42 (wMeans aM cJ uM) [(0, .ref (aM 0))] [.long t1, .ref (aM 0)] := by
    intro  t1 uM hf
    unfold f_M_set_42 at hf
    refine mk_put C mk_inX2 tyX2 tyX2_ok nmX2 0 rfl rfl 4 (by decide) mw_328 rfl rfl rfl (Nat.le_of_ble_eq_true rfl) (ws' := (wMeans aM cJ (upF 4 t1 uM))) (st_M_M_4 cI cJ aM uM t1) dX2_set_42 ?_
    have e0 := Option.some.inj hf
    exact mk_vret C hr hlk (by rw [← e0]) dX2_set_45
  have wL23 : ∀ (v5 : Int64) (t1 : Int64) (uM : Nat → Nat → Int64), f_M_set_23 p1 p3 v5 t1 uM = some wM → mk_Go p l e (headSpec (mk_ws yX2_set cX2_set 7 none) ({ frames := 1, cells := 0, slots := 0, locals := 30 })).room s m args below meth c D A 7 0 0 (MQ below (mk_Q none D (wMeans aM cJ wM) A) args s 0 0 A) 23 (wMeans aM cJ uM) [(0, .ref (aM 0)), (3, .long p3), (5, .long v5)] [.long t1, .ref (aM 0)] := by
    intro  v5 t1 uM hf
    unfold f_M_set_23 at hf
    refine mk_put C mk_inX2 tyX2 tyX2_ok nmX2 0 rfl rfl 3 (by decide) mw_326 rfl rfl rfl (Nat.le_of_ble_eq_true rfl) (ws' := (wMeans aM cJ (upF 3 t1 uM))) (st_M_M_3 cI cJ aM uM t1) dX2_set_23 ?_
    refine mk_aload_n C 0 dX2_set_26 rfl ?_
    refine mk_lload C 2 dX2_set_27 rfl ?_
    refine mk_lconst C (v := 0) dX2_set_29 (by decide) ?_
    refine mk_lcmp C dX2_set_30 ?_
    refine mk_if_le C 41 dX2_set_31 (by decide) (fun c1 => ?_) (fun c1 => ?_)
    · replace hf := (if_pos c1).symm.trans hf
      refine mk_lload_n C 1 dX2_set_41 rfl ?_
      exact mk_lvsub [0] rfl (wL42 _ _ hf)
    · replace hf := (if_neg c1).symm.trans hf
      refine mk_lload_n C 1 dX2_set_34 rfl ?_
      refine mk_lload C 2 dX2_set_35 rfl ?_
      obtain ⟨g2, hf⟩ := gNL_some hf
      refine mk_ldiv C dX2_set_37 g2 ?_
      refine mk_goto C 42 dX2_set_38 (by decide) ?_
      exact mk_lvsub [0] rfl (wL42 _ _ hf)
  show mk_Go p l e (headSpec (mk_ws yX2_set cX2_set 7 none) ({ frames := 1, cells := 0, slots := 0, locals := 30 })).room s m args below meth c D A 7 0 0 (MQ below (mk_Q none D (wMeans aM cJ wM) A) args s 0 0 A) 0 (wMeans aM cJ uM) [(0, .ref (aM 0)), (1, .long p1), (3, .long p3)] []
  unfold f_M_set at hf
  refine mk_lload_n C 1 dX2_set_0 rfl ?_
  refine mk_lload_n C 2 dX2_set_1 rfl ?_
  obtain ⟨r3, h4, hf⟩ := b1_some hf
  refine mk_callSl C (c_M_common l D cI cJ X Y p1 p3 r3 h4) mw_802 mw_803 mw_9 mw_804 mkn_X2_common rfl ⟨Nat.le_of_ble_eq_true rfl, Nat.le_of_ble_eq_true rfl⟩ (mk_Fr.nil _) (Nat.le_of_ble_eq_true rfl) dX2_set_2 rfl ?_
  refine mk_lstore C (lv' := [(5, .long r3), (0, .ref (aM 0)), (1, .long p1), (3, .long p3)]) dX2_set_5 (by decide) rfl ?_
  refine mk_aload_n C 1 dX2_set_7 rfl ?_
  refine mk_lload C 0 dX2_set_8 rfl ?_
  refine mk_lconst C (v := 0) dX2_set_10 (by decide) ?_
  refine mk_lcmp C dX2_set_11 ?_
  refine mk_if_le C 22 dX2_set_12 (by decide) (fun c5 => ?_) (fun c5 => ?_)
  · replace hf := (if_pos c5).symm.trans hf
    refine mk_lload_n C 2 dX2_set_22 rfl ?_
    exact mk_lvsub [1, 3, 0] rfl (wL23 _ _ _ hf)
  · replace hf := (if_neg c5).symm.trans hf
    refine mk_lload_n C 2 dX2_set_15 rfl ?_
    refine mk_lload C 0 dX2_set_16 rfl ?_
    obtain ⟨g6, hf⟩ := gNL_some hf
    refine mk_ldiv C dX2_set_18 g6 ?_
    refine mk_goto C 23 dX2_set_19 (by decide) ?_
    exact mk_lvsub [1, 3, 0] rfl (wL23 _ _ _ hf)
set_option maxHeartbeats 40000000 in
set_option maxRecDepth 100000 in
theorem c_M_power (l : Launch) (D : va_G) (cI cJ : ClassId) (X Y : Nat → Nat) (p0 : Int64) (p2 : Int32) (r : Int64) (hf : f_M_power p0 p2 = some r) : mk_Met l yX2_power cX2_power 6 (some .long) ({ frames := 0, cells := 0, slots := 0, locals := 0 }) D [(cI, .int), (cJ, .long)] X Y [.long p0, .int p2] ([] : va_W) ([] : va_W) (some (.long r)) 0 0 := by
  refine mk_start (own := RX2) (by decide) rfl (Nat.le_of_ble_eq_true rfl) ?_
  intro sz p e s m args below meth c A C hr hlk hnm
  replace C : mk_Cx p s m args c cX2_power 6 RX2 D [(cI, .int), (cJ, .long)] X Y A := C
  have wL5 : ∀ (n : Nat) (v3 : Int64) (v5 : Int32), f_M_power_5 p0 p2 n v3 v5 = some r → mk_Go p l e (headSpec (mk_ws yX2_power cX2_power 6 (some .long)) ({ frames := 0, cells := 0, slots := 0, locals := 0 })).room s m args below meth c D A 6 0 0 (MQ below (mk_Q (some (.long r)) D ([] : va_W) A) args s 0 0 A) 5 ([] : va_W) [(0, .long p0), (2, .int p2), (3, .long v3), (5, .int v5)] [] := by
    intro  n
    induction n with
    | zero => intro v3 v5 hf; exact nomatch (show (none : Option (Int64)) = some _ from hf)
    | succ n ih =>
      intro v3 v5 hf
      rw [f_M_power_5] at hf
      refine mk_iload C 3 dX2_power_5 rfl ?_
      refine mk_iload_n C 1 dX2_power_7 rfl ?_
      refine mk_icmp_ge C 21 dX2_power_8 (by decide) (fun c1 => ?_) (fun c1 => ?_)
      · replace hf := (if_pos c1).symm.trans hf
        refine mk_lload_n C 2 dX2_power_21 rfl ?_
        have e0 := Option.some.inj hf
        exact mk_lret C hr hlk e0 rfl dX2_power_22
      · replace hf := (if_neg c1).symm.trans hf
        refine mk_lload_n C 2 dX2_power_11 rfl ?_
        refine mk_lload_n C 0 dX2_power_12 rfl ?_
        refine mk_lmul C dX2_power_13 ?_
        refine mk_lstore_n C (lv' := [(3, .long (v3 * p0)), (0, .long p0), (2, .int p2), (5, .int v5)]) dX2_power_14 (by decide) rfl ?_
        refine mk_iinc C (v := (v5 + 1)) (lv' := [(5, .int (v5 + 1)), (3, .long (v3 * p0)), (0, .long p0), (2, .int p2)]) 3 dX2_power_15 rfl rfl (by decide) rfl ?_
        refine mk_goto C 5 dX2_power_18 (by decide) ?_
        exact mk_lvsub [2, 3, 1, 0] rfl (ih _ _ hf)
  show mk_Go p l e (headSpec (mk_ws yX2_power cX2_power 6 (some .long)) ({ frames := 0, cells := 0, slots := 0, locals := 0 })).room s m args below meth c D A 6 0 0 (MQ below (mk_Q (some (.long r)) D ([] : va_W) A) args s 0 0 A) 0 ([] : va_W) [(0, .long p0), (2, .int p2)] []
  unfold f_M_power at hf
  refine mk_lconst C (v := 1) dX2_power_0 (by decide) ?_
  refine mk_lstore_n C (lv' := [(3, .long 1), (0, .long p0), (2, .int p2)]) dX2_power_1 (by decide) rfl ?_
  refine mk_iconst C (v := 0) dX2_power_2 (by decide) ?_
  refine mk_istore C (lv' := [(5, .int 0), (3, .long 1), (0, .long p0), (2, .int p2)]) dX2_power_3 (by decide) rfl ?_
  exact mk_lvsub [2, 3, 1, 0] rfl (wL5 600 _ _ hf)
set_option maxHeartbeats 40000000 in
set_option maxRecDepth 100000 in
theorem c_M_choose (l : Launch) (D : va_G) (cI cJ : ClassId) (X Y : Nat → Nat) (p0 : Int32) (p1 : Int32) (r : Int64) (hf : f_M_choose p0 p1 = some r) : mk_Met l yX2_choose cX2_choose 5 (some .long) ({ frames := 0, cells := 0, slots := 0, locals := 0 }) D [(cI, .int), (cJ, .long)] X Y [.int p0, .int p1] ([] : va_W) ([] : va_W) (some (.long r)) 0 0 := by
  refine mk_start (own := RX2) (by decide) rfl (Nat.le_of_ble_eq_true rfl) ?_
  intro sz p e s m args below meth c A C hr hlk hnm
  replace C : mk_Cx p s m args c cX2_choose 5 RX2 D [(cI, .int), (cJ, .long)] X Y A := C
  have wL5 : ∀ (n : Nat) (v2 : Int64) (v4 : Int32), f_M_choose_5 p0 p1 n v2 v4 = some r → mk_Go p l e (headSpec (mk_ws yX2_choose cX2_choose 5 (some .long)) ({ frames := 0, cells := 0, slots := 0, locals := 0 })).room s m args below meth c D A 5 0 0 (MQ below (mk_Q (some (.long r)) D ([] : va_W) A) args s 0 0 A) 5 ([] : va_W) [(0, .int p0), (1, .int p1), (2, .long v2), (4, .int v4)] [] := by
    intro  n
    induction n with
    | zero => intro v2 v4 hf; exact nomatch (show (none : Option (Int64)) = some _ from hf)
    | succ n ih =>
      intro v2 v4 hf
      rw [f_M_choose_5] at hf
      refine mk_iload C 3 dX2_choose_5 rfl ?_
      refine mk_iload_n C 1 dX2_choose_7 rfl ?_
      refine mk_icmp_gt C 31 dX2_choose_8 (by decide) (fun c1 => ?_) (fun c1 => ?_)
      · replace hf := (if_pos c1).symm.trans hf
        refine mk_lload_n C 2 dX2_choose_31 rfl ?_
        have e0 := Option.some.inj hf
        exact mk_lret C hr hlk e0 rfl dX2_choose_32
      · replace hf := (if_neg c1).symm.trans hf
        refine mk_lload_n C 2 dX2_choose_11 rfl ?_
        refine mk_iload_n C 0 dX2_choose_12 rfl ?_
        refine mk_iload_n C 1 dX2_choose_13 rfl ?_
        refine mk_isub C dX2_choose_14 ?_
        refine mk_iload C 3 dX2_choose_15 rfl ?_
        refine mk_iadd C dX2_choose_17 ?_
        refine mk_i2l C dX2_choose_18 ?_
        refine mk_lmul C dX2_choose_19 ?_
        refine mk_iload C 3 dX2_choose_20 rfl ?_
        refine mk_i2l C dX2_choose_22 ?_
        obtain ⟨g2, hf⟩ := gNL_some hf
        refine mk_ldiv C dX2_choose_23 g2 ?_
        refine mk_lstore_n C (lv' := [(2, .long ((v2 * (((p0 - p1) + v4) : Int32).toInt64) / (v4 : Int32).toInt64)), (0, .int p0), (1, .int p1), (4, .int v4)]) dX2_choose_24 (by decide) rfl ?_
        refine mk_iinc C (v := (v4 + 1)) (lv' := [(4, .int (v4 + 1)), (2, .long ((v2 * (((p0 - p1) + v4) : Int32).toInt64) / (v4 : Int32).toInt64)), (0, .int p0), (1, .int p1)]) 3 dX2_choose_25 rfl rfl (by decide) rfl ?_
        refine mk_goto C 5 dX2_choose_28 (by decide) ?_
        exact mk_lvsub [2, 3, 1, 0] rfl (ih _ _ hf)
  show mk_Go p l e (headSpec (mk_ws yX2_choose cX2_choose 5 (some .long)) ({ frames := 0, cells := 0, slots := 0, locals := 0 })).room s m args below meth c D A 5 0 0 (MQ below (mk_Q (some (.long r)) D ([] : va_W) A) args s 0 0 A) 0 ([] : va_W) [(0, .int p0), (1, .int p1)] []
  unfold f_M_choose at hf
  refine mk_lconst C (v := 1) dX2_choose_0 (by decide) ?_
  refine mk_lstore_n C (lv' := [(2, .long 1), (0, .int p0), (1, .int p1)]) dX2_choose_1 (by decide) rfl ?_
  refine mk_iconst C (v := 1) dX2_choose_2 (by decide) ?_
  refine mk_istore C (lv' := [(4, .int 1), (2, .long 1), (0, .int p0), (1, .int p1)]) dX2_choose_3 (by decide) rfl ?_
  exact mk_lvsub [2, 3, 1, 0] rfl (wL5 600 _ _ hf)
set_option maxHeartbeats 40000000 in
set_option maxRecDepth 100000 in
theorem c_M_plus (l : Launch) (D : va_G) (cI cJ : ClassId) (X Y : Nat → Nat) (aM : Nat → Nat) (uM : Nat → Nat → Int64) (p1 : Int64) (p3 : Int64) (wM : Nat → Nat → Int64) (hf : f_M_plus uM p1 p3 = some wM) : mk_Met l yX2_plus cX2_plus 7 none ({ frames := 2, cells := 0, slots := 0, locals := 56 }) D [(cI, .int), (cJ, .long)] X Y [.ref (aM 0), .long p1, .long p3] (wMeans aM cJ uM) (wMeans aM cJ wM) none 0 0 := by
  refine mk_start (own := RX2) (by decide) rfl (Nat.le_of_ble_eq_true rfl) ?_
  intro sz p e s m args below meth c A C hr hlk hnm
  replace C : mk_Cx p s m args c cX2_plus 7 RX2 D [(cI, .int), (cJ, .long)] X Y A := C
  show mk_Go p l e (headSpec (mk_ws yX2_plus cX2_plus 7 none) ({ frames := 2, cells := 0, slots := 0, locals := 56 })).room s m args below meth c D A 7 0 0 (MQ below (mk_Q none D (wMeans aM cJ wM) A) args s 0 0 A) 0 (wMeans aM cJ uM) [(0, .ref (aM 0)), (1, .long p1), (3, .long p3)] []
  unfold f_M_plus at hf
  refine mk_aload_n C 0 dX2_plus_0 rfl ?_
  refine mk_get C mk_inX2 0 rfl rfl 4 (by decide) mw_328 (v := .long (uM 4 0)) rfl dX2_plus_1 ?_
  refine mk_lload_n C 2 dX2_plus_4 rfl ?_
  obtain ⟨r1, h2, hf⟩ := b1_some hf
  refine mk_callSl C (c_M_common l D cI cJ X Y (uM 4 0) p3 r1 h2) mw_802 mw_803 mw_9 mw_804 mkn_X2_common rfl ⟨Nat.le_of_ble_eq_true rfl, Nat.le_of_ble_eq_true rfl⟩ (mk_Fr.nil _) (Nat.le_of_ble_eq_true rfl) dX2_plus_5 rfl ?_
  refine mk_lstore C (lv' := [(5, .long r1), (0, .ref (aM 0)), (1, .long p1), (3, .long p3)]) dX2_plus_8 (by decide) rfl ?_
  refine mk_lload C 0 dX2_plus_10 rfl ?_
  refine mk_lconst C (v := 0) dX2_plus_12 (by decide) ?_
  refine mk_lcmp C dX2_plus_13 ?_
  refine mk_if_le C 49 dX2_plus_14 (by decide) (fun c3 => ?_) (fun c3 => ?_)
  · replace hf := (if_pos c3).symm.trans hf
    have e0 := Option.some.inj hf
    exact mk_vret C hr hlk (by rw [← e0]) dX2_plus_49
  · replace hf := (if_neg c3).symm.trans hf
    refine mk_aload_n C 1 dX2_plus_17 rfl ?_
    refine mk_aload_n C 1 dX2_plus_18 rfl ?_
    refine mk_get C mk_inX2 0 rfl rfl 3 (by decide) mw_326 (v := .long (uM 3 0)) rfl dX2_plus_19 ?_
    refine mk_lload_n C 3 dX2_plus_22 rfl ?_
    refine mk_lload C 0 dX2_plus_23 rfl ?_
    obtain ⟨g4, hf⟩ := gNL_some hf
    refine mk_ldiv C dX2_plus_25 g4 ?_
    refine mk_lmul C dX2_plus_26 ?_
    refine mk_lload_n C 2 dX2_plus_27 rfl ?_
    refine mk_aload_n C 1 dX2_plus_28 rfl ?_
    refine mk_get C mk_inX2 0 rfl rfl 4 (by decide) mw_328 (v := .long (uM 4 0)) rfl dX2_plus_29 ?_
    refine mk_lload C 0 dX2_plus_32 rfl ?_
    refine mk_ldiv C dX2_plus_34 g4 ?_
    refine mk_lmul C dX2_plus_35 ?_
    refine mk_ladd C dX2_plus_36 ?_
    refine mk_aload_n C 1 dX2_plus_37 rfl ?_
    refine mk_get C mk_inX2 0 rfl rfl 4 (by decide) mw_328 (v := .long (uM 4 0)) rfl dX2_plus_38 ?_
    refine mk_lload C 0 dX2_plus_41 rfl ?_
    refine mk_ldiv C dX2_plus_43 g4 ?_
    refine mk_lload_n C 3 dX2_plus_44 rfl ?_
    refine mk_lmul C dX2_plus_45 ?_
    obtain ⟨uM_5, h6, hf⟩ := b1_some hf
    refine mk_callVv C (c_M_set l D cI cJ X Y aM uM (((uM 3 0) * (p3 / r1)) + (p1 * ((uM 4 0) / r1))) (((uM 4 0) / r1) * p3) uM_5 h6) mw_798 mw_799 mw_800 mw_9 mw_801 mkn_X2_set rfl ⟨Nat.le_of_ble_eq_true rfl, Nat.le_of_ble_eq_true rfl⟩ 0 rfl rfl rfl (mk_Fr.all _ _) (Nat.le_of_ble_eq_true rfl) dX2_plus_46 rfl ?_
    have e0 := Option.some.inj hf
    exact mk_vret C hr hlk (by rw [← e0]) dX2_plus_49
set_option maxHeartbeats 40000000 in
set_option maxRecDepth 100000 in
theorem c_M_reckonSplit (l : Launch) (D : va_G) (cI cJ : ClassId) (X Y : Nat → Nat) (aM : Nat → Nat) (uM : Nat → Nat → Int64) (p1 : Int32) (p2 : Int32) (p3 : Int32) (p4 : Int32) (wM : Nat → Nat → Int64) (hf : f_M_reckonSplit uM p1 p2 p3 p4 = some wM) : mk_Met l yX2_reckonSplit cX2_reckonSplit 14 none ({ frames := 3, cells := 0, slots := 0, locals := 82 }) D [(cI, .int), (cJ, .long)] X Y [.ref (aM 0), .int p1, .int p2, .int p3, .int p4] (wMeans aM cJ uM) (wMeans aM cJ wM) none 0 0 := by
  refine mk_start (own := RX2) (by decide) rfl (Nat.le_of_ble_eq_true rfl) ?_
  intro sz p e s m args below meth c A C hr hlk hnm
  replace C : mk_Cx p s m args c cX2_reckonSplit 14 RX2 D [(cI, .int), (cJ, .long)] X Y A := C
  have wL53 : ∀ (n : Nat) (v5 : Int64) (v7 : Int64) (v9 : Int64) (v11 : Int32) (uM : Nat → Nat → Int64), f_M_reckonSplit_53 p1 p2 p3 p4 n v5 v7 v9 v11 uM = some wM → mk_Go p l e (headSpec (mk_ws yX2_reckonSplit cX2_reckonSplit 14 none) ({ frames := 3, cells := 0, slots := 0, locals := 82 })).room s m args below meth c D A 14 0 0 (MQ below (mk_Q none D (wMeans aM cJ wM) A) args s 0 0 A) 53 (wMeans aM cJ uM) [(0, .ref (aM 0)), (2, .int p2), (3, .int p3), (4, .int p4), (5, .long v5), (7, .long v7), (9, .long v9), (11, .int v11)] [] := by
    intro  n
    induction n with
    | zero => intro v5 v7 v9 v11 uM hf; exact nomatch (show (none : Option ((Nat → Nat → Int64))) = some _ from hf)
    | succ n ih =>
      intro v5 v7 v9 v11 uM hf
      rw [f_M_reckonSplit_53] at hf
      refine mk_iload C 7 dX2_reckonSplit_53 rfl ?_
      refine mk_iload_n C 1 dX2_reckonSplit_55 rfl ?_
      refine mk_icmp_ge C 148 dX2_reckonSplit_56 (by decide) (fun c1 => ?_) (fun c1 => ?_)
      · replace hf := (if_pos c1).symm.trans hf
        refine mk_aload_n C 0 dX2_reckonSplit_148 rfl ?_
        refine mk_aload_n C 0 dX2_reckonSplit_149 rfl ?_
        refine mk_get C mk_inX2 0 rfl rfl 3 (by decide) mw_326 (v := .long (uM 3 0)) rfl dX2_reckonSplit_150 ?_
        refine mk_aload_n C 0 dX2_reckonSplit_153 rfl ?_
        refine mk_get C mk_inX2 0 rfl rfl 4 (by decide) mw_328 (v := .long (uM 4 0)) rfl dX2_reckonSplit_154 ?_
        refine mk_lload C 4 dX2_reckonSplit_157 rfl ?_
        refine mk_lload C 5 dX2_reckonSplit_159 rfl ?_
        refine mk_lsub C dX2_reckonSplit_161 ?_
        refine mk_lload C 6 dX2_reckonSplit_162 rfl ?_
        refine mk_lsub C dX2_reckonSplit_164 ?_
        refine mk_lmul C dX2_reckonSplit_165 ?_
        obtain ⟨uM_2, h3, hf⟩ := b1_some hf
        refine mk_callVv C (c_M_set l D cI cJ X Y aM uM (uM 3 0) ((uM 4 0) * ((v5 - v7) - v9)) uM_2 h3) mw_798 mw_799 mw_800 mw_9 mw_801 mkn_X2_set rfl ⟨Nat.le_of_ble_eq_true rfl, Nat.le_of_ble_eq_true rfl⟩ 0 rfl rfl rfl (mk_Fr.all _ _) (Nat.le_of_ble_eq_true rfl) dX2_reckonSplit_166 rfl ?_
        have e0 := Option.some.inj hf
        exact mk_vret C hr hlk (by rw [← e0]) dX2_reckonSplit_169
      · replace hf := (if_neg c1).symm.trans hf
        refine mk_iload_n C 1 dX2_reckonSplit_59 rfl ?_
        refine mk_iload C 7 dX2_reckonSplit_60 rfl ?_
        obtain ⟨r4, h5, hf⟩ := b1_some hf
        refine mk_callSl C (c_M_choose l D cI cJ X Y p2 v11 r4 h5) mw_812 mw_813 mw_9 mw_814 mkn_X2_choose rfl ⟨Nat.le_of_ble_eq_true rfl, Nat.le_of_ble_eq_true rfl⟩ (mk_Fr.nil _) (Nat.le_of_ble_eq_true rfl) dX2_reckonSplit_62 rfl ?_
        refine mk_iload_n C 2 dX2_reckonSplit_65 rfl ?_
        refine mk_i2l C dX2_reckonSplit_66 ?_
        refine mk_iload C 7 dX2_reckonSplit_67 rfl ?_
        obtain ⟨r6, h7, hf⟩ := b1_some hf
        refine mk_callSl C (c_M_power l D cI cJ X Y ((p3 : Int32).toInt64) v11 r6 h7) mw_809 mw_810 mw_9 mw_811 mkn_X2_power rfl ⟨Nat.le_of_ble_eq_true rfl, Nat.le_of_ble_eq_true rfl⟩ (mk_Fr.nil _) (Nat.le_of_ble_eq_true rfl) dX2_reckonSplit_69 rfl ?_
        refine mk_lmul C dX2_reckonSplit_72 ?_
        refine mk_iload C 3 dX2_reckonSplit_73 rfl ?_
        refine mk_iload_n C 2 dX2_reckonSplit_75 rfl ?_
        refine mk_isub C dX2_reckonSplit_76 ?_
        refine mk_i2l C dX2_reckonSplit_77 ?_
        refine mk_iload_n C 1 dX2_reckonSplit_78 rfl ?_
        refine mk_iload C 7 dX2_reckonSplit_79 rfl ?_
        refine mk_isub C dX2_reckonSplit_81 ?_
        obtain ⟨r8, h9, hf⟩ := b1_some hf
        refine mk_callSl C (c_M_power l D cI cJ X Y (((p4 - p3) : Int32).toInt64) (p2 - v11) r8 h9) mw_809 mw_810 mw_9 mw_811 mkn_X2_power rfl ⟨Nat.le_of_ble_eq_true rfl, Nat.le_of_ble_eq_true rfl⟩ (mk_Fr.nil _) (Nat.le_of_ble_eq_true rfl) dX2_reckonSplit_82 rfl ?_
        refine mk_lmul C dX2_reckonSplit_85 ?_
        refine mk_lstore C (lv' := [(12, .long ((r4 * r6) * r8)), (0, .ref (aM 0)), (2, .int p2), (3, .int p3), (4, .int p4), (5, .long v5), (7, .long v7), (9, .long v9), (11, .int v11)]) dX2_reckonSplit_86 (by decide) rfl ?_
        refine mk_aload_n C 1 dX2_reckonSplit_88 rfl ?_
        refine mk_lload C 0 dX2_reckonSplit_89 rfl ?_
        refine mk_aload_n C 1 dX2_reckonSplit_91 rfl ?_
        refine mk_get C mk_inX2 0 rfl rfl 0 (by decide) mw_321 (v := .ref (aM 1)) rfl dX2_reckonSplit_92 ?_
        refine mk_iload C 8 dX2_reckonSplit_95 rfl ?_
        refine mk_callNl C (c_atL l D cI cJ X Y (aM 1) 9 (uM 0) v11) (List.mem_of_getElem? (i := 20) rfl) mw_816 mw_1 mw_817 mkn_X8_at_ rfl ⟨Nat.le_of_ble_eq_true rfl, Nat.le_of_ble_eq_true rfl⟩ (mk_Fr.at (q := 1) rfl) (Nat.le_of_ble_eq_true rfl) dX2_reckonSplit_97 rfl ?_
        refine mk_lmul C dX2_reckonSplit_100 ?_
        refine mk_aload_n C 1 dX2_reckonSplit_101 rfl ?_
        refine mk_get C mk_inX2 0 rfl rfl 1 (by decide) mw_323 (v := .ref (aM 2)) rfl dX2_reckonSplit_102 ?_
        refine mk_iload C 8 dX2_reckonSplit_105 rfl ?_
        refine mk_callNl C (c_atL l D cI cJ X Y (aM 2) 9 (uM 1) v11) (List.mem_of_getElem? (i := 20) rfl) mw_816 mw_1 mw_817 mkn_X8_at_ rfl ⟨Nat.le_of_ble_eq_true rfl, Nat.le_of_ble_eq_true rfl⟩ (mk_Fr.at (q := 2) rfl) (Nat.le_of_ble_eq_true rfl) dX2_reckonSplit_107 rfl ?_
        obtain ⟨uM_10, h11, hf⟩ := b1_some hf
        refine mk_callVv C (c_M_plus l D cI cJ X Y aM uM (((r4 * r6) * r8) * (mkAtL 9 (uM 0) v11)) (mkAtL 9 (uM 1) v11) uM_10 h11) mw_818 mw_819 mw_820 mw_9 mw_821 mkn_X2_plus rfl ⟨Nat.le_of_ble_eq_true rfl, Nat.le_of_ble_eq_true rfl⟩ 0 rfl rfl rfl (mk_Fr.all _ _) (Nat.le_of_ble_eq_true rfl) dX2_reckonSplit_110 rfl ?_
        refine mk_aload_n C 1 dX2_reckonSplit_113 rfl ?_
        refine mk_lload C 0 dX2_reckonSplit_114 rfl ?_
        refine mk_aload_n C 1 dX2_reckonSplit_116 rfl ?_
        refine mk_get C mk_inX2 0 rfl rfl 0 (by decide) mw_321 (v := .ref (aM 1)) rfl dX2_reckonSplit_117 ?_
        refine mk_iload_n C 2 dX2_reckonSplit_120 rfl ?_
        refine mk_iload C 8 dX2_reckonSplit_121 rfl ?_
        refine mk_isub C dX2_reckonSplit_123 ?_
        refine mk_callNl C (c_atL l D cI cJ X Y (aM 1) 9 (uM_10 0) (p2 - v11)) (List.mem_of_getElem? (i := 20) rfl) mw_816 mw_1 mw_817 mkn_X8_at_ rfl ⟨Nat.le_of_ble_eq_true rfl, Nat.le_of_ble_eq_true rfl⟩ (mk_Fr.at (q := 1) rfl) (Nat.le_of_ble_eq_true rfl) dX2_reckonSplit_124 rfl ?_
        refine mk_lmul C dX2_reckonSplit_127 ?_
        refine mk_aload_n C 1 dX2_reckonSplit_128 rfl ?_
        refine mk_get C mk_inX2 0 rfl rfl 1 (by decide) mw_323 (v := .ref (aM 2)) rfl dX2_reckonSplit_129 ?_
        refine mk_iload_n C 2 dX2_reckonSplit_132 rfl ?_
        refine mk_iload C 8 dX2_reckonSplit_133 rfl ?_
        refine mk_isub C dX2_reckonSplit_135 ?_
        refine mk_callNl C (c_atL l D cI cJ X Y (aM 2) 9 (uM_10 1) (p2 - v11)) (List.mem_of_getElem? (i := 20) rfl) mw_816 mw_1 mw_817 mkn_X8_at_ rfl ⟨Nat.le_of_ble_eq_true rfl, Nat.le_of_ble_eq_true rfl⟩ (mk_Fr.at (q := 2) rfl) (Nat.le_of_ble_eq_true rfl) dX2_reckonSplit_136 rfl ?_
        obtain ⟨uM_12, h13, hf⟩ := b1_some hf
        refine mk_callVv C (c_M_plus l D cI cJ X Y aM uM_10 (((r4 * r6) * r8) * (mkAtL 9 (uM_10 0) (p2 - v11))) (mkAtL 9 (uM_10 1) (p2 - v11)) uM_12 h13) mw_818 mw_819 mw_820 mw_9 mw_821 mkn_X2_plus rfl ⟨Nat.le_of_ble_eq_true rfl, Nat.le_of_ble_eq_true rfl⟩ 0 rfl rfl rfl (mk_Fr.all _ _) (Nat.le_of_ble_eq_true rfl) dX2_reckonSplit_139 rfl ?_
        refine mk_iinc C (v := (v11 + 1)) (lv' := [(11, .int (v11 + 1)), (12, .long ((r4 * r6) * r8)), (0, .ref (aM 0)), (2, .int p2), (3, .int p3), (4, .int p4), (5, .long v5), (7, .long v7), (9, .long v9)]) 8 dX2_reckonSplit_142 rfl rfl (by decide) rfl ?_
        refine mk_goto C 53 dX2_reckonSplit_145 (by decide) ?_
        exact mk_lvsub [2, 3, 4, 5, 6, 7, 8, 0] rfl (ih _ _ _ _ _ hf)
  have wL45 : ∀ (v5 : Int64) (v7 : Int64) (v9 : Int64) (t1 : Int64) (t2 : Int64) (uM : Nat → Nat → Int64), f_M_reckonSplit_45 p1 p2 p3 p4 v5 v7 v9 t1 t2 uM = some wM → mk_Go p l e (headSpec (mk_ws yX2_reckonSplit cX2_reckonSplit 14 none) ({ frames := 3, cells := 0, slots := 0, locals := 82 })).room s m args below meth c D A 14 0 0 (MQ below (mk_Q none D (wMeans aM cJ wM) A) args s 0 0 A) 45 (wMeans aM cJ uM) [(0, .ref (aM 0)), (2, .int p2), (3, .int p3), (4, .int p4), (5, .long v5), (7, .long v7), (9, .long v9)] [.long t2, .long t1, .ref (aM 0)] := by
    intro  v5 v7 v9 t1 t2 uM hf
    unfold f_M_reckonSplit_45 at hf
    refine mk_ladd C dX2_reckonSplit_45 ?_
    refine mk_lconst C (v := 1) dX2_reckonSplit_46 (by decide) ?_
    obtain ⟨uM_14, h15, hf⟩ := b1_some hf
    refine mk_callVv C (c_M_set l D cI cJ X Y aM uM (t1 + t2) 1 uM_14 h15) mw_798 mw_799 mw_800 mw_9 mw_801 mkn_X2_set rfl ⟨Nat.le_of_ble_eq_true rfl, Nat.le_of_ble_eq_true rfl⟩ 0 rfl rfl rfl (mk_Fr.all _ _) (Nat.le_of_ble_eq_true rfl) dX2_reckonSplit_47 rfl ?_
    refine mk_iconst C (v := 1) dX2_reckonSplit_50 (by decide) ?_
    refine mk_istore C (lv' := [(11, .int 1), (0, .ref (aM 0)), (2, .int p2), (3, .int p3), (4, .int p4), (5, .long v5), (7, .long v7), (9, .long v9)]) dX2_reckonSplit_51 (by decide) rfl ?_
    exact mk_lvsub [1, 2, 3, 4, 5, 6, 7, 0] rfl (wL53 600 _ _ _ _ _ hf)
  show mk_Go p l e (headSpec (mk_ws yX2_reckonSplit cX2_reckonSplit 14 none) ({ frames := 3, cells := 0, slots := 0, locals := 82 })).room s m args below meth c D A 14 0 0 (MQ below (mk_Q none D (wMeans aM cJ wM) A) args s 0 0 A) 0 (wMeans aM cJ uM) [(0, .ref (aM 0)), (1, .int p1), (2, .int p2), (3, .int p3), (4, .int p4)] []
  unfold f_M_reckonSplit at hf
  refine mk_iload C 4 dX2_reckonSplit_0 rfl ?_
  refine mk_i2l C dX2_reckonSplit_2 ?_
  refine mk_iload_n C 2 dX2_reckonSplit_3 rfl ?_
  obtain ⟨r16, h17, hf⟩ := b1_some hf
  refine mk_callSl C (c_M_power l D cI cJ X Y ((p4 : Int32).toInt64) p2 r16 h17) mw_809 mw_810 mw_9 mw_811 mkn_X2_power rfl ⟨Nat.le_of_ble_eq_true rfl, Nat.le_of_ble_eq_true rfl⟩ (mk_Fr.nil _) (Nat.le_of_ble_eq_true rfl) dX2_reckonSplit_4 rfl ?_
  refine mk_lstore C (lv' := [(5, .long r16), (0, .ref (aM 0)), (1, .int p1), (2, .int p2), (3, .int p3), (4, .int p4)]) dX2_reckonSplit_7 (by decide) rfl ?_
  refine mk_iload C 5 dX2_reckonSplit_9 rfl ?_
  refine mk_iload_n C 4 dX2_reckonSplit_11 rfl ?_
  refine mk_isub C dX2_reckonSplit_12 ?_
  refine mk_i2l C dX2_reckonSplit_13 ?_
  refine mk_iload_n C 3 dX2_reckonSplit_14 rfl ?_
  obtain ⟨r18, h19, hf⟩ := b1_some hf
  refine mk_callSl C (c_M_power l D cI cJ X Y (((p4 - p3) : Int32).toInt64) p2 r18 h19) mw_809 mw_810 mw_9 mw_811 mkn_X2_power rfl ⟨Nat.le_of_ble_eq_true rfl, Nat.le_of_ble_eq_true rfl⟩ (mk_Fr.nil _) (Nat.le_of_ble_eq_true rfl) dX2_reckonSplit_15 rfl ?_
  refine mk_lstore C (lv' := [(7, .long r18), (5, .long r16), (0, .ref (aM 0)), (1, .int p1), (2, .int p2), (3, .int p3), (4, .int p4)]) dX2_reckonSplit_18 (by decide) rfl ?_
  refine mk_iload_n C 5 dX2_reckonSplit_20 rfl ?_
  refine mk_i2l C dX2_reckonSplit_21 ?_
  refine mk_iload_n C 4 dX2_reckonSplit_22 rfl ?_
  obtain ⟨r20, h21, hf⟩ := b1_some hf
  refine mk_callSl C (c_M_power l D cI cJ X Y ((p3 : Int32).toInt64) p2 r20 h21) mw_809 mw_810 mw_9 mw_811 mkn_X2_power rfl ⟨Nat.le_of_ble_eq_true rfl, Nat.le_of_ble_eq_true rfl⟩ (mk_Fr.nil _) (Nat.le_of_ble_eq_true rfl) dX2_reckonSplit_23 rfl ?_
  refine mk_lstore C (lv' := [(9, .long r20), (7, .long r18), (5, .long r16), (0, .ref (aM 0)), (1, .int p1), (2, .int p2), (3, .int p3), (4, .int p4)]) dX2_reckonSplit_26 (by decide) rfl ?_
  refine mk_aload_n C 3 dX2_reckonSplit_28 rfl ?_
  refine mk_lload C 2 dX2_reckonSplit_29 rfl ?_
  refine mk_lload C 0 dX2_reckonSplit_31 rfl ?_
  refine mk_ladd C dX2_reckonSplit_33 ?_
  refine mk_iload_n C 4 dX2_reckonSplit_34 rfl ?_
  refine mk_iconst C (v := 1) dX2_reckonSplit_35 (by decide) ?_
  refine mk_icmp_ne C 43 dX2_reckonSplit_36 (by decide) (fun c22 => ?_) (fun c22 => ?_)
  · replace hf := (if_neg c22).symm.trans hf
    refine mk_lload C 1 dX2_reckonSplit_43 rfl ?_
    exact mk_lvsub [3, 5, 6, 7, 2, 1, 0] rfl (wL45 _ _ _ _ _ _ hf)
  · replace hf := (if_pos c22).symm.trans hf
    refine mk_lconst C (v := 0) dX2_reckonSplit_39 (by decide) ?_
    refine mk_goto C 45 dX2_reckonSplit_40 (by decide) ?_
    exact mk_lvsub [3, 5, 6, 7, 2, 1, 0] rfl (wL45 _ _ _ _ _ _ hf)
set_option maxHeartbeats 40000000 in
set_option maxRecDepth 100000 in
theorem c_M_reckon (l : Launch) (D : va_G) (cI cJ : ClassId) (X Y : Nat → Nat) (aM : Nat → Nat) (uM : Nat → Nat → Int64) (p1 : Int32) (p2 : Int32) (p3 : Int32) (p4 : Int32) (wM : Nat → Nat → Int64) (hf : f_M_reckon uM p1 p2 p3 p4 = some wM) : mk_Met l yX2_reckon cX2_reckon 6 none ({ frames := 4, cells := 0, slots := 0, locals := 115 }) D [(cI, .int), (cJ, .long)] X Y [.ref (aM 0), .int p1, .int p2, .int p3, .int p4] (wMeans aM cJ uM) (wMeans aM cJ wM) none 0 0 := by
  refine mk_start (own := RX2) (by decide) rfl (Nat.le_of_ble_eq_true rfl) ?_
  intro sz p e s m args below meth c A C hr hlk hnm
  replace C : mk_Cx p s m args c cX2_reckon 6 RX2 D [(cI, .int), (cJ, .long)] X Y A := C
  have wL31 : ∀ (k3 : Int32 → (Nat → Nat → Int64) → Option ((Nat → Nat → Int64))), (∀ (v5 : Int32) (uM : Nat → Nat → Int64), k3 v5 uM = some wM → mk_Go p l e (headSpec (mk_ws yX2_reckon cX2_reckon 6 none) ({ frames := 4, cells := 0, slots := 0, locals := 115 })).room s m args below meth c D A 6 0 0 (MQ below (mk_Q none D (wMeans aM cJ wM) A) args s 0 0 A) 3 (wMeans aM cJ uM) [(0, .ref (aM 0)), (1, .int p1), (2, .int p2), (3, .int p3), (4, .int p4), (5, .int v5)] []) → ∀ (v5 : Int32) (uM : Nat → Nat → Int64), f_M_reckon_31 p1 p2 p3 p4 k3 v5 uM = some wM → mk_Go p l e (headSpec (mk_ws yX2_reckon cX2_reckon 6 none) ({ frames := 4, cells := 0, slots := 0, locals := 115 })).room s m args below meth c D A 6 0 0 (MQ below (mk_Q none D (wMeans aM cJ wM) A) args s 0 0 A) 31 (wMeans aM cJ uM) [(0, .ref (aM 0)), (1, .int p1), (2, .int p2), (3, .int p3), (4, .int p4), (5, .int v5)] [] := by
    intro k3 hk3 v5 uM hf
    unfold f_M_reckon_31 at hf
    refine mk_aload_n C 0 dX2_reckon_31 rfl ?_
    refine mk_get C mk_inX2 0 rfl rfl 0 (by decide) mw_321 (v := .ref (aM 1)) rfl dX2_reckon_32 ?_
    refine mk_iload C 5 dX2_reckon_35 rfl ?_
    refine mk_aload_n C 0 dX2_reckon_37 rfl ?_
    refine mk_get C mk_inX2 0 rfl rfl 3 (by decide) mw_326 (v := .long (uM 3 0)) rfl dX2_reckon_38 ?_
    refine mk_callNv C (c_putL l D cI cJ X Y (aM 1) 9 (uM 0) v5 (uM 3 0)) (List.mem_of_getElem? (i := 21) rfl) mw_823 mw_1 mw_824 mkn_X8_put_ rfl ⟨Nat.le_of_ble_eq_true rfl, Nat.le_of_ble_eq_true rfl⟩ (mk_Fr.put (q := 1) (ws' := (wMeans aM cJ (upR 0 (mkPutL 9 (uM 0) v5 (uM 3 0)) uM))) rfl (st_M_M_0 cI cJ aM uM (mkPutL 9 (uM 0) v5 (uM 3 0)))) (Nat.le_of_ble_eq_true rfl) dX2_reckon_41 rfl ?_
    refine mk_aload_n C 0 dX2_reckon_44 rfl ?_
    refine mk_get C mk_inX2 0 rfl rfl 1 (by decide) mw_323 (v := .ref (aM 2)) rfl dX2_reckon_45 ?_
    refine mk_iload C 5 dX2_reckon_48 rfl ?_
    refine mk_aload_n C 0 dX2_reckon_50 rfl ?_
    refine mk_get C mk_inX2 0 rfl rfl 4 (by decide) mw_328 (v := .long (uM 4 0)) rfl dX2_reckon_51 ?_
    refine mk_callNv C (c_putL l D cI cJ X Y (aM 2) 9 (uM 1) v5 (uM 4 0)) (List.mem_of_getElem? (i := 21) rfl) mw_823 mw_1 mw_824 mkn_X8_put_ rfl ⟨Nat.le_of_ble_eq_true rfl, Nat.le_of_ble_eq_true rfl⟩ (mk_Fr.put (q := 2) (ws' := (wMeans aM cJ (upR 1 (mkPutL 9 (uM 1) v5 (uM 4 0)) (upR 0 (mkPutL 9 (uM 0) v5 (uM 3 0)) uM)))) rfl (st_M_M_1 cI cJ aM (upR 0 (mkPutL 9 (uM 0) v5 (uM 3 0)) uM) (mkPutL 9 (uM 1) v5 (uM 4 0)))) (Nat.le_of_ble_eq_true rfl) dX2_reckon_54 rfl ?_
    refine mk_iinc C (v := (v5 + 1)) (lv' := [(5, .int (v5 + 1)), (0, .ref (aM 0)), (1, .int p1), (2, .int p2), (3, .int p3), (4, .int p4)]) 5 dX2_reckon_57 rfl rfl (by decide) rfl ?_
    refine mk_goto C 3 dX2_reckon_60 (by decide) ?_
    exact mk_lvsub [1, 2, 3, 4, 5, 0] rfl (hk3 _ _ hf)
  have wL3 : ∀ (n : Nat) (v5 : Int32) (uM : Nat → Nat → Int64), f_M_reckon_3 p1 p2 p3 p4 n v5 uM = some wM → mk_Go p l e (headSpec (mk_ws yX2_reckon cX2_reckon 6 none) ({ frames := 4, cells := 0, slots := 0, locals := 115 })).room s m args below meth c D A 6 0 0 (MQ below (mk_Q none D (wMeans aM cJ wM) A) args s 0 0 A) 3 (wMeans aM cJ uM) [(0, .ref (aM 0)), (1, .int p1), (2, .int p2), (3, .int p3), (4, .int p4), (5, .int v5)] [] := by
    intro  n
    induction n with
    | zero => intro v5 uM hf; exact nomatch (show (none : Option ((Nat → Nat → Int64))) = some _ from hf)
    | succ n ih =>
      intro v5 uM hf
      rw [f_M_reckon_3] at hf
      refine mk_iload C 5 dX2_reckon_3 rfl ?_
      refine mk_iload_n C 2 dX2_reckon_5 rfl ?_
      refine mk_icmp_gt C 63 dX2_reckon_6 (by decide) (fun c1 => ?_) (fun c1 => ?_)
      · replace hf := (if_pos c1).symm.trans hf
        have e0 := Option.some.inj hf
        exact mk_vret C hr hlk (by rw [← e0]) dX2_reckon_63
      · replace hf := (if_neg c1).symm.trans hf
        refine mk_aload_n C 0 dX2_reckon_9 rfl ?_
        refine mk_lconst C (v := 1) dX2_reckon_10 (by decide) ?_
        refine mk_lconst C (v := 1) dX2_reckon_11 (by decide) ?_
        obtain ⟨uM_2, h3, hf⟩ := b1_some hf
        refine mk_callVv C (c_M_set l D cI cJ X Y aM uM 1 1 uM_2 h3) mw_798 mw_799 mw_800 mw_9 mw_801 mkn_X2_set rfl ⟨Nat.le_of_ble_eq_true rfl, Nat.le_of_ble_eq_true rfl⟩ 0 rfl rfl rfl (mk_Fr.all _ _) (Nat.le_of_ble_eq_true rfl) dX2_reckon_12 rfl ?_
        refine mk_iload C 5 dX2_reckon_15 rfl ?_
        refine mk_iconst C (v := 1) dX2_reckon_17 (by decide) ?_
        refine mk_icmp_le C 31 dX2_reckon_18 (by decide) (fun c4 => ?_) (fun c4 => ?_)
        · replace hf := (if_pos c4).symm.trans hf
          exact mk_lvsub [0, 1, 2, 3, 4, 5] rfl (wL31 _ ih _ _ hf)
        · replace hf := (if_neg c4).symm.trans hf
          refine mk_aload_n C 0 dX2_reckon_21 rfl ?_
          refine mk_iload_n C 1 dX2_reckon_22 rfl ?_
          refine mk_iload C 5 dX2_reckon_23 rfl ?_
          refine mk_iload_n C 3 dX2_reckon_25 rfl ?_
          refine mk_iload C 4 dX2_reckon_26 rfl ?_
          obtain ⟨uM_5, h6, hf⟩ := b1_some hf
          refine mk_callVv C (c_M_reckonSplit l D cI cJ X Y aM uM_2 p1 v5 p3 p4 uM_5 h6) mw_805 mw_806 mw_807 mw_9 mw_808 mkn_X2_reckonSplit rfl ⟨Nat.le_of_ble_eq_true rfl, Nat.le_of_ble_eq_true rfl⟩ 0 rfl rfl rfl (mk_Fr.all _ _) (Nat.le_of_ble_eq_true rfl) dX2_reckon_28 rfl ?_
          exact mk_lvsub [0, 1, 2, 3, 4, 5] rfl (wL31 _ ih _ _ hf)
  show mk_Go p l e (headSpec (mk_ws yX2_reckon cX2_reckon 6 none) ({ frames := 4, cells := 0, slots := 0, locals := 115 })).room s m args below meth c D A 6 0 0 (MQ below (mk_Q none D (wMeans aM cJ wM) A) args s 0 0 A) 0 (wMeans aM cJ uM) [(0, .ref (aM 0)), (1, .int p1), (2, .int p2), (3, .int p3), (4, .int p4)] []
  unfold f_M_reckon at hf
  refine mk_iconst C (v := 0) dX2_reckon_0 (by decide) ?_
  refine mk_istore C (lv' := [(5, .int 0), (0, .ref (aM 0)), (1, .int p1), (2, .int p2), (3, .int p3), (4, .int p4)]) dX2_reckon_1 (by decide) rfl ?_
  exact mk_lvsub [1, 2, 3, 4, 5, 0] rfl (wL3 600 _ _ hf)
set_option maxHeartbeats 40000000 in
set_option maxRecDepth 100000 in
theorem c_M_place (l : Launch) (D : va_G) (cI cJ : ClassId) (X Y : Nat → Nat) (p0 : Int32) (p1 : Int32) (r : Int32) (hf : f_M_place p0 p1 = some r) : mk_Met l yX2_place cX2_place 2 (some .int) ({ frames := 0, cells := 0, slots := 0, locals := 0 }) D [(cI, .int), (cJ, .long)] X Y [.int p0, .int p1] ([] : va_W) ([] : va_W) (some (.int r)) 0 0 := by
  refine mk_start (own := RX2) (by decide) rfl (Nat.le_of_ble_eq_true rfl) ?_
  intro sz p e s m args below meth c A C hr hlk hnm
  replace C : mk_Cx p s m args c cX2_place 2 RX2 D [(cI, .int), (cJ, .long)] X Y A := C
  show mk_Go p l e (headSpec (mk_ws yX2_place cX2_place 2 (some .int)) ({ frames := 0, cells := 0, slots := 0, locals := 0 })).room s m args below meth c D A 2 0 0 (MQ below (mk_Q (some (.int r)) D ([] : va_W) A) args s 0 0 A) 0 ([] : va_W) [(0, .int p0), (1, .int p1)] []
  unfold f_M_place at hf
  refine mk_iload_n C 0 dX2_place_0 rfl ?_
  refine mk_bipush C (v := 13) dX2_place_1 (by decide) ?_
  refine mk_imul C dX2_place_3 ?_
  refine mk_iload_n C 1 dX2_place_4 rfl ?_
  refine mk_iadd C dX2_place_5 ?_
  have e0 := Option.some.inj hf
  exact mk_iret C hr hlk e0 rfl dX2_place_6
set_option maxHeartbeats 40000000 in
set_option maxRecDepth 100000 in
theorem c_M_bothWays (l : Launch) (D : va_G) (cI cJ : ClassId) (X Y : Nat → Nat) (aM : Nat → Nat) (uM : Nat → Nat → Int64) (p1 : Int32) (p2 : Int32) (p3 : Int32) (r : Int64) (hf : f_M_bothWays uM p1 p2 p3 = some r) : mk_Met l yX2_bothWays cX2_bothWays 7 (some .long) ({ frames := 1, cells := 0, slots := 0, locals := 21 }) D [(cI, .int), (cJ, .long)] X Y [.ref (aM 0), .int p1, .int p2, .int p3] (wMeans aM cJ uM) (wMeans aM cJ uM) (some (.long r)) 0 0 := by
  refine mk_start (own := RX2) (by decide) rfl (Nat.le_of_ble_eq_true rfl) ?_
  intro sz p e s m args below meth c A C hr hlk hnm
  replace C : mk_Cx p s m args c cX2_bothWays 7 RX2 D [(cI, .int), (cJ, .long)] X Y A := C
  have wL6 : ∀ (n : Nat) (v4 : Int64) (v6 : Int32), f_M_bothWays_6 uM p1 p2 p3 n v4 v6 = some r → mk_Go p l e (headSpec (mk_ws yX2_bothWays cX2_bothWays 7 (some .long)) ({ frames := 1, cells := 0, slots := 0, locals := 21 })).room s m args below meth c D A 7 0 0 (MQ below (mk_Q (some (.long r)) D (wMeans aM cJ uM) A) args s 0 0 A) 6 (wMeans aM cJ uM) [(0, .ref (aM 0)), (1, .int p1), (2, .int p2), (3, .int p3), (4, .long v4), (6, .int v6)] [] := by
    intro  n
    induction n with
    | zero => intro v4 v6 hf; exact nomatch (show (none : Option (Int64)) = some _ from hf)
    | succ n ih =>
      intro v4 v6 hf
      rw [f_M_bothWays_6] at hf
      refine mk_iload C 5 dX2_bothWays_6 rfl ?_
      refine mk_iload_n C 3 dX2_bothWays_8 rfl ?_
      refine mk_icmp_ge C 52 dX2_bothWays_9 (by decide) (fun c1 => ?_) (fun c1 => ?_)
      · replace hf := (if_pos c1).symm.trans hf
        refine mk_lload C 4 dX2_bothWays_52 rfl ?_
        have e0 := Option.some.inj hf
        exact mk_lret C hr hlk e0 rfl dX2_bothWays_54
      · replace hf := (if_neg c1).symm.trans hf
        refine mk_lload C 4 dX2_bothWays_12 rfl ?_
        refine mk_aload_n C 0 dX2_bothWays_14 rfl ?_
        refine mk_get C mk_inX2 0 rfl rfl 2 (by decide) mw_325 (v := .ref (aM 3)) rfl dX2_bothWays_15 ?_
        refine mk_iload_n C 1 dX2_bothWays_18 rfl ?_
        refine mk_iload C 5 dX2_bothWays_19 rfl ?_
        obtain ⟨r2, h3, hf⟩ := b1_some hf
        refine mk_callSi C (c_M_place l D cI cJ X Y p1 v6 r2 h3) mw_842 mw_843 mw_9 mw_844 mkn_X2_place rfl ⟨Nat.le_of_ble_eq_true rfl, Nat.le_of_ble_eq_true rfl⟩ (mk_Fr.nil _) (Nat.le_of_ble_eq_true rfl) dX2_bothWays_21 rfl ?_
        refine mk_callNl C (c_atL l D cI cJ X Y (aM 3) 52 (uM 2) r2) (List.mem_of_getElem? (i := 20) rfl) mw_816 mw_1 mw_817 mkn_X8_at_ rfl ⟨Nat.le_of_ble_eq_true rfl, Nat.le_of_ble_eq_true rfl⟩ (mk_Fr.at (q := 3) rfl) (Nat.le_of_ble_eq_true rfl) dX2_bothWays_24 rfl ?_
        refine mk_aload_n C 0 dX2_bothWays_27 rfl ?_
        refine mk_get C mk_inX2 0 rfl rfl 2 (by decide) mw_325 (v := .ref (aM 3)) rfl dX2_bothWays_28 ?_
        refine mk_iload_n C 2 dX2_bothWays_31 rfl ?_
        refine mk_iload_n C 3 dX2_bothWays_32 rfl ?_
        refine mk_iload C 5 dX2_bothWays_33 rfl ?_
        refine mk_isub C dX2_bothWays_35 ?_
        obtain ⟨r4, h5, hf⟩ := b1_some hf
        refine mk_callSi C (c_M_place l D cI cJ X Y p2 (p3 - v6) r4 h5) mw_842 mw_843 mw_9 mw_844 mkn_X2_place rfl ⟨Nat.le_of_ble_eq_true rfl, Nat.le_of_ble_eq_true rfl⟩ (mk_Fr.nil _) (Nat.le_of_ble_eq_true rfl) dX2_bothWays_36 rfl ?_
        refine mk_callNl C (c_atL l D cI cJ X Y (aM 3) 52 (uM 2) r4) (List.mem_of_getElem? (i := 20) rfl) mw_816 mw_1 mw_817 mkn_X8_at_ rfl ⟨Nat.le_of_ble_eq_true rfl, Nat.le_of_ble_eq_true rfl⟩ (mk_Fr.at (q := 3) rfl) (Nat.le_of_ble_eq_true rfl) dX2_bothWays_39 rfl ?_
        refine mk_lmul C dX2_bothWays_42 ?_
        refine mk_ladd C dX2_bothWays_43 ?_
        refine mk_lstore C (lv' := [(4, .long (v4 + ((mkAtL 52 (uM 2) r2) * (mkAtL 52 (uM 2) r4)))), (0, .ref (aM 0)), (1, .int p1), (2, .int p2), (3, .int p3), (6, .int v6)]) dX2_bothWays_44 (by decide) rfl ?_
        refine mk_iinc C (v := (v6 + 1)) (lv' := [(6, .int (v6 + 1)), (4, .long (v4 + ((mkAtL 52 (uM 2) r2) * (mkAtL 52 (uM 2) r4)))), (0, .ref (aM 0)), (1, .int p1), (2, .int p2), (3, .int p3)]) 5 dX2_bothWays_46 rfl rfl (by decide) rfl ?_
        refine mk_goto C 6 dX2_bothWays_49 (by decide) ?_
        exact mk_lvsub [2, 3, 4, 5, 1, 0] rfl (ih _ _ hf)
  show mk_Go p l e (headSpec (mk_ws yX2_bothWays cX2_bothWays 7 (some .long)) ({ frames := 1, cells := 0, slots := 0, locals := 21 })).room s m args below meth c D A 7 0 0 (MQ below (mk_Q (some (.long r)) D (wMeans aM cJ uM) A) args s 0 0 A) 0 (wMeans aM cJ uM) [(0, .ref (aM 0)), (1, .int p1), (2, .int p2), (3, .int p3)] []
  unfold f_M_bothWays at hf
  refine mk_lconst C (v := 0) dX2_bothWays_0 (by decide) ?_
  refine mk_lstore C (lv' := [(4, .long 0), (0, .ref (aM 0)), (1, .int p1), (2, .int p2), (3, .int p3)]) dX2_bothWays_1 (by decide) rfl ?_
  refine mk_iconst C (v := 1) dX2_bothWays_3 (by decide) ?_
  refine mk_istore C (lv' := [(6, .int 1), (4, .long 0), (0, .ref (aM 0)), (1, .int p1), (2, .int p2), (3, .int p3)]) dX2_bothWays_4 (by decide) rfl ?_
  exact mk_lvsub [2, 3, 4, 5, 1, 0] rfl (wL6 600 _ _ hf)
set_option maxHeartbeats 40000000 in
set_option maxRecDepth 100000 in
theorem c_M_splitWays (l : Launch) (D : va_G) (cI cJ : ClassId) (X Y : Nat → Nat) (aM : Nat → Nat) (uM : Nat → Nat → Int64) (p1 : Int32) (p2 : Int32) (p3 : Int32) (r : Int64) (hf : f_M_splitWays uM p1 p2 p3 = some r) : mk_Met l yX2_splitWays cX2_splitWays 8 (some .long) ({ frames := 2, cells := 0, slots := 0, locals := 47 }) D [(cI, .int), (cJ, .long)] X Y [.ref (aM 0), .int p1, .int p2, .int p3] (wMeans aM cJ uM) (wMeans aM cJ uM) (some (.long r)) 0 0 := by
  refine mk_start (own := RX2) (by decide) rfl (Nat.le_of_ble_eq_true rfl) ?_
  intro sz p e s m args below meth c A C hr hlk hnm
  replace C : mk_Cx p s m args c cX2_splitWays 8 RX2 D [(cI, .int), (cJ, .long)] X Y A := C
  have wL27 : ∀ (k6 : Int64 → Int32 → Option (Int64)), (∀ (v4 : Int64) (v6 : Int32), k6 v4 v6 = some r → mk_Go p l e (headSpec (mk_ws yX2_splitWays cX2_splitWays 8 (some .long)) ({ frames := 2, cells := 0, slots := 0, locals := 47 })).room s m args below meth c D A 8 0 0 (MQ below (mk_Q (some (.long r)) D (wMeans aM cJ uM) A) args s 0 0 A) 6 (wMeans aM cJ uM) [(0, .ref (aM 0)), (1, .int p1), (2, .int p2), (3, .int p3), (4, .long v4), (6, .int v6)] []) → ∀ (v4 : Int64) (v6 : Int32) (t0 : Int32), f_M_splitWays_27 uM p1 p2 p3 k6 v4 v6 t0 = some r → mk_Go p l e (headSpec (mk_ws yX2_splitWays cX2_splitWays 8 (some .long)) ({ frames := 2, cells := 0, slots := 0, locals := 47 })).room s m args below meth c D A 8 0 0 (MQ below (mk_Q (some (.long r)) D (wMeans aM cJ uM) A) args s 0 0 A) 27 (wMeans aM cJ uM) [(0, .ref (aM 0)), (1, .int p1), (2, .int p2), (3, .int p3), (4, .long v4), (6, .int v6)] [.int t0] := by
    intro k6 hk6 v4 v6 t0 hf
    unfold f_M_splitWays_27 at hf
    refine mk_istore C (lv' := [(7, .int t0), (0, .ref (aM 0)), (1, .int p1), (2, .int p2), (3, .int p3), (4, .long v4), (6, .int v6)]) dX2_splitWays_27 (by decide) rfl ?_
    refine mk_lload C 5 dX2_splitWays_29 rfl ?_
    refine mk_iload_n C 3 dX2_splitWays_31 rfl ?_
    refine mk_iload C 6 dX2_splitWays_32 rfl ?_
    obtain ⟨r1, h2, hf⟩ := b1_some hf
    refine mk_callSl C (c_M_choose l D cI cJ X Y p2 v6 r1 h2) mw_812 mw_813 mw_9 mw_814 mkn_X2_choose rfl ⟨Nat.le_of_ble_eq_true rfl, Nat.le_of_ble_eq_true rfl⟩ (mk_Fr.nil _) (Nat.le_of_ble_eq_true rfl) dX2_splitWays_34 rfl ?_
    refine mk_iload C 0 dX2_splitWays_37 rfl ?_
    refine mk_if_eq C 59 dX2_splitWays_39 (by decide) (fun c3 => ?_) (fun c3 => ?_)
    · replace hf := (if_pos c3).symm.trans hf
      refine mk_aload_n C 1 dX2_splitWays_59 rfl ?_
      refine mk_iload C 6 dX2_splitWays_60 rfl ?_
      refine mk_iload_n C 3 dX2_splitWays_62 rfl ?_
      refine mk_iload C 6 dX2_splitWays_63 rfl ?_
      refine mk_isub C dX2_splitWays_65 ?_
      refine mk_iload_n C 4 dX2_splitWays_66 rfl ?_
      refine mk_iconst C (v := 1) dX2_splitWays_67 (by decide) ?_
      refine mk_isub C dX2_splitWays_68 ?_
      obtain ⟨r4, h5, hf⟩ := b1_some hf
      refine mk_callVl C (c_M_bothWays l D cI cJ X Y aM uM v6 (p2 - v6) (p3 - 1) r4 h5) mw_849 mw_850 mw_851 mw_9 mw_852 mkn_X2_bothWays rfl ⟨Nat.le_of_ble_eq_true rfl, Nat.le_of_ble_eq_true rfl⟩ 0 rfl rfl rfl (mk_Fr.all _ _) (Nat.le_of_ble_eq_true rfl) dX2_splitWays_69 rfl ?_
      refine mk_lmul C dX2_splitWays_72 ?_
      refine mk_ladd C dX2_splitWays_73 ?_
      refine mk_lstore C (lv' := [(4, .long (v4 + (r1 * r4))), (7, .int t0), (0, .ref (aM 0)), (1, .int p1), (2, .int p2), (3, .int p3), (6, .int v6)]) dX2_splitWays_74 (by decide) rfl ?_
      refine mk_iinc C (v := (v6 + 1)) (lv' := [(6, .int (v6 + 1)), (4, .long (v4 + (r1 * r4))), (7, .int t0), (0, .ref (aM 0)), (1, .int p1), (2, .int p2), (3, .int p3)]) 6 dX2_splitWays_76 rfl rfl (by decide) rfl ?_
      refine mk_goto C 6 dX2_splitWays_79 (by decide) ?_
      exact mk_lvsub [3, 4, 5, 6, 1, 0] rfl (hk6 _ _ hf)
    · replace hf := (if_neg c3).symm.trans hf
      refine mk_aload_n C 1 dX2_splitWays_42 rfl ?_
      refine mk_get C mk_inX2 0 rfl rfl 2 (by decide) mw_325 (v := .ref (aM 3)) rfl dX2_splitWays_43 ?_
      refine mk_iload_n C 3 dX2_splitWays_46 rfl ?_
      refine mk_iload_n C 4 dX2_splitWays_47 rfl ?_
      refine mk_iconst C (v := 1) dX2_splitWays_48 (by decide) ?_
      refine mk_isub C dX2_splitWays_49 ?_
      obtain ⟨r6, h7, hf⟩ := b1_some hf
      refine mk_callSi C (c_M_place l D cI cJ X Y p2 (p3 - 1) r6 h7) mw_842 mw_843 mw_9 mw_844 mkn_X2_place rfl ⟨Nat.le_of_ble_eq_true rfl, Nat.le_of_ble_eq_true rfl⟩ (mk_Fr.nil _) (Nat.le_of_ble_eq_true rfl) dX2_splitWays_50 rfl ?_
      refine mk_callNl C (c_atL l D cI cJ X Y (aM 3) 52 (uM 2) r6) (List.mem_of_getElem? (i := 20) rfl) mw_816 mw_1 mw_817 mkn_X8_at_ rfl ⟨Nat.le_of_ble_eq_true rfl, Nat.le_of_ble_eq_true rfl⟩ (mk_Fr.at (q := 3) rfl) (Nat.le_of_ble_eq_true rfl) dX2_splitWays_53 rfl ?_
      refine mk_goto C 72 dX2_splitWays_56 (by decide) ?_
      refine mk_lmul C dX2_splitWays_72 ?_
      refine mk_ladd C dX2_splitWays_73 ?_
      refine mk_lstore C (lv' := [(4, .long (v4 + (r1 * (mkAtL 52 (uM 2) r6)))), (7, .int t0), (0, .ref (aM 0)), (1, .int p1), (2, .int p2), (3, .int p3), (6, .int v6)]) dX2_splitWays_74 (by decide) rfl ?_
      refine mk_iinc C (v := (v6 + 1)) (lv' := [(6, .int (v6 + 1)), (4, .long (v4 + (r1 * (mkAtL 52 (uM 2) r6)))), (7, .int t0), (0, .ref (aM 0)), (1, .int p1), (2, .int p2), (3, .int p3)]) 6 dX2_splitWays_76 rfl rfl (by decide) rfl ?_
      refine mk_goto C 6 dX2_splitWays_79 (by decide) ?_
      exact mk_lvsub [3, 4, 5, 6, 1, 0] rfl (hk6 _ _ hf)
  have wL26 : ∀ (k6 : Int64 → Int32 → Option (Int64)), (∀ (v4 : Int64) (v6 : Int32), k6 v4 v6 = some r → mk_Go p l e (headSpec (mk_ws yX2_splitWays cX2_splitWays 8 (some .long)) ({ frames := 2, cells := 0, slots := 0, locals := 47 })).room s m args below meth c D A 8 0 0 (MQ below (mk_Q (some (.long r)) D (wMeans aM cJ uM) A) args s 0 0 A) 6 (wMeans aM cJ uM) [(0, .ref (aM 0)), (1, .int p1), (2, .int p2), (3, .int p3), (4, .long v4), (6, .int v6)] []) → ∀ (v4 : Int64) (v6 : Int32), f_M_splitWays_26 uM p1 p2 p3 k6 v4 v6 = some r → mk_Go p l e (headSpec (mk_ws yX2_splitWays cX2_splitWays 8 (some .long)) ({ frames := 2, cells := 0, slots := 0, locals := 47 })).room s m args below meth c D A 8 0 0 (MQ below (mk_Q (some (.long r)) D (wMeans aM cJ uM) A) args s 0 0 A) 26 (wMeans aM cJ uM) [(0, .ref (aM 0)), (1, .int p1), (2, .int p2), (3, .int p3), (4, .long v4), (6, .int v6)] [] := by
    intro k6 hk6 v4 v6 hf
    unfold f_M_splitWays_26 at hf
    refine mk_iconst C (v := 0) dX2_splitWays_26 (by decide) ?_
    exact mk_lvsub [0, 1, 2, 3, 4, 5] rfl (wL27 _ hk6 _ _ _ hf)
  have wL6 : ∀ (n : Nat) (v4 : Int64) (v6 : Int32), f_M_splitWays_6 uM p1 p2 p3 n v4 v6 = some r → mk_Go p l e (headSpec (mk_ws yX2_splitWays cX2_splitWays 8 (some .long)) ({ frames := 2, cells := 0, slots := 0, locals := 47 })).room s m args below meth c D A 8 0 0 (MQ below (mk_Q (some (.long r)) D (wMeans aM cJ uM) A) args s 0 0 A) 6 (wMeans aM cJ uM) [(0, .ref (aM 0)), (1, .int p1), (2, .int p2), (3, .int p3), (4, .long v4), (6, .int v6)] [] := by
    intro  n
    induction n with
    | zero => intro v4 v6 hf; exact nomatch (show (none : Option (Int64)) = some _ from hf)
    | succ n ih =>
      intro v4 v6 hf
      rw [f_M_splitWays_6] at hf
      refine mk_iload C 5 dX2_splitWays_6 rfl ?_
      refine mk_iload_n C 2 dX2_splitWays_8 rfl ?_
      refine mk_icmp_gt C 82 dX2_splitWays_9 (by decide) (fun c8 => ?_) (fun c8 => ?_)
      · replace hf := (if_pos c8).symm.trans hf
        refine mk_lload C 4 dX2_splitWays_82 rfl ?_
        refine mk_ldc2 C (v := 2) mw_853 dX2_splitWays_84 ?_
        refine mk_iconst C (v := 3) dX2_splitWays_87 (by decide) ?_
        refine mk_iload_n C 2 dX2_splitWays_88 rfl ?_
        refine mk_isub C dX2_splitWays_89 ?_
        obtain ⟨r9, h10, hf⟩ := b1_some hf
        refine mk_callSl C (c_M_power l D cI cJ X Y 2 (3 - p2) r9 h10) mw_809 mw_810 mw_9 mw_811 mkn_X2_power rfl ⟨Nat.le_of_ble_eq_true rfl, Nat.le_of_ble_eq_true rfl⟩ (mk_Fr.nil _) (Nat.le_of_ble_eq_true rfl) dX2_splitWays_90 rfl ?_
        refine mk_lmul C dX2_splitWays_93 ?_
        have e0 := Option.some.inj hf
        exact mk_lret C hr hlk e0 rfl dX2_splitWays_94
      · replace hf := (if_neg c8).symm.trans hf
        refine mk_iload C 5 dX2_splitWays_12 rfl ?_
        refine mk_if_ne C 26 dX2_splitWays_14 (by decide) (fun c11 => ?_) (fun c11 => ?_)
        · replace hf := (if_neg c11).symm.trans hf
          exact mk_lvsub [0, 1, 2, 3, 4, 5] rfl (wL26 _ ih _ _ hf)
        · replace hf := (if_pos c11).symm.trans hf
          refine mk_iload_n C 1 dX2_splitWays_17 rfl ?_
          refine mk_iconst C (v := 1) dX2_splitWays_18 (by decide) ?_
          refine mk_icmp_ne C 26 dX2_splitWays_19 (by decide) (fun c12 => ?_) (fun c12 => ?_)
          · replace hf := (if_neg c12).symm.trans hf
            exact mk_lvsub [0, 1, 2, 3, 4, 5] rfl (wL26 _ ih _ _ hf)
          · replace hf := (if_pos c12).symm.trans hf
            refine mk_iconst C (v := 1) dX2_splitWays_22 (by decide) ?_
            refine mk_goto C 27 dX2_splitWays_23 (by decide) ?_
            exact mk_lvsub [0, 1, 2, 3, 4, 5] rfl (wL27 _ ih _ _ _ hf)
  show mk_Go p l e (headSpec (mk_ws yX2_splitWays cX2_splitWays 8 (some .long)) ({ frames := 2, cells := 0, slots := 0, locals := 47 })).room s m args below meth c D A 8 0 0 (MQ below (mk_Q (some (.long r)) D (wMeans aM cJ uM) A) args s 0 0 A) 0 (wMeans aM cJ uM) [(0, .ref (aM 0)), (1, .int p1), (2, .int p2), (3, .int p3)] []
  unfold f_M_splitWays at hf
  refine mk_lconst C (v := 0) dX2_splitWays_0 (by decide) ?_
  refine mk_lstore C (lv' := [(4, .long 0), (0, .ref (aM 0)), (1, .int p1), (2, .int p2), (3, .int p3)]) dX2_splitWays_1 (by decide) rfl ?_
  refine mk_iconst C (v := 0) dX2_splitWays_3 (by decide) ?_
  refine mk_istore C (lv' := [(6, .int 0), (4, .long 0), (0, .ref (aM 0)), (1, .int p1), (2, .int p2), (3, .int p3)]) dX2_splitWays_4 (by decide) rfl ?_
  exact mk_lvsub [2, 3, 4, 5, 1, 0] rfl (wL6 600 _ _ hf)
set_option maxHeartbeats 40000000 in
set_option maxRecDepth 100000 in
theorem c_M_reckonChance (l : Launch) (D : va_G) (cI cJ : ClassId) (X Y : Nat → Nat) (aM : Nat → Nat) (uM : Nat → Nat → Int64) (p1 : Int32) (p2 : Int32) (p3 : Int32) (wM : Nat → Nat → Int64) (hf : f_M_reckonChance uM p1 p2 p3 = some wM) : mk_Met l yX2_reckonChance cX2_reckonChance 8 none ({ frames := 3, cells := 0, slots := 0, locals := 74 }) D [(cI, .int), (cJ, .long)] X Y [.ref (aM 0), .int p1, .int p2, .int p3] (wMeans aM cJ uM) (wMeans aM cJ wM) none 0 0 := by
  refine mk_start (own := RX2) (by decide) rfl (Nat.le_of_ble_eq_true rfl) ?_
  intro sz p e s m args below meth c A C hr hlk hnm
  replace C : mk_Cx p s m args c cX2_reckonChance 8 RX2 D [(cI, .int), (cJ, .long)] X Y A := C
  have wL72 : ∀ (k11 : Int32 → (Nat → Nat → Int64) → Option ((Nat → Nat → Int64))), (∀ (v4 : Int32) (uM : Nat → Nat → Int64), k11 v4 uM = some wM → mk_Go p l e (headSpec (mk_ws yX2_reckonChance cX2_reckonChance 8 none) ({ frames := 3, cells := 0, slots := 0, locals := 74 })).room s m args below meth c D A 8 0 0 (MQ below (mk_Q none D (wMeans aM cJ wM) A) args s 0 0 A) 11 (wMeans aM cJ uM) [(0, .ref (aM 0)), (1, .int p1), (2, .int p2), (3, .int p3), (4, .int v4)] []) → ∀ (k20 : Int32 → Int32 → (Nat → Nat → Int64) → Option ((Nat → Nat → Int64))), (∀ (v4 : Int32) (v5 : Int32) (uM : Nat → Nat → Int64), k20 v4 v5 uM = some wM → mk_Go p l e (headSpec (mk_ws yX2_reckonChance cX2_reckonChance 8 none) ({ frames := 3, cells := 0, slots := 0, locals := 74 })).room s m args below meth c D A 8 0 0 (MQ below (mk_Q none D (wMeans aM cJ wM) A) args s 0 0 A) 20 (wMeans aM cJ uM) [(0, .ref (aM 0)), (1, .int p1), (2, .int p2), (3, .int p3), (4, .int v4), (5, .int v5)] []) → ∀ (v4 : Int32) (v5 : Int32) (t1 : Int32) (t2 : Int64) (uM : Nat → Nat → Int64), f_M_reckonChance_72 p1 p2 p3 k11 k20 v4 v5 t1 t2 uM = some wM → mk_Go p l e (headSpec (mk_ws yX2_reckonChance cX2_reckonChance 8 none) ({ frames := 3, cells := 0, slots := 0, locals := 74 })).room s m args below meth c D A 8 0 0 (MQ below (mk_Q none D (wMeans aM cJ wM) A) args s 0 0 A) 72 (wMeans aM cJ uM) [(0, .ref (aM 0)), (1, .int p1), (2, .int p2), (3, .int p3), (4, .int v4), (5, .int v5)] [.long t2, .int t1, .ref (aM 3)] := by
    intro k11 hk11 k20 hk20 v4 v5 t1 t2 uM hf
    unfold f_M_reckonChance_72 at hf
    refine mk_callNv C (c_putL l D cI cJ X Y (aM 3) 52 (uM 2) t1 t2) (List.mem_of_getElem? (i := 21) rfl) mw_823 mw_1 mw_824 mkn_X8_put_ rfl ⟨Nat.le_of_ble_eq_true rfl, Nat.le_of_ble_eq_true rfl⟩ (mk_Fr.put (q := 3) (ws' := (wMeans aM cJ (upR 2 (mkPutL 52 (uM 2) t1 t2) uM))) rfl (st_M_M_2 cI cJ aM uM (mkPutL 52 (uM 2) t1 t2))) (Nat.le_of_ble_eq_true rfl) dX2_reckonChance_72 rfl ?_
    refine mk_iinc C (v := (v5 + 1)) (lv' := [(5, .int (v5 + 1)), (0, .ref (aM 0)), (1, .int p1), (2, .int p2), (3, .int p3), (4, .int v4)]) 5 dX2_reckonChance_75 rfl rfl (by decide) rfl ?_
    refine mk_goto C 20 dX2_reckonChance_78 (by decide) ?_
    exact mk_lvsub [1, 2, 3, 4, 5, 0] rfl (hk20 _ _ _ hf)
  have wL39 : ∀ (k11 : Int32 → (Nat → Nat → Int64) → Option ((Nat → Nat → Int64))), (∀ (v4 : Int32) (uM : Nat → Nat → Int64), k11 v4 uM = some wM → mk_Go p l e (headSpec (mk_ws yX2_reckonChance cX2_reckonChance 8 none) ({ frames := 3, cells := 0, slots := 0, locals := 74 })).room s m args below meth c D A 8 0 0 (MQ below (mk_Q none D (wMeans aM cJ wM) A) args s 0 0 A) 11 (wMeans aM cJ uM) [(0, .ref (aM 0)), (1, .int p1), (2, .int p2), (3, .int p3), (4, .int v4)] []) → ∀ (k20 : Int32 → Int32 → (Nat → Nat → Int64) → Option ((Nat → Nat → Int64))), (∀ (v4 : Int32) (v5 : Int32) (uM : Nat → Nat → Int64), k20 v4 v5 uM = some wM → mk_Go p l e (headSpec (mk_ws yX2_reckonChance cX2_reckonChance 8 none) ({ frames := 3, cells := 0, slots := 0, locals := 74 })).room s m args below meth c D A 8 0 0 (MQ below (mk_Q none D (wMeans aM cJ wM) A) args s 0 0 A) 20 (wMeans aM cJ uM) [(0, .ref (aM 0)), (1, .int p1), (2, .int p2), (3, .int p3), (4, .int v4), (5, .int v5)] []) → ∀ (v4 : Int32) (v5 : Int32) (t0 : Int64) (uM : Nat → Nat → Int64), f_M_reckonChance_39 p1 p2 p3 k11 k20 v4 v5 t0 uM = some wM → mk_Go p l e (headSpec (mk_ws yX2_reckonChance cX2_reckonChance 8 none) ({ frames := 3, cells := 0, slots := 0, locals := 74 })).room s m args below meth c D A 8 0 0 (MQ below (mk_Q none D (wMeans aM cJ wM) A) args s 0 0 A) 39 (wMeans aM cJ uM) [(0, .ref (aM 0)), (1, .int p1), (2, .int p2), (3, .int p3), (4, .int v4), (5, .int v5)] [.long t0] := by
    intro k11 hk11 k20 hk20 v4 v5 t0 uM hf
    unfold f_M_reckonChance_39 at hf
    refine mk_lstore C (lv' := [(6, .long t0), (0, .ref (aM 0)), (1, .int p1), (2, .int p2), (3, .int p3), (4, .int v4), (5, .int v5)]) dX2_reckonChance_39 (by decide) rfl ?_
    refine mk_aload_n C 1 dX2_reckonChance_41 rfl ?_
    refine mk_get C mk_inX2 0 rfl rfl 2 (by decide) mw_325 (v := .ref (aM 3)) rfl dX2_reckonChance_42 ?_
    refine mk_iload C 5 dX2_reckonChance_45 rfl ?_
    refine mk_iload C 6 dX2_reckonChance_47 rfl ?_
    obtain ⟨r1, h2, hf⟩ := b1_some hf
    refine mk_callSi C (c_M_place l D cI cJ X Y v4 v5 r1 h2) mw_842 mw_843 mw_9 mw_844 mkn_X2_place rfl ⟨Nat.le_of_ble_eq_true rfl, Nat.le_of_ble_eq_true rfl⟩ (mk_Fr.nil _) (Nat.le_of_ble_eq_true rfl) dX2_reckonChance_49 rfl ?_
    refine mk_iload C 5 dX2_reckonChance_52 rfl ?_
    refine mk_iconst C (v := 2) dX2_reckonChance_54 (by decide) ?_
    refine mk_icmp_ge C 63 dX2_reckonChance_55 (by decide) (fun c3 => ?_) (fun c3 => ?_)
    · replace hf := (if_pos c3).symm.trans hf
      refine mk_aload_n C 1 dX2_reckonChance_63 rfl ?_
      refine mk_iload_n C 2 dX2_reckonChance_64 rfl ?_
      refine mk_iload C 5 dX2_reckonChance_65 rfl ?_
      refine mk_iload C 6 dX2_reckonChance_67 rfl ?_
      obtain ⟨r4, h5, hf⟩ := b1_some hf
      refine mk_callVl C (c_M_splitWays l D cI cJ X Y aM uM p1 v4 v5 r4 h5) mw_845 mw_846 mw_847 mw_9 mw_848 mkn_X2_splitWays rfl ⟨Nat.le_of_ble_eq_true rfl, Nat.le_of_ble_eq_true rfl⟩ 0 rfl rfl rfl (mk_Fr.all _ _) (Nat.le_of_ble_eq_true rfl) dX2_reckonChance_69 rfl ?_
      exact mk_lvsub [1, 2, 3, 4, 5, 6] rfl (wL72 _ hk11 _ hk20 _ _ _ _ _ hf)
    · replace hf := (if_neg c3).symm.trans hf
      refine mk_lload C 0 dX2_reckonChance_58 rfl ?_
      refine mk_goto C 72 dX2_reckonChance_60 (by decide) ?_
      exact mk_lvsub [1, 2, 3, 4, 5, 6] rfl (wL72 _ hk11 _ hk20 _ _ _ _ _ hf)
  have wL20 : ∀ (k11 : Int32 → (Nat → Nat → Int64) → Option ((Nat → Nat → Int64))), (∀ (v4 : Int32) (uM : Nat → Nat → Int64), k11 v4 uM = some wM → mk_Go p l e (headSpec (mk_ws yX2_reckonChance cX2_reckonChance 8 none) ({ frames := 3, cells := 0, slots := 0, locals := 74 })).room s m args below meth c D A 8 0 0 (MQ below (mk_Q none D (wMeans aM cJ wM) A) args s 0 0 A) 11 (wMeans aM cJ uM) [(0, .ref (aM 0)), (1, .int p1), (2, .int p2), (3, .int p3), (4, .int v4)] []) → ∀ (n : Nat) (v4 : Int32) (v5 : Int32) (uM : Nat → Nat → Int64), f_M_reckonChance_20 p1 p2 p3 k11 n v4 v5 uM = some wM → mk_Go p l e (headSpec (mk_ws yX2_reckonChance cX2_reckonChance 8 none) ({ frames := 3, cells := 0, slots := 0, locals := 74 })).room s m args below meth c D A 8 0 0 (MQ below (mk_Q none D (wMeans aM cJ wM) A) args s 0 0 A) 20 (wMeans aM cJ uM) [(0, .ref (aM 0)), (1, .int p1), (2, .int p2), (3, .int p3), (4, .int v4), (5, .int v5)] [] := by
    intro k11 hk11 n
    induction n with
    | zero => intro v4 v5 uM hf; exact nomatch (show (none : Option ((Nat → Nat → Int64))) = some _ from hf)
    | succ n ih =>
      intro v4 v5 uM hf
      rw [f_M_reckonChance_20] at hf
      refine mk_iload C 5 dX2_reckonChance_20 rfl ?_
      refine mk_iload_n C 3 dX2_reckonChance_22 rfl ?_
      refine mk_icmp_gt C 81 dX2_reckonChance_23 (by decide) (fun c6 => ?_) (fun c6 => ?_)
      · replace hf := (if_pos c6).symm.trans hf
        refine mk_iinc C (v := (v4 + 1)) (lv' := [(4, .int (v4 + 1)), (0, .ref (aM 0)), (1, .int p1), (2, .int p2), (3, .int p3), (5, .int v5)]) 4 dX2_reckonChance_81 rfl rfl (by decide) rfl ?_
        refine mk_goto C 11 dX2_reckonChance_84 (by decide) ?_
        exact mk_lvsub [1, 2, 3, 4, 0] rfl (hk11 _ _ hf)
      · replace hf := (if_neg c6).symm.trans hf
        refine mk_iload C 5 dX2_reckonChance_26 rfl ?_
        refine mk_iconst C (v := 1) dX2_reckonChance_28 (by decide) ?_
        refine mk_icmp_ne C 38 dX2_reckonChance_29 (by decide) (fun c7 => ?_) (fun c7 => ?_)
        · replace hf := (if_neg c7).symm.trans hf
          refine mk_lconst C (v := 0) dX2_reckonChance_38 (by decide) ?_
          exact mk_lvsub [0, 1, 2, 3, 4, 5] rfl (wL39 _ hk11 _ ih _ _ _ _ hf)
        · replace hf := (if_pos c7).symm.trans hf
          refine mk_ldc2 C (v := 8) mw_841 dX2_reckonChance_32 ?_
          refine mk_goto C 39 dX2_reckonChance_35 (by decide) ?_
          exact mk_lvsub [0, 1, 2, 3, 4, 5] rfl (wL39 _ hk11 _ ih _ _ _ _ hf)
  have wL11 : ∀ (n : Nat) (v4 : Int32) (uM : Nat → Nat → Int64), f_M_reckonChance_11 p1 p2 p3 n v4 uM = some wM → mk_Go p l e (headSpec (mk_ws yX2_reckonChance cX2_reckonChance 8 none) ({ frames := 3, cells := 0, slots := 0, locals := 74 })).room s m args below meth c D A 8 0 0 (MQ below (mk_Q none D (wMeans aM cJ wM) A) args s 0 0 A) 11 (wMeans aM cJ uM) [(0, .ref (aM 0)), (1, .int p1), (2, .int p2), (3, .int p3), (4, .int v4)] [] := by
    intro  n
    induction n with
    | zero => intro v4 uM hf; exact nomatch (show (none : Option ((Nat → Nat → Int64))) = some _ from hf)
    | succ n ih =>
      intro v4 uM hf
      rw [f_M_reckonChance_11] at hf
      refine mk_iload C 4 dX2_reckonChance_11 rfl ?_
      refine mk_iload_n C 2 dX2_reckonChance_13 rfl ?_
      refine mk_icmp_gt C 87 dX2_reckonChance_14 (by decide) (fun c8 => ?_) (fun c8 => ?_)
      · replace hf := (if_pos c8).symm.trans hf
        refine mk_aload_n C 0 dX2_reckonChance_87 rfl ?_
        refine mk_aload_n C 0 dX2_reckonChance_88 rfl ?_
        refine mk_get C mk_inX2 0 rfl rfl 2 (by decide) mw_325 (v := .ref (aM 3)) rfl dX2_reckonChance_89 ?_
        refine mk_iload_n C 2 dX2_reckonChance_92 rfl ?_
        refine mk_iload_n C 3 dX2_reckonChance_93 rfl ?_
        obtain ⟨r9, h10, hf⟩ := b1_some hf
        refine mk_callSi C (c_M_place l D cI cJ X Y p2 p3 r9 h10) mw_842 mw_843 mw_9 mw_844 mkn_X2_place rfl ⟨Nat.le_of_ble_eq_true rfl, Nat.le_of_ble_eq_true rfl⟩ (mk_Fr.nil _) (Nat.le_of_ble_eq_true rfl) dX2_reckonChance_94 rfl ?_
        refine mk_callNl C (c_atL l D cI cJ X Y (aM 3) 52 (uM 2) r9) (List.mem_of_getElem? (i := 20) rfl) mw_816 mw_1 mw_817 mkn_X8_at_ rfl ⟨Nat.le_of_ble_eq_true rfl, Nat.le_of_ble_eq_true rfl⟩ (mk_Fr.at (q := 3) rfl) (Nat.le_of_ble_eq_true rfl) dX2_reckonChance_97 rfl ?_
        refine mk_ldc2 C (v := 8) mw_841 dX2_reckonChance_100 ?_
        refine mk_iload_n C 3 dX2_reckonChance_103 rfl ?_
        obtain ⟨r11, h12, hf⟩ := b1_some hf
        refine mk_callSl C (c_M_power l D cI cJ X Y 8 p3 r11 h12) mw_809 mw_810 mw_9 mw_811 mkn_X2_power rfl ⟨Nat.le_of_ble_eq_true rfl, Nat.le_of_ble_eq_true rfl⟩ (mk_Fr.nil _) (Nat.le_of_ble_eq_true rfl) dX2_reckonChance_104 rfl ?_
        obtain ⟨uM_13, h14, hf⟩ := b1_some hf
        refine mk_callVv C (c_M_set l D cI cJ X Y aM uM (mkAtL 52 (uM 2) r9) r11 uM_13 h14) mw_798 mw_799 mw_800 mw_9 mw_801 mkn_X2_set rfl ⟨Nat.le_of_ble_eq_true rfl, Nat.le_of_ble_eq_true rfl⟩ 0 rfl rfl rfl (mk_Fr.all _ _) (Nat.le_of_ble_eq_true rfl) dX2_reckonChance_107 rfl ?_
        have e0 := Option.some.inj hf
        exact mk_vret C hr hlk (by rw [← e0]) dX2_reckonChance_110
      · replace hf := (if_neg c8).symm.trans hf
        refine mk_iconst C (v := 1) dX2_reckonChance_17 (by decide) ?_
        refine mk_istore C (lv' := [(5, .int 1), (0, .ref (aM 0)), (1, .int p1), (2, .int p2), (3, .int p3), (4, .int v4)]) dX2_reckonChance_18 (by decide) rfl ?_
        exact mk_lvsub [1, 2, 3, 4, 5, 0] rfl (wL20 _ ih 600 _ _ _ hf)
  show mk_Go p l e (headSpec (mk_ws yX2_reckonChance cX2_reckonChance 8 none) ({ frames := 3, cells := 0, slots := 0, locals := 74 })).room s m args below meth c D A 8 0 0 (MQ below (mk_Q none D (wMeans aM cJ wM) A) args s 0 0 A) 0 (wMeans aM cJ uM) [(0, .ref (aM 0)), (1, .int p1), (2, .int p2), (3, .int p3)] []
  unfold f_M_reckonChance at hf
  refine mk_aload_n C 0 dX2_reckonChance_0 rfl ?_
  refine mk_get C mk_inX2 0 rfl rfl 2 (by decide) mw_325 (v := .ref (aM 3)) rfl dX2_reckonChance_1 ?_
  refine mk_lconst C (v := 0) dX2_reckonChance_4 (by decide) ?_
  refine mk_callSv C (c_fillL l D cI cJ X Y (aM 3) 52 (uM 2) 0 (by decide)) mw_838 mw_839 mw_15 mw_840 mkn_J7_fill_d0a16 rfl ⟨Nat.le_of_ble_eq_true rfl, Nat.le_of_ble_eq_true rfl⟩ (mk_Fr.put (q := 3) (ws' := (wMeans aM cJ (upR 2 (mkFill 52 (uM 2) 0) uM))) rfl (st_M_M_2 cI cJ aM uM (mkFill 52 (uM 2) 0))) (Nat.le_of_ble_eq_true rfl) dX2_reckonChance_5 rfl ?_
  refine mk_iconst C (v := 0) dX2_reckonChance_8 (by decide) ?_
  refine mk_istore C (lv' := [(4, .int 0), (0, .ref (aM 0)), (1, .int p1), (2, .int p2), (3, .int p3)]) dX2_reckonChance_9 (by decide) rfl ?_
  exact mk_lvsub [1, 2, 3, 4, 0] rfl (wL11 600 _ _ hf)
set_option maxHeartbeats 40000000 in
set_option maxRecDepth 100000 in
theorem c_M_bestCount (l : Launch) (D : va_G) (cI cJ : ClassId) (X Y : Nat → Nat) (aM : Nat → Nat) (uM : Nat → Nat → Int64) (p1 : Int32) (r : Int32) (wM : Nat → Nat → Int64) (hf : f_M_bestCount uM p1 = some (r, wM)) : mk_Met l yX2_bestCount cX2_bestCount 4 (some .int) ({ frames := 5, cells := 0, slots := 0, locals := 140 }) D [(cI, .int), (cJ, .long)] X Y [.ref (aM 0), .int p1] (wMeans aM cJ uM) (wMeans aM cJ wM) (some (.int r)) 0 0 := by
  refine mk_start (own := RX2) (by decide) rfl (Nat.le_of_ble_eq_true rfl) ?_
  intro sz p e s m args below meth c A C hr hlk hnm
  replace C : mk_Cx p s m args c cX2_bestCount 4 RX2 D [(cI, .int), (cJ, .long)] X Y A := C
  have wL13 : ∀ (n : Nat) (v2 : Int32) (v3 : Int32) (uM : Nat → Nat → Int64), f_M_bestCount_13 p1 n v2 v3 uM = some (r, wM) → mk_Go p l e (headSpec (mk_ws yX2_bestCount cX2_bestCount 4 (some .int)) ({ frames := 5, cells := 0, slots := 0, locals := 140 })).room s m args below meth c D A 4 0 0 (MQ below (mk_Q (some (.int r)) D (wMeans aM cJ wM) A) args s 0 0 A) 13 (wMeans aM cJ uM) [(0, .ref (aM 0)), (2, .int v2), (3, .int v3)] [] := by
    intro  n
    induction n with
    | zero => intro v2 v3 uM hf; exact nomatch (show (none : Option (Int32 × (Nat → Nat → Int64))) = some _ from hf)
    | succ n ih =>
      intro v2 v3 uM hf
      rw [f_M_bestCount_13] at hf
      refine mk_iload_n C 2 dX2_bestCount_13 rfl ?_
      refine mk_bipush C (v := 8) dX2_bestCount_14 (by decide) ?_
      refine mk_icmp_gt C 71 dX2_bestCount_16 (by decide) (fun c1 => ?_) (fun c1 => ?_)
      · replace hf := (if_pos c1).symm.trans hf
        refine mk_iload_n C 1 dX2_bestCount_71 rfl ?_
        have e := Option.some.inj hf
        obtain ⟨e0, e1⟩ := Prod.mk.inj e
        exact mk_iret C hr hlk e0 (by rw [← e1]) dX2_bestCount_72
      · replace hf := (if_neg c1).symm.trans hf
        refine mk_iload_n C 2 dX2_bestCount_19 rfl ?_
        refine mk_i2l C dX2_bestCount_20 ?_
        refine mk_aload_n C 0 dX2_bestCount_21 rfl ?_
        refine mk_get C mk_inX2 0 rfl rfl 1 (by decide) mw_323 (v := .ref (aM 2)) rfl dX2_bestCount_22 ?_
        refine mk_iload_n C 2 dX2_bestCount_25 rfl ?_
        refine mk_callNl C (c_atL l D cI cJ X Y (aM 2) 9 (uM 1) v3) (List.mem_of_getElem? (i := 20) rfl) mw_816 mw_1 mw_817 mkn_X8_at_ rfl ⟨Nat.le_of_ble_eq_true rfl, Nat.le_of_ble_eq_true rfl⟩ (mk_Fr.at (q := 2) rfl) (Nat.le_of_ble_eq_true rfl) dX2_bestCount_26 rfl ?_
        refine mk_lmul C dX2_bestCount_29 ?_
        refine mk_aload_n C 0 dX2_bestCount_30 rfl ?_
        refine mk_get C mk_inX2 0 rfl rfl 0 (by decide) mw_321 (v := .ref (aM 1)) rfl dX2_bestCount_31 ?_
        refine mk_iload_n C 1 dX2_bestCount_34 rfl ?_
        refine mk_callNl C (c_atL l D cI cJ X Y (aM 1) 9 (uM 0) v2) (List.mem_of_getElem? (i := 20) rfl) mw_816 mw_1 mw_817 mkn_X8_at_ rfl ⟨Nat.le_of_ble_eq_true rfl, Nat.le_of_ble_eq_true rfl⟩ (mk_Fr.at (q := 1) rfl) (Nat.le_of_ble_eq_true rfl) dX2_bestCount_35 rfl ?_
        refine mk_lmul C dX2_bestCount_38 ?_
        refine mk_iload_n C 1 dX2_bestCount_39 rfl ?_
        refine mk_i2l C dX2_bestCount_40 ?_
        refine mk_aload_n C 0 dX2_bestCount_41 rfl ?_
        refine mk_get C mk_inX2 0 rfl rfl 1 (by decide) mw_323 (v := .ref (aM 2)) rfl dX2_bestCount_42 ?_
        refine mk_iload_n C 1 dX2_bestCount_45 rfl ?_
        refine mk_callNl C (c_atL l D cI cJ X Y (aM 2) 9 (uM 1) v2) (List.mem_of_getElem? (i := 20) rfl) mw_816 mw_1 mw_817 mkn_X8_at_ rfl ⟨Nat.le_of_ble_eq_true rfl, Nat.le_of_ble_eq_true rfl⟩ (mk_Fr.at (q := 2) rfl) (Nat.le_of_ble_eq_true rfl) dX2_bestCount_46 rfl ?_
        refine mk_lmul C dX2_bestCount_49 ?_
        refine mk_aload_n C 0 dX2_bestCount_50 rfl ?_
        refine mk_get C mk_inX2 0 rfl rfl 0 (by decide) mw_321 (v := .ref (aM 1)) rfl dX2_bestCount_51 ?_
        refine mk_iload_n C 2 dX2_bestCount_54 rfl ?_
        refine mk_callNl C (c_atL l D cI cJ X Y (aM 1) 9 (uM 0) v3) (List.mem_of_getElem? (i := 20) rfl) mw_816 mw_1 mw_817 mkn_X8_at_ rfl ⟨Nat.le_of_ble_eq_true rfl, Nat.le_of_ble_eq_true rfl⟩ (mk_Fr.at (q := 1) rfl) (Nat.le_of_ble_eq_true rfl) dX2_bestCount_55 rfl ?_
        refine mk_lmul C dX2_bestCount_58 ?_
        refine mk_lcmp C dX2_bestCount_59 ?_
        refine mk_if_le C 65 dX2_bestCount_60 (by decide) (fun c2 => ?_) (fun c2 => ?_)
        · replace hf := (if_pos c2).symm.trans hf
          refine mk_iinc C (v := (v3 + 1)) (lv' := [(3, .int (v3 + 1)), (0, .ref (aM 0)), (2, .int v2)]) 2 dX2_bestCount_65 rfl rfl (by decide) rfl ?_
          refine mk_goto C 13 dX2_bestCount_68 (by decide) ?_
          exact mk_lvsub [1, 2, 0] rfl (ih _ _ _ hf)
        · replace hf := (if_neg c2).symm.trans hf
          refine mk_iload_n C 2 dX2_bestCount_63 rfl ?_
          refine mk_istore_n C (lv' := [(2, .int v3), (0, .ref (aM 0)), (3, .int v3)]) dX2_bestCount_64 (by decide) rfl ?_
          refine mk_iinc C (v := (v3 + 1)) (lv' := [(3, .int (v3 + 1)), (2, .int v3), (0, .ref (aM 0))]) 2 dX2_bestCount_65 rfl rfl (by decide) rfl ?_
          refine mk_goto C 13 dX2_bestCount_68 (by decide) ?_
          exact mk_lvsub [2, 1, 0] rfl (ih _ _ _ hf)
  show mk_Go p l e (headSpec (mk_ws yX2_bestCount cX2_bestCount 4 (some .int)) ({ frames := 5, cells := 0, slots := 0, locals := 140 })).room s m args below meth c D A 4 0 0 (MQ below (mk_Q (some (.int r)) D (wMeans aM cJ wM) A) args s 0 0 A) 0 (wMeans aM cJ uM) [(0, .ref (aM 0)), (1, .int p1)] []
  unfold f_M_bestCount at hf
  refine mk_aload_n C 0 dX2_bestCount_0 rfl ?_
  refine mk_iload_n C 1 dX2_bestCount_1 rfl ?_
  refine mk_bipush C (v := 8) dX2_bestCount_2 (by decide) ?_
  refine mk_iconst C (v := 1) dX2_bestCount_4 (by decide) ?_
  refine mk_iconst C (v := 2) dX2_bestCount_5 (by decide) ?_
  obtain ⟨uM_3, h4, hf⟩ := b1_some hf
  refine mk_callVv C (c_M_reckon l D cI cJ X Y aM uM p1 8 1 2 uM_3 h4) mw_862 mw_795 mw_796 mw_9 mw_797 mkn_X2_reckon rfl ⟨Nat.le_of_ble_eq_true rfl, Nat.le_of_ble_eq_true rfl⟩ 0 rfl rfl rfl (mk_Fr.all _ _) (Nat.le_of_ble_eq_true rfl) dX2_bestCount_6 rfl ?_
  refine mk_iconst C (v := 1) dX2_bestCount_9 (by decide) ?_
  refine mk_istore_n C (lv' := [(2, .int 1), (0, .ref (aM 0)), (1, .int p1)]) dX2_bestCount_10 (by decide) rfl ?_
  refine mk_iconst C (v := 2) dX2_bestCount_11 (by decide) ?_
  refine mk_istore_n C (lv' := [(3, .int 2), (2, .int 1), (0, .ref (aM 0)), (1, .int p1)]) dX2_bestCount_12 (by decide) rfl ?_
  exact mk_lvsub [2, 1, 0] rfl (wL13 600 _ _ _ hf)
