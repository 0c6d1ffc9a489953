set_option maxHeartbeats 40000000 in
set_option maxRecDepth 100000 in
theorem c_X_in (l : Launch) (D : va_G) (cI cJ : ClassId) (X Y : Nat → Nat) (p0 : Int64) (p2 : Int64) (p4 : Int64) (r : Int32) (hf : f_X_in p0 p2 p4 = some r) : mk_Met l yX9_in cX9_in 6 (some .boolean) ({ frames := 0, cells := 0, slots := 0, locals := 0 }) D [(cI, .int), (cJ, .long)] X Y [.long p0, .long p2, .long p4] ([] : va_W) ([] : va_W) (some (.int r)) 0 0 := by
  refine mk_start (own := RX9) (by decide) rfl (Nat.le_of_ble_eq_true rfl) ?_
  intro sz p e s m args below meth c A C hr hlk hnm
  replace C : mk_Cx p s m args c cX9_in 6 RX9 D [(cI, .int), (cJ, .long)] X Y A := C
  show mk_Go p l e (headSpec (mk_ws yX9_in cX9_in 6 (some .boolean)) ({ frames := 0, cells := 0, slots := 0, locals := 0 })).room s m args below meth c D A 6 0 0 (MQ below (mk_Q (some (.int r)) D ([] : va_W) A) args s 0 0 A) 0 ([] : va_W) [(0, .long p0), (2, .long p2), (4, .long p4)] []
  unfold f_X_in at hf
  refine mk_lload_n C 0 dX9_in_0 rfl ?_
  refine mk_lload_n C 1 dX9_in_1 rfl ?_
  refine mk_lcmp C dX9_in_2 ?_
  refine mk_if_lt C 17 dX9_in_3 (by decide) (fun c1 => ?_) (fun c1 => ?_)
  · replace hf := (if_pos c1).symm.trans hf
    refine mk_iconst C (v := 0) dX9_in_17 (by decide) ?_
    have e0 := Option.some.inj hf
    exact mk_zret C hr hlk rfl e0 rfl dX9_in_18
  · replace hf := (if_neg c1).symm.trans hf
    refine mk_lload_n C 0 dX9_in_6 rfl ?_
    refine mk_lload C 2 dX9_in_7 rfl ?_
    refine mk_lcmp C dX9_in_9 ?_
    refine mk_if_gt C 17 dX9_in_10 (by decide) (fun c2 => ?_) (fun c2 => ?_)
    · replace hf := (if_pos c2).symm.trans hf
      refine mk_iconst C (v := 0) dX9_in_17 (by decide) ?_
      have e0 := Option.some.inj hf
      exact mk_zret C hr hlk rfl e0 rfl dX9_in_18
    · replace hf := (if_neg c2).symm.trans hf
      refine mk_iconst C (v := 1) dX9_in_13 (by decide) ?_
      refine mk_goto C 18 dX9_in_14 (by decide) ?_
      have e0 := Option.some.inj hf
      exact mk_zret C hr hlk rfl e0 rfl dX9_in_18
set_option maxHeartbeats 40000000 in
set_option maxRecDepth 100000 in
theorem c_X_has (l : Launch) (D : va_G) (cI cJ : ClassId) (X Y : Nat → Nat) (p0 : Int32) (p1 : Int32) (r : Int32) (hf : f_X_has p0 p1 = some r) : mk_Met l yX9_has cX9_has 2 (some .boolean) ({ frames := 0, cells := 0, slots := 0, locals := 0 }) D [(cI, .int), (cJ, .long)] X Y [.int p0, .int p1] ([] : va_W) ([] : va_W) (some (.int r)) 0 0 := by
  refine mk_start (own := RX9) (by decide) rfl (Nat.le_of_ble_eq_true rfl) ?_
  intro sz p e s m args below meth c A C hr hlk hnm
  replace C : mk_Cx p s m args c cX9_has 2 RX9 D [(cI, .int), (cJ, .long)] X Y A := C
  show mk_Go p l e (headSpec (mk_ws yX9_has cX9_has 2 (some .boolean)) ({ frames := 0, cells := 0, slots := 0, locals := 0 })).room s m args below meth c D A 2 0 0 (MQ below (mk_Q (some (.int r)) D ([] : va_W) A) args s 0 0 A) 0 ([] : va_W) [(0, .int p0), (1, .int p1)] []
  unfold f_X_has at hf
  refine mk_iload_n C 0 dX9_has_0 rfl ?_
  refine mk_iload_n C 1 dX9_has_1 rfl ?_
  refine mk_ishr C dX9_has_2 ?_
  refine mk_iconst C (v := 1) dX9_has_3 (by decide) ?_
  refine mk_iand C dX9_has_4 ?_
  refine mk_iconst C (v := 1) dX9_has_5 (by decide) ?_
  refine mk_icmp_ne C 13 dX9_has_6 (by decide) (fun c1 => ?_) (fun c1 => ?_)
  · replace hf := (if_neg c1).symm.trans hf
    refine mk_iconst C (v := 0) dX9_has_13 (by decide) ?_
    have e0 := Option.some.inj hf
    exact mk_zret C hr hlk rfl e0 rfl dX9_has_14
  · replace hf := (if_pos c1).symm.trans hf
    refine mk_iconst C (v := 1) dX9_has_9 (by decide) ?_
    refine mk_goto C 14 dX9_has_10 (by decide) ?_
    have e0 := Option.some.inj hf
    exact mk_zret C hr hlk rfl e0 rfl dX9_has_14
set_option maxHeartbeats 40000000 in
set_option maxRecDepth 100000 in
theorem c_X_bitsOf (l : Launch) (D : va_G) (cI cJ : ClassId) (X Y : Nat → Nat) (p0 : Int32) (r : Int32) (hf : f_X_bitsOf p0 = some r) : mk_Met l yX9_bitsOf cX9_bitsOf 3 (some .int) ({ frames := 0, cells := 0, slots := 0, locals := 0 }) D [(cI, .int), (cJ, .long)] X Y [.int p0] ([] : va_W) ([] : va_W) (some (.int r)) 0 0 := by
  refine mk_start (own := RX9) (by decide) rfl (Nat.le_of_ble_eq_true rfl) ?_
  intro sz p e s m args below meth c A C hr hlk hnm
  replace C : mk_Cx p s m args c cX9_bitsOf 3 RX9 D [(cI, .int), (cJ, .long)] X Y A := C
  have wL4 : ∀ (n : Nat) (v1 : Int32) (v2 : Int32), f_X_bitsOf_4 p0 n v1 v2 = some r → mk_Go p l e (headSpec (mk_ws yX9_bitsOf cX9_bitsOf 3 (some .int)) ({ frames := 0, cells := 0, slots := 0, locals := 0 })).room s m args below meth c D A 3 0 0 (MQ below (mk_Q (some (.int r)) D ([] : va_W) A) args s 0 0 A) 4 ([] : va_W) [(0, .int p0), (1, .int v1), (2, .int v2)] [] := by
    intro  n
    induction n with
    | zero => intro v1 v2 hf; exact nomatch (show (none : Option (Int32)) = some _ from hf)
    | succ n ih =>
      intro v1 v2 hf
      rw [f_X_bitsOf_4] at hf
      refine mk_iload_n C 2 dX9_bitsOf_4 rfl ?_
      refine mk_bipush C (v := 10) dX9_bitsOf_5 (by decide) ?_
      refine mk_icmp_ge C 24 dX9_bitsOf_7 (by decide) (fun c1 => ?_) (fun c1 => ?_)
      · replace hf := (if_pos c1).symm.trans hf
        refine mk_iload_n C 1 dX9_bitsOf_24 rfl ?_
        have e0 := Option.some.inj hf
        exact mk_iret C hr hlk e0 rfl dX9_bitsOf_25
      · replace hf := (if_neg c1).symm.trans hf
        refine mk_iload_n C 1 dX9_bitsOf_10 rfl ?_
        refine mk_iload_n C 0 dX9_bitsOf_11 rfl ?_
        refine mk_iload_n C 2 dX9_bitsOf_12 rfl ?_
        refine mk_ishr C dX9_bitsOf_13 ?_
        refine mk_iconst C (v := 1) dX9_bitsOf_14 (by decide) ?_
        refine mk_iand C dX9_bitsOf_15 ?_
        refine mk_iadd C dX9_bitsOf_16 ?_
        refine mk_istore_n C (lv' := [(1, .int (v1 + ((p0 >>> (v2 &&& 31)) &&& 1))), (0, .int p0), (2, .int v2)]) dX9_bitsOf_17 (by decide) rfl ?_
        refine mk_iinc C (v := (v2 + 1)) (lv' := [(2, .int (v2 + 1)), (1, .int (v1 + ((p0 >>> (v2 &&& 31)) &&& 1))), (0, .int p0)]) 2 dX9_bitsOf_18 rfl rfl (by decide) rfl ?_
        refine mk_goto C 4 dX9_bitsOf_21 (by decide) ?_
        exact mk_lvsub [2, 1, 0] rfl (ih _ _ hf)
  show mk_Go p l e (headSpec (mk_ws yX9_bitsOf cX9_bitsOf 3 (some .int)) ({ frames := 0, cells := 0, slots := 0, locals := 0 })).room s m args below meth c D A 3 0 0 (MQ below (mk_Q (some (.int r)) D ([] : va_W) A) args s 0 0 A) 0 ([] : va_W) [(0, .int p0)] []
  unfold f_X_bitsOf at hf
  refine mk_iconst C (v := 0) dX9_bitsOf_0 (by decide) ?_
  refine mk_istore_n C (lv' := [(1, .int 0), (0, .int p0)]) dX9_bitsOf_1 (by decide) rfl ?_
  refine mk_iconst C (v := 0) dX9_bitsOf_2 (by decide) ?_
  refine mk_istore_n C (lv' := [(2, .int 0), (1, .int 0), (0, .int p0)]) dX9_bitsOf_3 (by decide) rfl ?_
  exact mk_lvsub [2, 1, 0] rfl (wL4 600 _ _ hf)
set_option maxHeartbeats 40000000 in
set_option maxRecDepth 100000 in
theorem c_X_feed (l : Launch) (D : va_G) (cI cJ : ClassId) (X Y : Nat → Nat) (aX : Nat → Nat) (uX : Nat → Nat → Int32) (uL : Nat → Nat → Int64) (p1 : Int32) (p2 : Int32) (p3 : Int32) (p4 : Int32) (p5 : Int32) (r : Int32) (wX : Nat → Nat → Int32) (hf : f_X_feed uX p1 p2 p3 p4 p5 = some (r, wX)) : mk_Met l yX9_feed cX9_feed 8 (some .int) ({ frames := 0, cells := 1, slots := 5, locals := 0 }) D [(cI, .int), (cJ, .long)] X Y [.ref (aX 0), .int p1, .int p2, .int p3, .int p4, .int p5] (wModel aX cI cJ uX uL) (wModel aX cI cJ wX uL) (some (.int r)) 1 5 := by
  refine mk_start (own := RX9) (by decide) rfl (Nat.le_of_ble_eq_true rfl) ?_
  intro sz p e s m args below meth c A C hr hlk hnm
  replace C : mk_Cx p s m args c cX9_feed 8 RX9 D [(cI, .int), (cJ, .long)] X Y A := C
  have wL42 : ∀ (qV : Nat) (n : Nat) (v7 : Int32) (uX : Nat → Nat → Int32) (fv : Nat → Int32), f_X_feed_42 p1 p2 p3 p4 p5 n v7 uX fv = some (r, wX) → mk_Go p l e (headSpec (mk_ws yX9_feed cX9_feed 8 (some .int)) ({ frames := 0, cells := 1, slots := 5, locals := 0 })).room s m args below meth c D A 8 1 5 (MQ below (mk_Q (some (.int r)) D (wModel aX cI cJ wX uL) A) args s 1 5 A) 42 ((wModel aX cI cJ uX uL) ++ [(qV, .inl (cI, 5, .inl fv))]) [(0, .ref (aX 0)), (6, .ref qV), (7, .int v7)] [] := by
    intro qV
    intro  n
    induction n with
    | zero => intro v7 uX fv hf; exact nomatch (show (none : Option (Int32 × (Nat → Nat → Int32))) = some _ from hf)
    | succ n ih =>
      intro v7 uX fv hf
      rw [f_X_feed_42] at hf
      refine mk_iload C 2 dX9_feed_42 rfl ?_
      refine mk_bipush C (v := 20) dX9_feed_44 (by decide) ?_
      refine mk_icmp_ge C 89 dX9_feed_46 (by decide) (fun c1 => ?_) (fun c1 => ?_)
      · replace hf := (if_pos c1).symm.trans hf
        refine mk_aload_n C 0 dX9_feed_89 rfl ?_
        refine mk_dup C dX9_feed_90 rfl ?_
        refine mk_get C mk_inX9 0 rfl rfl 5 (by decide) mw_907 (v := .int (uX 5 0)) rfl dX9_feed_91 ?_
        refine mk_bipush C (v := 20) dX9_feed_94 (by decide) ?_
        refine mk_iadd C dX9_feed_96 ?_
        refine mk_put C mk_inX9 tyX9 tyX9_ok nmX9 0 rfl rfl 5 (by decide) mw_907 rfl rfl rfl (Nat.le_of_ble_eq_true rfl) (ws' := ((wModel aX cI cJ (upF 5 ((uX 5 0) + 20) uX) uL) ++ [(qV, .inl (cI, 5, .inl fv))])) (mk_setL (st_X_X_5 cI cJ aX uX uL ((uX 5 0) + 20)) (Nat.le_of_ble_eq_true rfl)) dX9_feed_97 ?_
        refine mk_aload_n C 0 dX9_feed_100 rfl ?_
        refine mk_get C mk_inX9 0 rfl rfl 5 (by decide) mw_907 (v := .int ((uX 5 0) + 20)) rfl dX9_feed_101 ?_
        have e := Option.some.inj hf
        obtain ⟨e0, e1⟩ := Prod.mk.inj e
        refine mk_drop [(qV, .inl (cI, 5, .inl fv))] (ws' := (wModel aX cI cJ (upF 5 ((uX 5 0) + 20) uX) uL)) List.perm_append_comm ?_
        exact mk_iret C hr hlk e0 (by rw [← e1]) dX9_feed_104
      · replace hf := (if_neg c1).symm.trans hf
        refine mk_aload_n C 0 dX9_feed_49 rfl ?_
        refine mk_get C mk_inX9 0 rfl rfl 4 (by decide) mw_906 (v := .ref (aX 5)) rfl dX9_feed_50 ?_
        refine mk_aload_n C 0 dX9_feed_53 rfl ?_
        refine mk_get C mk_inX9 0 rfl rfl 5 (by decide) mw_907 (v := .int (uX 5 0)) rfl dX9_feed_54 ?_
        refine mk_iload C 2 dX9_feed_57 rfl ?_
        refine mk_iadd C dX9_feed_59 ?_
        refine mk_aload C 1 dX9_feed_60 rfl ?_
        refine mk_iload C 2 dX9_feed_62 rfl ?_
        refine mk_iconst C (v := 4) dX9_feed_64 (by decide) ?_
        refine mk_idiv C dX9_feed_65 (by decide) ?_
        obtain ⟨g2, hf⟩ := gI_some hf
        refine mk_iald C 23 0 (f := fv) rfl rfl g2 (j := ((v7 / 4) : Int32).toNatClampNeg) rfl dX9_feed_66 ?_
        refine mk_bipush C (v := 24) dX9_feed_67 (by decide) ?_
        refine mk_bipush C (v := 8) dX9_feed_69 (by decide) ?_
        refine mk_iload C 2 dX9_feed_71 rfl ?_
        refine mk_iconst C (v := 4) dX9_feed_73 (by decide) ?_
        refine mk_irem C dX9_feed_74 (by decide) ?_
        refine mk_imul C dX9_feed_75 ?_
        refine mk_isub C dX9_feed_76 ?_
        refine mk_iushr C dX9_feed_77 ?_
        refine mk_sipush C (v := 255) dX9_feed_78 (by decide) ?_
        refine mk_iand C dX9_feed_81 ?_
        obtain ⟨g3, hf⟩ := gI_some hf
        refine mk_iast C 4 0 (f := (uX 4)) rfl rfl g3 (j := (((uX 5 0) + v7) : Int32).toNatClampNeg) rfl (ws' := ((wModel aX cI cJ (upR 4 (upd (uX 4) (((uX 5 0) + v7) : Int32).toNatClampNeg (((((fv ((v7 / 4) : Int32).toNatClampNeg) : Int32).toUInt32 >>> (((24 - (8 * (v7 - v7 / 4 * 4))) : Int32).toUInt32 &&& Int32.toUInt32 31)).toInt32) &&& 255)) uX) uL) ++ [(qV, .inl (cI, 5, .inl fv))])) (mk_setL (st_X_X_4 cI cJ aX uX uL (upd (uX 4) (((uX 5 0) + v7) : Int32).toNatClampNeg (((((fv ((v7 / 4) : Int32).toNatClampNeg) : Int32).toUInt32 >>> (((24 - (8 * (v7 - v7 / 4 * 4))) : Int32).toUInt32 &&& Int32.toUInt32 31)).toInt32) &&& 255))) (Nat.le_of_ble_eq_true rfl)) dX9_feed_82 ?_
        refine mk_iinc C (v := (v7 + 1)) (lv' := [(7, .int (v7 + 1)), (0, .ref (aX 0)), (6, .ref qV)]) 2 dX9_feed_83 rfl rfl (by decide) rfl ?_
        refine mk_goto C 42 dX9_feed_86 (by decide) ?_
        exact mk_lvsub [1, 2, 0] rfl (ih _ _ _ hf)
  show mk_Go p l e (headSpec (mk_ws yX9_feed cX9_feed 8 (some .int)) ({ frames := 0, cells := 1, slots := 5, locals := 0 })).room s m args below meth c D A 8 0 0 (MQ below (mk_Q (some (.int r)) D (wModel aX cI cJ wX uL) A) args s 1 5 A) 0 (wModel aX cI cJ uX uL) [(0, .ref (aX 0)), (1, .int p1), (2, .int p2), (3, .int p3), (4, .int p4), (5, .int p5)] []
  unfold f_X_feed at hf
  refine mk_aload_n C 0 dX9_feed_0 rfl ?_
  refine mk_get C mk_inX9 0 rfl rfl 5 (by decide) mw_907 (v := .int (uX 5 0)) rfl dX9_feed_1 ?_
  refine mk_sipush C (v := 480) dX9_feed_4 (by decide) ?_
  refine mk_icmp_le C 12 dX9_feed_7 (by decide) (fun c4 => ?_) (fun c4 => ?_)
  · replace hf := (if_pos c4).symm.trans hf
    refine mk_iconst C (v := 5) dX9_feed_12 (by decide) ?_
    refine mk_newaI C mw_48 (by decide) (N := 5) (by decide) (by decide) ⟨Nat.le_of_ble_eq_true rfl, Nat.le_of_ble_eq_true rfl⟩ dX9_feed_13 (fun qV => ?_)
    refine mk_dup C dX9_feed_15 rfl ?_
    refine mk_iconst C (v := 0) dX9_feed_16 (by decide) ?_
    refine mk_iload_n C 1 dX9_feed_17 rfl ?_
    refine mk_iast C 23 0 (f := (fun _ => 0)) rfl rfl (mk_vi (by decide)) (j := 0) (by decide) (ws' := ((wModel aX cI cJ uX uL) ++ [(qV, .inl (cI, 5, .inl (upd (fun _ => 0) 0 p1)))])) rfl dX9_feed_18 ?_
    refine mk_dup C dX9_feed_19 rfl ?_
    refine mk_iconst C (v := 1) dX9_feed_20 (by decide) ?_
    refine mk_iload_n C 2 dX9_feed_21 rfl ?_
    refine mk_iast C 23 0 (f := (upd (fun _ => 0) 0 p1)) rfl rfl (mk_vi (by decide)) (j := 1) (by decide) (ws' := ((wModel aX cI cJ uX uL) ++ [(qV, .inl (cI, 5, .inl (upd (upd (fun _ => 0) 0 p1) 1 p2)))])) rfl dX9_feed_22 ?_
    refine mk_dup C dX9_feed_23 rfl ?_
    refine mk_iconst C (v := 2) dX9_feed_24 (by decide) ?_
    refine mk_iload_n C 3 dX9_feed_25 rfl ?_
    refine mk_iast C 23 0 (f := (upd (upd (fun _ => 0) 0 p1) 1 p2)) rfl rfl (mk_vi (by decide)) (j := 2) (by decide) (ws' := ((wModel aX cI cJ uX uL) ++ [(qV, .inl (cI, 5, .inl (upd (upd (upd (fun _ => 0) 0 p1) 1 p2) 2 p3)))])) rfl dX9_feed_26 ?_
    refine mk_dup C dX9_feed_27 rfl ?_
    refine mk_iconst C (v := 3) dX9_feed_28 (by decide) ?_
    refine mk_iload C 4 dX9_feed_29 rfl ?_
    refine mk_iast C 23 0 (f := (upd (upd (upd (fun _ => 0) 0 p1) 1 p2) 2 p3)) rfl rfl (mk_vi (by decide)) (j := 3) (by decide) (ws' := ((wModel aX cI cJ uX uL) ++ [(qV, .inl (cI, 5, .inl (upd (upd (upd (upd (fun _ => 0) 0 p1) 1 p2) 2 p3) 3 p4)))])) rfl dX9_feed_31 ?_
    refine mk_dup C dX9_feed_32 rfl ?_
    refine mk_iconst C (v := 4) dX9_feed_33 (by decide) ?_
    refine mk_iload C 5 dX9_feed_34 rfl ?_
    refine mk_iast C 23 0 (f := (upd (upd (upd (upd (fun _ => 0) 0 p1) 1 p2) 2 p3) 3 p4)) rfl rfl (mk_vi (by decide)) (j := 4) (by decide) (ws' := ((wModel aX cI cJ uX uL) ++ [(qV, .inl (cI, 5, .inl (upd (upd (upd (upd (upd (fun _ => 0) 0 p1) 1 p2) 2 p3) 3 p4) 4 p5)))])) rfl dX9_feed_36 ?_
    refine mk_astore C (lv' := [(6, .ref qV), (0, .ref (aX 0)), (1, .int p1), (2, .int p2), (3, .int p3), (4, .int p4), (5, .int p5)]) dX9_feed_37 (by decide) rfl ?_
    refine mk_iconst C (v := 0) dX9_feed_39 (by decide) ?_
    refine mk_istore C (lv' := [(7, .int 0), (6, .ref qV), (0, .ref (aX 0)), (1, .int p1), (2, .int p2), (3, .int p3), (4, .int p4), (5, .int p5)]) dX9_feed_40 (by decide) rfl ?_
    exact mk_lvsub [2, 1, 0] rfl (wL42 _ 600 _ _ _ hf)
  · replace hf := (if_neg c4).symm.trans hf
    refine mk_iconst C (v := (-1)) dX9_feed_10 (by decide) ?_
    have e := Option.some.inj hf
    obtain ⟨e0, e1⟩ := Prod.mk.inj e
    refine mk_widen (k := 1) (n := 5) (by decide) (by decide) ?_
    exact mk_iret C hr hlk e0 (by rw [← e1]) dX9_feed_11
set_option maxHeartbeats 40000000 in
set_option maxRecDepth 100000 in
theorem c_X_end (l : Launch) (D : va_G) (cI cJ : ClassId) (X Y : Nat → Nat) (aX : Nat → Nat) (uX : Nat → Nat → Int32) (uL : Nat → Nat → Int64) (p1 : Int32) (r : Int32) (wX : Nat → Nat → Int32) (hf : f_X_end uX p1 = some (r, wX)) : mk_Met l yX9_end cX9_end 2 (some .int) ({ frames := 1, cells := 0, slots := 0, locals := 25 }) D [(cI, .int), (cJ, .long)] X Y [.ref (aX 0), .int p1] (wModel aX cI cJ uX uL) (wModel aX cI cJ wX uL) (some (.int r)) 0 0 := by
  refine mk_start (own := RX9) (by decide) rfl (Nat.le_of_ble_eq_true rfl) ?_
  intro sz p e s m args below meth c A C hr hlk hnm
  replace C : mk_Cx p s m args c cX9_end 2 RX9 D [(cI, .int), (cJ, .long)] X Y A := C
  show mk_Go p l e (headSpec (mk_ws yX9_end cX9_end 2 (some .int)) ({ frames := 1, cells := 0, slots := 0, locals := 25 })).room s m args below meth c D A 2 0 0 (MQ below (mk_Q (some (.int r)) D (wModel aX cI cJ wX uL) A) args s 0 0 A) 0 (wModel aX cI cJ uX uL) [(0, .ref (aX 0)), (1, .int p1)] []
  unfold f_X_end at hf
  refine mk_iload_n C 1 dX9_end_0 rfl ?_
  refine mk_i2l C dX9_end_1 ?_
  refine mk_lconst C (v := 0) dX9_end_2 (by decide) ?_
  refine mk_aload_n C 0 dX9_end_3 rfl ?_
  refine mk_get C mk_inX9 0 rfl rfl 5 (by decide) mw_907 (v := .int (uX 5 0)) rfl dX9_end_4 ?_
  refine mk_i2l C dX9_end_7 ?_
  obtain ⟨r1, h2, hf⟩ := b1_some hf
  refine mk_callSi C (c_X_in l D cI cJ X Y ((p1 : Int32).toInt64) 0 (((uX 5 0) : Int32).toInt64) r1 h2) mw_1052 mw_1053 mw_10 mw_1054 mkn_X9_in rfl ⟨Nat.le_of_ble_eq_true rfl, Nat.le_of_ble_eq_true rfl⟩ (mk_Fr.nil _) (Nat.le_of_ble_eq_true rfl) dX9_end_8 rfl ?_
  refine mk_if_ne C 16 dX9_end_11 (by decide) (fun c3 => ?_) (fun c3 => ?_)
  · replace hf := (if_neg c3).symm.trans hf
    refine mk_aload_n C 0 dX9_end_16 rfl ?_
    refine mk_iload_n C 1 dX9_end_17 rfl ?_
    refine mk_put C mk_inX9 tyX9 tyX9_ok nmX9 0 rfl rfl 5 (by decide) mw_907 rfl rfl rfl (Nat.le_of_ble_eq_true rfl) (ws' := (wModel aX cI cJ (upF 5 p1 uX) uL)) (st_X_X_5 cI cJ aX uX uL p1) dX9_end_18 ?_
    refine mk_iload_n C 1 dX9_end_21 rfl ?_
    have e := Option.some.inj hf
    obtain ⟨e0, e1⟩ := Prod.mk.inj e
    exact mk_iret C hr hlk e0 (by rw [← e1]) dX9_end_22
  · replace hf := (if_pos c3).symm.trans hf
    refine mk_iconst C (v := (-1)) dX9_end_14 (by decide) ?_
    have e := Option.some.inj hf
    obtain ⟨e0, e1⟩ := Prod.mk.inj e
    exact mk_iret C hr hlk e0 (by rw [← e1]) dX9_end_15
set_option maxHeartbeats 40000000 in
set_option maxRecDepth 100000 in
theorem c_X_isAt (l : Launch) (D : va_G) (cI cJ : ClassId) (X Y : Nat → Nat) (aX : Nat → Nat) (uX : Nat → Nat → Int32) (uL : Nat → Nat → Int64) (p1 : Int32) (p2 : Int32) (r : Int32) (hf : f_X_isAt uX p1 p2 = some r) : mk_Met l yX9_isAt cX9_isAt 3 (some .boolean) ({ frames := 1, cells := 0, slots := 0, locals := 25 }) D [(cI, .int), (cJ, .long)] X Y [.ref (aX 0), .int p1, .int p2] (wModel aX cI cJ uX uL) (wModel aX cI cJ uX uL) (some (.int r)) 0 0 := by
  refine mk_start (own := RX9) (by decide) rfl (Nat.le_of_ble_eq_true rfl) ?_
  intro sz p e s m args below meth c A C hr hlk hnm
  replace C : mk_Cx p s m args c cX9_isAt 3 RX9 D [(cI, .int), (cJ, .long)] X Y A := C
  show mk_Go p l e (headSpec (mk_ws yX9_isAt cX9_isAt 3 (some .boolean)) ({ frames := 1, cells := 0, slots := 0, locals := 25 })).room s m args below meth c D A 3 0 0 (MQ below (mk_Q (some (.int r)) D (wModel aX cI cJ uX uL) A) args s 0 0 A) 0 (wModel aX cI cJ uX uL) [(0, .ref (aX 0)), (1, .int p1), (2, .int p2)] []
  unfold f_X_isAt at hf
  refine mk_aload_n C 0 dX9_isAt_0 rfl ?_
  refine mk_get C mk_inX9 0 rfl rfl 8 (by decide) mw_910 (v := .int (uX 8 0)) rfl dX9_isAt_1 ?_
  refine mk_aload_n C 0 dX9_isAt_4 rfl ?_
  refine mk_get C mk_inX9 0 rfl rfl 5 (by decide) mw_907 (v := .int (uX 5 0)) rfl dX9_isAt_5 ?_
  refine mk_icmp_ge C 35 dX9_isAt_8 (by decide) (fun c1 => ?_) (fun c1 => ?_)
  · replace hf := (if_pos c1).symm.trans hf
    refine mk_iconst C (v := 0) dX9_isAt_35 (by decide) ?_
    have e0 := Option.some.inj hf
    exact mk_zret C hr hlk rfl e0 rfl dX9_isAt_36
  · replace hf := (if_neg c1).symm.trans hf
    refine mk_aload_n C 0 dX9_isAt_11 rfl ?_
    refine mk_get C mk_inX9 0 rfl rfl 4 (by decide) mw_906 (v := .ref (aX 5)) rfl dX9_isAt_12 ?_
    refine mk_aload_n C 0 dX9_isAt_15 rfl ?_
    refine mk_get C mk_inX9 0 rfl rfl 8 (by decide) mw_910 (v := .int (uX 8 0)) rfl dX9_isAt_16 ?_
    obtain ⟨g2, hf⟩ := gI_some hf
    refine mk_iald C 4 0 (f := (uX 4)) rfl rfl g2 (j := ((uX 8 0) : Int32).toNatClampNeg) rfl dX9_isAt_19 ?_
    refine mk_i2l C dX9_isAt_20 ?_
    refine mk_iload_n C 1 dX9_isAt_21 rfl ?_
    refine mk_i2l C dX9_isAt_22 ?_
    refine mk_iload_n C 2 dX9_isAt_23 rfl ?_
    refine mk_i2l C dX9_isAt_24 ?_
    obtain ⟨r3, h4, hf⟩ := b1_some hf
    refine mk_callSi C (c_X_in l D cI cJ X Y ((((uX 4) ((uX 8 0) : Int32).toNatClampNeg) : Int32).toInt64) ((p1 : Int32).toInt64) ((p2 : Int32).toInt64) r3 h4) mw_1052 mw_1053 mw_10 mw_1054 mkn_X9_in rfl ⟨Nat.le_of_ble_eq_true rfl, Nat.le_of_ble_eq_true rfl⟩ (mk_Fr.nil _) (Nat.le_of_ble_eq_true rfl) dX9_isAt_25 rfl ?_
    refine mk_if_eq C 35 dX9_isAt_28 (by decide) (fun c5 => ?_) (fun c5 => ?_)
    · replace hf := (if_pos c5).symm.trans hf
      refine mk_iconst C (v := 0) dX9_isAt_35 (by decide) ?_
      have e0 := Option.some.inj hf
      exact mk_zret C hr hlk rfl e0 rfl dX9_isAt_36
    · replace hf := (if_neg c5).symm.trans hf
      refine mk_iconst C (v := 1) dX9_isAt_31 (by decide) ?_
      refine mk_goto C 36 dX9_isAt_32 (by decide) ?_
      have e0 := Option.some.inj hf
      exact mk_zret C hr hlk rfl e0 rfl dX9_isAt_36
set_option maxHeartbeats 40000000 in
set_option maxRecDepth 100000 in
theorem c_X_next (l : Launch) (D : va_G) (cI cJ : ClassId) (X Y : Nat → Nat) (aX : Nat → Nat) (uX : Nat → Nat → Int32) (uL : Nat → Nat → Int64) (wX : Nat → Nat → Int32) (hf : f_X_next uX = some wX) : mk_Met l yX9_next cX9_next 1 none ({ frames := 2, cells := 0, slots := 0, locals := 47 }) D [(cI, .int), (cJ, .long)] X Y [.ref (aX 0)] (wModel aX cI cJ uX uL) (wModel aX cI cJ wX uL) none 0 0 := by
  refine mk_start (own := RX9) (by decide) rfl (Nat.le_of_ble_eq_true rfl) ?_
  intro sz p e s m args below meth c A C hr hlk hnm
  replace C : mk_Cx p s m args c cX9_next 1 RX9 D [(cI, .int), (cJ, .long)] X Y A := C
  have wL193 : ∀ (t1 : Int32) (uX : Nat → Nat → Int32), f_X_next_193 t1 uX = some wX → mk_Go p l e (headSpec (mk_ws yX9_next cX9_next 1 none) ({ frames := 2, cells := 0, slots := 0, locals := 47 })).room s m args below meth c D A 1 0 0 (MQ below (mk_Q none D (wModel aX cI cJ wX uL) A) args s 0 0 A) 193 (wModel aX cI cJ uX uL) [(0, .ref (aX 0))] [.int t1, .ref (aX 0)] := by
    intro  t1 uX hf
    unfold f_X_next_193 at hf
    refine mk_put C mk_inX9 tyX9 tyX9_ok nmX9 0 rfl rfl 10 (by decide) mw_912 rfl rfl rfl (Nat.le_of_ble_eq_true rfl) (ws' := (wModel aX cI cJ (upF 10 t1 uX) uL)) (st_X_X_10 cI cJ aX uX uL t1) dX9_next_193 ?_
    refine mk_aload_n C 0 dX9_next_196 rfl ?_
    refine mk_dup C dX9_next_197 rfl ?_
    refine mk_get C mk_inX9 0 rfl rfl 8 (by decide) mw_910 (v := .int (uX 8 0)) rfl dX9_next_198 ?_
    refine mk_iconst C (v := 1) dX9_next_201 (by decide) ?_
    refine mk_iadd C dX9_next_202 ?_
    refine mk_put C mk_inX9 tyX9 tyX9_ok nmX9 0 rfl rfl 8 (by decide) mw_910 rfl rfl rfl (Nat.le_of_ble_eq_true rfl) (ws' := (wModel aX cI cJ (upF 8 ((uX 8 0) + 1) (upF 10 t1 uX)) uL)) (st_X_X_8 cI cJ aX (upF 10 t1 uX) uL ((uX 8 0) + 1)) dX9_next_203 ?_
    have e0 := Option.some.inj hf
    exact mk_vret C hr hlk (by rw [← e0]) dX9_next_206
  have wL123 : ∀ (n : Nat) (uX : Nat → Nat → Int32), f_X_next_123 n uX = some wX → mk_Go p l e (headSpec (mk_ws yX9_next cX9_next 1 none) ({ frames := 2, cells := 0, slots := 0, locals := 47 })).room s m args below meth c D A 1 0 0 (MQ below (mk_Q none D (wModel aX cI cJ wX uL) A) args s 0 0 A) 123 (wModel aX cI cJ uX uL) [(0, .ref (aX 0))] [] := by
    intro  n
    induction n with
    | zero => intro uX hf; exact nomatch (show (none : Option ((Nat → Nat → Int32))) = some _ from hf)
    | succ n ih =>
      intro uX hf
      rw [f_X_next_123] at hf
      refine mk_aload_n C 0 dX9_next_123 rfl ?_
      refine mk_bipush C (v := 48) dX9_next_124 (by decide) ?_
      refine mk_bipush C (v := 57) dX9_next_126 (by decide) ?_
      obtain ⟨r1, h2, hf⟩ := b1_some hf
      refine mk_callVi C (c_X_isAt l D cI cJ X Y aX uX uL 48 57 r1 h2) mw_1063 mw_1065 mw_s1 mw_10 mw_1066 mkn_X9_isAt rfl ⟨Nat.le_of_ble_eq_true rfl, Nat.le_of_ble_eq_true rfl⟩ 0 rfl rfl rfl (mk_Fr.all _ _) (Nat.le_of_ble_eq_true rfl) dX9_next_128 rfl ?_
      refine mk_if_eq C 206 dX9_next_131 (by decide) (fun c3 => ?_) (fun c3 => ?_)
      · replace hf := (if_pos c3).symm.trans hf
        have e0 := Option.some.inj hf
        exact mk_vret C hr hlk (by rw [← e0]) dX9_next_206
      · replace hf := (if_neg c3).symm.trans hf
        refine mk_aload_n C 0 dX9_next_134 rfl ?_
        refine mk_ldc C (v := 99999) mw_1067 dX9_next_135 ?_
        refine mk_bipush C (v := 10) dX9_next_137 (by decide) ?_
        refine mk_aload_n C 0 dX9_next_139 rfl ?_
        refine mk_get C mk_inX9 0 rfl rfl 11 (by decide) mw_913 (v := .int (uX 11 0)) rfl dX9_next_140 ?_
        refine mk_imul C dX9_next_143 ?_
        refine mk_aload_n C 0 dX9_next_144 rfl ?_
        refine mk_get C mk_inX9 0 rfl rfl 4 (by decide) mw_906 (v := .ref (aX 5)) rfl dX9_next_145 ?_
        refine mk_aload_n C 0 dX9_next_148 rfl ?_
        refine mk_get C mk_inX9 0 rfl rfl 8 (by decide) mw_910 (v := .int (uX 8 0)) rfl dX9_next_149 ?_
        obtain ⟨g4, hf⟩ := gI_some hf
        refine mk_iald C 4 0 (f := (uX 4)) rfl rfl g4 (j := ((uX 8 0) : Int32).toNatClampNeg) rfl dX9_next_152 ?_
        refine mk_iadd C dX9_next_153 ?_
        refine mk_bipush C (v := 48) dX9_next_154 (by decide) ?_
        refine mk_isub C dX9_next_156 ?_
        refine mk_mmin C mw_1068 mw_569 mw_17 mw_570 ⟨Nat.le_of_ble_eq_true rfl, Nat.le_of_ble_eq_true rfl⟩ ⟨Nat.zero_le _, Nat.zero_le _⟩ dX9_next_157 ?_
        refine mk_put C mk_inX9 tyX9 tyX9_ok nmX9 0 rfl rfl 11 (by decide) mw_913 rfl rfl rfl (Nat.le_of_ble_eq_true rfl) (ws' := (wModel aX cI cJ (upF 11 (if (((10 * (uX 11 0)) + ((uX 4) ((uX 8 0) : Int32).toNatClampNeg)) - 48) < 99999 then (((10 * (uX 11 0)) + ((uX 4) ((uX 8 0) : Int32).toNatClampNeg)) - 48) else 99999) uX) uL)) (st_X_X_11 cI cJ aX uX uL (if (((10 * (uX 11 0)) + ((uX 4) ((uX 8 0) : Int32).toNatClampNeg)) - 48) < 99999 then (((10 * (uX 11 0)) + ((uX 4) ((uX 8 0) : Int32).toNatClampNeg)) - 48) else 99999)) dX9_next_160 ?_
        refine mk_aload_n C 0 dX9_next_163 rfl ?_
        refine mk_dup C dX9_next_164 rfl ?_
        refine mk_get C mk_inX9 0 rfl rfl 8 (by decide) mw_910 (v := .int (uX 8 0)) rfl dX9_next_165 ?_
        refine mk_iconst C (v := 1) dX9_next_168 (by decide) ?_
        refine mk_iadd C dX9_next_169 ?_
        refine mk_put C mk_inX9 tyX9 tyX9_ok nmX9 0 rfl rfl 8 (by decide) mw_910 rfl rfl rfl (Nat.le_of_ble_eq_true rfl) (ws' := (wModel aX cI cJ (upF 8 ((uX 8 0) + 1) (upF 11 (if (((10 * (uX 11 0)) + ((uX 4) ((uX 8 0) : Int32).toNatClampNeg)) - 48) < 99999 then (((10 * (uX 11 0)) + ((uX 4) ((uX 8 0) : Int32).toNatClampNeg)) - 48) else 99999) uX)) uL)) (st_X_X_8 cI cJ aX (upF 11 (if (((10 * (uX 11 0)) + ((uX 4) ((uX 8 0) : Int32).toNatClampNeg)) - 48) < 99999 then (((10 * (uX 11 0)) + ((uX 4) ((uX 8 0) : Int32).toNatClampNeg)) - 48) else 99999) uX) uL ((uX 8 0) + 1)) dX9_next_170 ?_
        refine mk_goto C 123 dX9_next_173 (by decide) ?_
        exact mk_lvsub [0] rfl (ih _ hf)
  have wL83 : ∀ (n : Nat) (uX : Nat → Nat → Int32), f_X_next_83 n uX = some wX → mk_Go p l e (headSpec (mk_ws yX9_next cX9_next 1 none) ({ frames := 2, cells := 0, slots := 0, locals := 47 })).room s m args below meth c D A 1 0 0 (MQ below (mk_Q none D (wModel aX cI cJ wX uL) A) args s 0 0 A) 83 (wModel aX cI cJ uX uL) [(0, .ref (aX 0))] [] := by
    intro  n
    induction n with
    | zero => intro uX hf; exact nomatch (show (none : Option ((Nat → Nat → Int32))) = some _ from hf)
    | succ n ih =>
      intro uX hf
      rw [f_X_next_83] at hf
      refine mk_aload_n C 0 dX9_next_83 rfl ?_
      refine mk_bipush C (v := 97) dX9_next_84 (by decide) ?_
      refine mk_bipush C (v := 122) dX9_next_86 (by decide) ?_
      obtain ⟨r5, h6, hf⟩ := b1_some hf
      refine mk_callVi C (c_X_isAt l D cI cJ X Y aX uX uL 97 122 r5 h6) mw_1063 mw_1065 mw_s1 mw_10 mw_1066 mkn_X9_isAt rfl ⟨Nat.le_of_ble_eq_true rfl, Nat.le_of_ble_eq_true rfl⟩ 0 rfl rfl rfl (mk_Fr.all _ _) (Nat.le_of_ble_eq_true rfl) dX9_next_88 rfl ?_
      refine mk_if_eq C 206 dX9_next_91 (by decide) (fun c7 => ?_) (fun c7 => ?_)
      · replace hf := (if_pos c7).symm.trans hf
        have e0 := Option.some.inj hf
        exact mk_vret C hr hlk (by rw [← e0]) dX9_next_206
      · replace hf := (if_neg c7).symm.trans hf
        refine mk_aload_n C 0 dX9_next_94 rfl ?_
        refine mk_dup C dX9_next_95 rfl ?_
        refine mk_get C mk_inX9 0 rfl rfl 8 (by decide) mw_910 (v := .int (uX 8 0)) rfl dX9_next_96 ?_
        refine mk_iconst C (v := 1) dX9_next_99 (by decide) ?_
        refine mk_iadd C dX9_next_100 ?_
        refine mk_put C mk_inX9 tyX9 tyX9_ok nmX9 0 rfl rfl 8 (by decide) mw_910 rfl rfl rfl (Nat.le_of_ble_eq_true rfl) (ws' := (wModel aX cI cJ (upF 8 ((uX 8 0) + 1) uX) uL)) (st_X_X_8 cI cJ aX uX uL ((uX 8 0) + 1)) dX9_next_101 ?_
        refine mk_goto C 83 dX9_next_104 (by decide) ?_
        exact mk_lvsub [0] rfl (ih _ hf)
  have wL22 : ∀ (k0 : (Nat → Nat → Int32) → Option ((Nat → Nat → Int32))), (∀ (uX : Nat → Nat → Int32), k0 uX = some wX → mk_Go p l e (headSpec (mk_ws yX9_next cX9_next 1 none) ({ frames := 2, cells := 0, slots := 0, locals := 47 })).room s m args below meth c D A 1 0 0 (MQ below (mk_Q none D (wModel aX cI cJ wX uL) A) args s 0 0 A) 0 (wModel aX cI cJ uX uL) [(0, .ref (aX 0))] []) → ∀ (uX : Nat → Nat → Int32), f_X_next_22 k0 uX = some wX → mk_Go p l e (headSpec (mk_ws yX9_next cX9_next 1 none) ({ frames := 2, cells := 0, slots := 0, locals := 47 })).room s m args below meth c D A 1 0 0 (MQ below (mk_Q none D (wModel aX cI cJ wX uL) A) args s 0 0 A) 22 (wModel aX cI cJ uX uL) [(0, .ref (aX 0))] [] := by
    intro k0 hk0 uX hf
    unfold f_X_next_22 at hf
    refine mk_aload_n C 0 dX9_next_22 rfl ?_
    refine mk_dup C dX9_next_23 rfl ?_
    refine mk_get C mk_inX9 0 rfl rfl 8 (by decide) mw_910 (v := .int (uX 8 0)) rfl dX9_next_24 ?_
    refine mk_iconst C (v := 1) dX9_next_27 (by decide) ?_
    refine mk_iadd C dX9_next_28 ?_
    refine mk_put C mk_inX9 tyX9 tyX9_ok nmX9 0 rfl rfl 8 (by decide) mw_910 rfl rfl rfl (Nat.le_of_ble_eq_true rfl) (ws' := (wModel aX cI cJ (upF 8 ((uX 8 0) + 1) uX) uL)) (st_X_X_8 cI cJ aX uX uL ((uX 8 0) + 1)) dX9_next_29 ?_
    refine mk_goto C 0 dX9_next_32 (by decide) ?_
    exact mk_lvsub [0] rfl (hk0 _ hf)
  have wL0 : ∀ (n : Nat) (uX : Nat → Nat → Int32), f_X_next_0 n uX = some wX → mk_Go p l e (headSpec (mk_ws yX9_next cX9_next 1 none) ({ frames := 2, cells := 0, slots := 0, locals := 47 })).room s m args below meth c D A 1 0 0 (MQ below (mk_Q none D (wModel aX cI cJ wX uL) A) args s 0 0 A) 0 (wModel aX cI cJ uX uL) [(0, .ref (aX 0))] [] := by
    intro  n
    induction n with
    | zero => intro uX hf; exact nomatch (show (none : Option ((Nat → Nat → Int32))) = some _ from hf)
    | succ n ih =>
      intro uX hf
      rw [f_X_next_0] at hf
      refine mk_aload_n C 0 dX9_next_0 rfl ?_
      refine mk_bipush C (v := 32) dX9_next_1 (by decide) ?_
      refine mk_bipush C (v := 32) dX9_next_3 (by decide) ?_
      obtain ⟨r8, h9, hf⟩ := b1_some hf
      refine mk_callVi C (c_X_isAt l D cI cJ X Y aX uX uL 32 32 r8 h9) mw_1063 mw_1065 mw_s1 mw_10 mw_1066 mkn_X9_isAt rfl ⟨Nat.le_of_ble_eq_true rfl, Nat.le_of_ble_eq_true rfl⟩ 0 rfl rfl rfl (mk_Fr.all _ _) (Nat.le_of_ble_eq_true rfl) dX9_next_5 rfl ?_
      refine mk_if_ne C 22 dX9_next_8 (by decide) (fun c10 => ?_) (fun c10 => ?_)
      · replace hf := (if_neg c10).symm.trans hf
        exact mk_lvsub [0] rfl (wL22 _ ih _ hf)
      · replace hf := (if_pos c10).symm.trans hf
        refine mk_aload_n C 0 dX9_next_11 rfl ?_
        refine mk_bipush C (v := 10) dX9_next_12 (by decide) ?_
        refine mk_bipush C (v := 10) dX9_next_14 (by decide) ?_
        obtain ⟨r11, h12, hf⟩ := b1_some hf
        refine mk_callVi C (c_X_isAt l D cI cJ X Y aX uX uL 10 10 r11 h12) mw_1063 mw_1065 mw_s1 mw_10 mw_1066 mkn_X9_isAt rfl ⟨Nat.le_of_ble_eq_true rfl, Nat.le_of_ble_eq_true rfl⟩ 0 rfl rfl rfl (mk_Fr.all _ _) (Nat.le_of_ble_eq_true rfl) dX9_next_16 rfl ?_
        refine mk_if_eq C 35 dX9_next_19 (by decide) (fun c13 => ?_) (fun c13 => ?_)
        · replace hf := (if_pos c13).symm.trans hf
          refine mk_aload_n C 0 dX9_next_35 rfl ?_
          refine mk_aload_n C 0 dX9_next_36 rfl ?_
          refine mk_get C mk_inX9 0 rfl rfl 8 (by decide) mw_910 (v := .int (uX 8 0)) rfl dX9_next_37 ?_
          refine mk_put C mk_inX9 tyX9 tyX9_ok nmX9 0 rfl rfl 9 (by decide) mw_911 rfl rfl rfl (Nat.le_of_ble_eq_true rfl) (ws' := (wModel aX cI cJ (upF 9 (uX 8 0) uX) uL)) (st_X_X_9 cI cJ aX uX uL (uX 8 0)) dX9_next_40 ?_
          refine mk_aload_n C 0 dX9_next_43 rfl ?_
          refine mk_iconst C (v := 0) dX9_next_44 (by decide) ?_
          refine mk_put C mk_inX9 tyX9 tyX9_ok nmX9 0 rfl rfl 11 (by decide) mw_913 rfl rfl rfl (Nat.le_of_ble_eq_true rfl) (ws' := (wModel aX cI cJ (upF 11 0 (upF 9 (uX 8 0) uX)) uL)) (st_X_X_11 cI cJ aX (upF 9 (uX 8 0) uX) uL 0) dX9_next_45 ?_
          refine mk_aload_n C 0 dX9_next_48 rfl ?_
          refine mk_get C mk_inX9 0 rfl rfl 8 (by decide) mw_910 (v := .int (uX 8 0)) rfl dX9_next_49 ?_
          refine mk_aload_n C 0 dX9_next_52 rfl ?_
          refine mk_get C mk_inX9 0 rfl rfl 5 (by decide) mw_907 (v := .int (uX 5 0)) rfl dX9_next_53 ?_
          refine mk_icmp_ne C 67 dX9_next_56 (by decide) (fun c14 => ?_) (fun c14 => ?_)
          · replace hf := (if_neg c14).symm.trans hf
            refine mk_aload_n C 0 dX9_next_67 rfl ?_
            refine mk_bipush C (v := 97) dX9_next_68 (by decide) ?_
            refine mk_bipush C (v := 122) dX9_next_70 (by decide) ?_
            obtain ⟨r15, h16, hf⟩ := b1_some hf
            refine mk_callVi C (c_X_isAt l D cI cJ X Y aX (upF 11 0 (upF 9 (uX 8 0) uX)) uL 97 122 r15 h16) mw_1063 mw_1065 mw_s1 mw_10 mw_1066 mkn_X9_isAt rfl ⟨Nat.le_of_ble_eq_true rfl, Nat.le_of_ble_eq_true rfl⟩ 0 rfl rfl rfl (mk_Fr.all _ _) (Nat.le_of_ble_eq_true rfl) dX9_next_72 rfl ?_
            refine mk_if_eq C 107 dX9_next_75 (by decide) (fun c17 => ?_) (fun c17 => ?_)
            · replace hf := (if_pos c17).symm.trans hf
              refine mk_aload_n C 0 dX9_next_107 rfl ?_
              refine mk_bipush C (v := 48) dX9_next_108 (by decide) ?_
              refine mk_bipush C (v := 57) dX9_next_110 (by decide) ?_
              obtain ⟨r18, h19, hf⟩ := b1_some hf
              refine mk_callVi C (c_X_isAt l D cI cJ X Y aX (upF 11 0 (upF 9 (uX 8 0) uX)) uL 48 57 r18 h19) mw_1063 mw_1065 mw_s1 mw_10 mw_1066 mkn_X9_isAt rfl ⟨Nat.le_of_ble_eq_true rfl, Nat.le_of_ble_eq_true rfl⟩ 0 rfl rfl rfl (mk_Fr.all _ _) (Nat.le_of_ble_eq_true rfl) dX9_next_112 rfl ?_
              refine mk_if_eq C 176 dX9_next_115 (by decide) (fun c20 => ?_) (fun c20 => ?_)
              · replace hf := (if_pos c20).symm.trans hf
                refine mk_aload_n C 0 dX9_next_176 rfl ?_
                refine mk_aload_n C 0 dX9_next_177 rfl ?_
                refine mk_bipush C (v := 59) dX9_next_178 (by decide) ?_
                refine mk_bipush C (v := 59) dX9_next_180 (by decide) ?_
                obtain ⟨r21, h22, hf⟩ := b1_some hf
                refine mk_callVi C (c_X_isAt l D cI cJ X Y aX (upF 11 0 (upF 9 (uX 8 0) uX)) uL 59 59 r21 h22) mw_1063 mw_1065 mw_s1 mw_10 mw_1066 mkn_X9_isAt rfl ⟨Nat.le_of_ble_eq_true rfl, Nat.le_of_ble_eq_true rfl⟩ 0 rfl rfl rfl (mk_Fr.all _ _) (Nat.le_of_ble_eq_true rfl) dX9_next_182 rfl ?_
                refine mk_if_eq C 192 dX9_next_185 (by decide) (fun c23 => ?_) (fun c23 => ?_)
                · replace hf := (if_pos c23).symm.trans hf
                  refine mk_iconst C (v := 4) dX9_next_192 (by decide) ?_
                  exact mk_lvsub [0] rfl (wL193 _ _ hf)
                · replace hf := (if_neg c23).symm.trans hf
                  refine mk_iconst C (v := 3) dX9_next_188 (by decide) ?_
                  refine mk_goto C 193 dX9_next_189 (by decide) ?_
                  exact mk_lvsub [0] rfl (wL193 _ _ hf)
              · replace hf := (if_neg c20).symm.trans hf
                refine mk_aload_n C 0 dX9_next_118 rfl ?_
                refine mk_iconst C (v := 2) dX9_next_119 (by decide) ?_
                refine mk_put C mk_inX9 tyX9 tyX9_ok nmX9 0 rfl rfl 10 (by decide) mw_912 rfl rfl rfl (Nat.le_of_ble_eq_true rfl) (ws' := (wModel aX cI cJ (upF 10 2 (upF 11 0 (upF 9 (uX 8 0) uX))) uL)) (st_X_X_10 cI cJ aX (upF 11 0 (upF 9 (uX 8 0) uX)) uL 2) dX9_next_120 ?_
                exact mk_lvsub [0] rfl (wL123 600 _ hf)
            · replace hf := (if_neg c17).symm.trans hf
              refine mk_aload_n C 0 dX9_next_78 rfl ?_
              refine mk_iconst C (v := 1) dX9_next_79 (by decide) ?_
              refine mk_put C mk_inX9 tyX9 tyX9_ok nmX9 0 rfl rfl 10 (by decide) mw_912 rfl rfl rfl (Nat.le_of_ble_eq_true rfl) (ws' := (wModel aX cI cJ (upF 10 1 (upF 11 0 (upF 9 (uX 8 0) uX))) uL)) (st_X_X_10 cI cJ aX (upF 11 0 (upF 9 (uX 8 0) uX)) uL 1) dX9_next_80 ?_
              exact mk_lvsub [0] rfl (wL83 600 _ hf)
          · replace hf := (if_pos c14).symm.trans hf
            refine mk_aload_n C 0 dX9_next_59 rfl ?_
            refine mk_iconst C (v := 0) dX9_next_60 (by decide) ?_
            refine mk_put C mk_inX9 tyX9 tyX9_ok nmX9 0 rfl rfl 10 (by decide) mw_912 rfl rfl rfl (Nat.le_of_ble_eq_true rfl) (ws' := (wModel aX cI cJ (upF 10 0 (upF 11 0 (upF 9 (uX 8 0) uX))) uL)) (st_X_X_10 cI cJ aX (upF 11 0 (upF 9 (uX 8 0) uX)) uL 0) dX9_next_61 ?_
            refine mk_goto C 206 dX9_next_64 (by decide) ?_
            have e0 := Option.some.inj hf
            exact mk_vret C hr hlk (by rw [← e0]) dX9_next_206
        · replace hf := (if_neg c13).symm.trans hf
          exact mk_lvsub [0] rfl (wL22 _ ih _ hf)
  show mk_Go p l e (headSpec (mk_ws yX9_next cX9_next 1 none) ({ frames := 2, cells := 0, slots := 0, locals := 47 })).room s m args below meth c D A 1 0 0 (MQ below (mk_Q none D (wModel aX cI cJ wX uL) A) args s 0 0 A) 0 (wModel aX cI cJ uX uL) [(0, .ref (aX 0))] []
  unfold f_X_next at hf
  exact mk_lvsub [0] rfl (wL0 600 _ hf)
set_option maxHeartbeats 40000000 in
set_option maxRecDepth 100000 in
theorem c_X_faults (l : Launch) (D : va_G) (cI cJ : ClassId) (X Y : Nat → Nat) (aX : Nat → Nat) (uX : Nat → Nat → Int32) (uL : Nat → Nat → Int64) (p1 : Int32) (wX : Nat → Nat → Int32) (hf : f_X_faults uX p1 = some wX) : mk_Met l yX9_faults cX9_faults 2 none ({ frames := 0, cells := 0, slots := 0, locals := 0 }) D [(cI, .int), (cJ, .long)] X Y [.ref (aX 0), .int p1] (wModel aX cI cJ uX uL) (wModel aX cI cJ wX uL) none 0 0 := by
  refine mk_start (own := RX9) (by decide) rfl (Nat.le_of_ble_eq_true rfl) ?_
  intro sz p e s m args below meth c A C hr hlk hnm
  replace C : mk_Cx p s m args c cX9_faults 2 RX9 D [(cI, .int), (cJ, .long)] X Y A := C
  show mk_Go p l e (headSpec (mk_ws yX9_faults cX9_faults 2 none) ({ frames := 0, cells := 0, slots := 0, locals := 0 })).room s m args below meth c D A 2 0 0 (MQ below (mk_Q none D (wModel aX cI cJ wX uL) A) args s 0 0 A) 0 (wModel aX cI cJ uX uL) [(0, .ref (aX 0)), (1, .int p1)] []
  unfold f_X_faults at hf
  refine mk_aload_n C 0 dX9_faults_0 rfl ?_
  refine mk_get C mk_inX9 0 rfl rfl 12 (by decide) mw_914 (v := .int (uX 12 0)) rfl dX9_faults_1 ?_
  refine mk_if_ne C 25 dX9_faults_4 (by decide) (fun c1 => ?_) (fun c1 => ?_)
  · replace hf := (if_neg c1).symm.trans hf
    have e0 := Option.some.inj hf
    exact mk_vret C hr hlk (by rw [← e0]) dX9_faults_25
  · replace hf := (if_pos c1).symm.trans hf
    refine mk_aload_n C 0 dX9_faults_7 rfl ?_
    refine mk_iconst C (v := 1) dX9_faults_8 (by decide) ?_
    refine mk_put C mk_inX9 tyX9 tyX9_ok nmX9 0 rfl rfl 12 (by decide) mw_914 rfl rfl rfl (Nat.le_of_ble_eq_true rfl) (ws' := (wModel aX cI cJ (upF 12 1 uX) uL)) (st_X_X_12 cI cJ aX uX uL 1) dX9_faults_9 ?_
    refine mk_aload_n C 0 dX9_faults_12 rfl ?_
    refine mk_iload_n C 1 dX9_faults_13 rfl ?_
    refine mk_put C mk_inX9 tyX9 tyX9_ok nmX9 0 rfl rfl 13 (by decide) mw_915 rfl rfl rfl (Nat.le_of_ble_eq_true rfl) (ws' := (wModel aX cI cJ (upF 13 p1 (upF 12 1 uX)) uL)) (st_X_X_13 cI cJ aX (upF 12 1 uX) uL p1) dX9_faults_14 ?_
    refine mk_aload_n C 0 dX9_faults_17 rfl ?_
    refine mk_aload_n C 0 dX9_faults_18 rfl ?_
    refine mk_get C mk_inX9 0 rfl rfl 9 (by decide) mw_911 (v := .int (uX 9 0)) rfl dX9_faults_19 ?_
    refine mk_put C mk_inX9 tyX9 tyX9_ok nmX9 0 rfl rfl 14 (by decide) mw_916 rfl rfl rfl (Nat.le_of_ble_eq_true rfl) (ws' := (wModel aX cI cJ (upF 14 (uX 9 0) (upF 13 p1 (upF 12 1 uX))) uL)) (st_X_X_14 cI cJ aX (upF 13 p1 (upF 12 1 uX)) uL (uX 9 0)) dX9_faults_22 ?_
    have e0 := Option.some.inj hf
    exact mk_vret C hr hlk (by rw [← e0]) dX9_faults_25
set_option maxHeartbeats 40000000 in
set_option maxRecDepth 100000 in
theorem c_X_isWord (l : Launch) (D : va_G) (cI cJ : ClassId) (X Y : Nat → Nat) (aX : Nat → Nat) (uX : Nat → Nat → Int32) (uL : Nat → Nat → Int64) (p1 : Nat) (hp1 : p1 < 13) (r : Int32) (hf : f_X_isWord uX p1 = some r) : mk_Met l yX9_isWord cX9_isWord 4 (some .boolean) ({ frames := 6, cells := 0, slots := 0, locals := 181 }) D [(cI, .int), (cJ, .long)] X Y [.ref (aX 0), .ref (X p1)] (wModel aX cI cJ uX uL) (wModel aX cI cJ uX uL) (some (.int r)) 0 0 := by
  refine mk_start (own := RX9) (by decide) rfl (Nat.le_of_ble_eq_true rfl) ?_
  intro sz p e s m args below meth c A C hr hlk hnm
  replace C : mk_Cx p s m args c cX9_isWord 4 RX9 D [(cI, .int), (cJ, .long)] X Y A := C
  have wL32 : ∀ (n : Nat) (v2 : Int32) (v3 : Int32), f_X_isWord_32 uX p1 n v2 v3 = some r → mk_Go p l e (headSpec (mk_ws yX9_isWord cX9_isWord 4 (some .boolean)) ({ frames := 6, cells := 0, slots := 0, locals := 181 })).room s m args below meth c D A 4 0 0 (MQ below (mk_Q (some (.int r)) D (wModel aX cI cJ uX uL) A) args s 0 0 A) 32 (wModel aX cI cJ uX uL) [(0, .ref (aX 0)), (1, .ref (X p1)), (2, .int v2), (3, .int v3)] [] := by
    intro  n
    induction n with
    | zero => intro v2 v3 hf; exact nomatch (show (none : Option (Int32)) = some _ from hf)
    | succ n ih =>
      intro v2 v3 hf
      rw [f_X_isWord_32] at hf
      refine mk_iload_n C 3 dX9_isWord_32 rfl ?_
      refine mk_aload_n C 1 dX9_isWord_33 rfl ?_
      refine mk_callEi C (c_slen l D cI cJ X Y p1 hp1) mw_1078 mw_420 mw_421 mw_11 mw_422 mkn_J0_length_8abf5 rfl ⟨Nat.le_of_ble_eq_true rfl, Nat.le_of_ble_eq_true rfl⟩ hp1 rfl (Nat.le_of_ble_eq_true rfl) dX9_isWord_34 rfl ?_
      refine mk_icmp_ge C 75 dX9_isWord_37 (by decide) (fun c1 => ?_) (fun c1 => ?_)
      · replace hf := (if_pos c1).symm.trans hf
        refine mk_iload_n C 2 dX9_isWord_75 rfl ?_
        obtain ⟨g2, hf⟩ := gZ_some hf
        have e0 := Option.some.inj hf
        exact mk_zret C hr hlk (mk_nz g2) e0 rfl dX9_isWord_76
      · replace hf := (if_neg c1).symm.trans hf
        refine mk_iload_n C 2 dX9_isWord_40 rfl ?_
        refine mk_if_eq C 75 dX9_isWord_41 (by decide) (fun c3 => ?_) (fun c3 => ?_)
        · replace hf := (if_pos c3).symm.trans hf
          refine mk_iload_n C 2 dX9_isWord_75 rfl ?_
          obtain ⟨g4, hf⟩ := gZ_some hf
          have e0 := Option.some.inj hf
          exact mk_zret C hr hlk (mk_nz g4) e0 rfl dX9_isWord_76
        · replace hf := (if_neg c3).symm.trans hf
          refine mk_aload_n C 0 dX9_isWord_44 rfl ?_
          refine mk_get C mk_inX9 0 rfl rfl 4 (by decide) mw_906 (v := .ref (aX 5)) rfl dX9_isWord_45 ?_
          refine mk_aload_n C 0 dX9_isWord_48 rfl ?_
          refine mk_get C mk_inX9 0 rfl rfl 9 (by decide) mw_911 (v := .int (uX 9 0)) rfl dX9_isWord_49 ?_
          refine mk_iload_n C 3 dX9_isWord_52 rfl ?_
          refine mk_iadd C dX9_isWord_53 ?_
          obtain ⟨g5, hf⟩ := gI_some hf
          refine mk_iald C 4 0 (f := (uX 4)) rfl rfl g5 (j := (((uX 9 0) + v3) : Int32).toNatClampNeg) rfl dX9_isWord_54 ?_
          refine mk_aload_n C 1 dX9_isWord_55 rfl ?_
          refine mk_iload_n C 3 dX9_isWord_56 rfl ?_
          obtain ⟨g6, hf⟩ := gS_some hf
          refine mk_callEi C (c_sat l D cI cJ X Y p1 hp1 v3 g6) mw_1079 mw_430 mw_431 mw_11 mw_432 mkn_J0_charAt_5068e rfl ⟨Nat.le_of_ble_eq_true rfl, Nat.le_of_ble_eq_true rfl⟩ hp1 rfl (Nat.le_of_ble_eq_true rfl) dX9_isWord_57 rfl ?_
          refine mk_icmp_ne C 67 dX9_isWord_60 (by decide) (fun c7 => ?_) (fun c7 => ?_)
          · replace hf := (if_neg c7).symm.trans hf
            refine mk_iconst C (v := 0) dX9_isWord_67 (by decide) ?_
            refine mk_istore_n C (lv' := [(2, .int 0), (0, .ref (aX 0)), (1, .ref (X p1)), (3, .int v3)]) dX9_isWord_68 (by decide) rfl ?_
            refine mk_iinc C (v := (v3 + 1)) (lv' := [(3, .int (v3 + 1)), (2, .int 0), (0, .ref (aX 0)), (1, .ref (X p1))]) 3 dX9_isWord_69 rfl rfl (by decide) rfl ?_
            refine mk_goto C 32 dX9_isWord_72 (by decide) ?_
            exact mk_lvsub [2, 3, 1, 0] rfl (ih _ _ hf)
          · replace hf := (if_pos c7).symm.trans hf
            refine mk_iconst C (v := 1) dX9_isWord_63 (by decide) ?_
            refine mk_goto C 68 dX9_isWord_64 (by decide) ?_
            refine mk_istore_n C (lv' := [(2, .int 1), (0, .ref (aX 0)), (1, .ref (X p1)), (3, .int v3)]) dX9_isWord_68 (by decide) rfl ?_
            refine mk_iinc C (v := (v3 + 1)) (lv' := [(3, .int (v3 + 1)), (2, .int 1), (0, .ref (aX 0)), (1, .ref (X p1))]) 3 dX9_isWord_69 rfl rfl (by decide) rfl ?_
            refine mk_goto C 32 dX9_isWord_72 (by decide) ?_
            exact mk_lvsub [2, 3, 1, 0] rfl (ih _ _ hf)
  show mk_Go p l e (headSpec (mk_ws yX9_isWord cX9_isWord 4 (some .boolean)) ({ frames := 6, cells := 0, slots := 0, locals := 181 })).room s m args below meth c D A 4 0 0 (MQ below (mk_Q (some (.int r)) D (wModel aX cI cJ uX uL) A) args s 0 0 A) 0 (wModel aX cI cJ uX uL) [(0, .ref (aX 0)), (1, .ref (X p1))] []
  unfold f_X_isWord at hf
  refine mk_aload_n C 0 dX9_isWord_0 rfl ?_
  refine mk_get C mk_inX9 0 rfl rfl 10 (by decide) mw_912 (v := .int (uX 10 0)) rfl dX9_isWord_1 ?_
  refine mk_iconst C (v := 1) dX9_isWord_4 (by decide) ?_
  refine mk_icmp_ne C 28 dX9_isWord_5 (by decide) (fun c8 => ?_) (fun c8 => ?_)
  · replace hf := (if_neg c8).symm.trans hf
    refine mk_iconst C (v := 0) dX9_isWord_28 (by decide) ?_
    refine mk_istore_n C (lv' := [(2, .int 0), (0, .ref (aX 0)), (1, .ref (X p1))]) dX9_isWord_29 (by decide) rfl ?_
    refine mk_iconst C (v := 0) dX9_isWord_30 (by decide) ?_
    refine mk_istore_n C (lv' := [(3, .int 0), (2, .int 0), (0, .ref (aX 0)), (1, .ref (X p1))]) dX9_isWord_31 (by decide) rfl ?_
    exact mk_lvsub [2, 3, 1, 0] rfl (wL32 600 _ _ hf)
  · replace hf := (if_pos c8).symm.trans hf
    refine mk_aload_n C 0 dX9_isWord_8 rfl ?_
    refine mk_get C mk_inX9 0 rfl rfl 8 (by decide) mw_910 (v := .int (uX 8 0)) rfl dX9_isWord_9 ?_
    refine mk_aload_n C 0 dX9_isWord_12 rfl ?_
    refine mk_get C mk_inX9 0 rfl rfl 9 (by decide) mw_911 (v := .int (uX 9 0)) rfl dX9_isWord_13 ?_
    refine mk_isub C dX9_isWord_16 ?_
    refine mk_aload_n C 1 dX9_isWord_17 rfl ?_
    refine mk_callEi C (c_slen l D cI cJ X Y p1 hp1) mw_1078 mw_420 mw_421 mw_11 mw_422 mkn_J0_length_8abf5 rfl ⟨Nat.le_of_ble_eq_true rfl, Nat.le_of_ble_eq_true rfl⟩ hp1 rfl (Nat.le_of_ble_eq_true rfl) dX9_isWord_18 rfl ?_
    refine mk_icmp_ne C 28 dX9_isWord_21 (by decide) (fun c9 => ?_) (fun c9 => ?_)
    · replace hf := (if_neg c9).symm.trans hf
      refine mk_iconst C (v := 0) dX9_isWord_28 (by decide) ?_
      refine mk_istore_n C (lv' := [(2, .int 0), (0, .ref (aX 0)), (1, .ref (X p1))]) dX9_isWord_29 (by decide) rfl ?_
      refine mk_iconst C (v := 0) dX9_isWord_30 (by decide) ?_
      refine mk_istore_n C (lv' := [(3, .int 0), (2, .int 0), (0, .ref (aX 0)), (1, .ref (X p1))]) dX9_isWord_31 (by decide) rfl ?_
      exact mk_lvsub [2, 3, 1, 0] rfl (wL32 600 _ _ hf)
    · replace hf := (if_pos c9).symm.trans hf
      refine mk_iconst C (v := 1) dX9_isWord_24 (by decide) ?_
      refine mk_goto C 29 dX9_isWord_25 (by decide) ?_
      refine mk_istore_n C (lv' := [(2, .int 1), (0, .ref (aX 0)), (1, .ref (X p1))]) dX9_isWord_29 (by decide) rfl ?_
      refine mk_iconst C (v := 0) dX9_isWord_30 (by decide) ?_
      refine mk_istore_n C (lv' := [(3, .int 0), (2, .int 1), (0, .ref (aX 0)), (1, .ref (X p1))]) dX9_isWord_31 (by decide) rfl ?_
      exact mk_lvsub [2, 3, 1, 0] rfl (wL32 600 _ _ hf)
set_option maxHeartbeats 40000000 in
set_option maxRecDepth 100000 in
theorem c_X_passes (l : Launch) (D : va_G) (cI cJ : ClassId) (X Y : Nat → Nat) (aX : Nat → Nat) (uX : Nat → Nat → Int32) (uL : Nat → Nat → Int64) (p1 : Int32) (wX : Nat → Nat → Int32) (hf : f_X_passes uX p1 = some wX) : mk_Met l yX9_passes cX9_passes 2 none ({ frames := 3, cells := 0, slots := 0, locals := 67 }) D [(cI, .int), (cJ, .long)] X Y [.ref (aX 0), .int p1] (wModel aX cI cJ uX uL) (wModel aX cI cJ wX uL) none 0 0 := by
  refine mk_start (own := RX9) (by decide) rfl (Nat.le_of_ble_eq_true rfl) ?_
  intro sz p e s m args below meth c A C hr hlk hnm
  replace C : mk_Cx p s m args c cX9_passes 2 RX9 D [(cI, .int), (cJ, .long)] X Y A := C
  have wL9 : ∀ (uX : Nat → Nat → Int32), f_X_passes_9 p1 uX = some wX → mk_Go p l e (headSpec (mk_ws yX9_passes cX9_passes 2 none) ({ frames := 3, cells := 0, slots := 0, locals := 67 })).room s m args below meth c D A 2 0 0 (MQ below (mk_Q none D (wModel aX cI cJ wX uL) A) args s 0 0 A) 9 (wModel aX cI cJ uX uL) [(0, .ref (aX 0))] [] := by
    intro  uX hf
    unfold f_X_passes_9 at hf
    refine mk_aload_n C 0 dX9_passes_9 rfl ?_
    refine mk_get C mk_inX9 0 rfl rfl 12 (by decide) mw_914 (v := .int (uX 12 0)) rfl dX9_passes_10 ?_
    refine mk_if_ne C 20 dX9_passes_13 (by decide) (fun c1 => ?_) (fun c1 => ?_)
    · replace hf := (if_neg c1).symm.trans hf
      have e0 := Option.some.inj hf
      exact mk_vret C hr hlk (by rw [← e0]) dX9_passes_20
    · replace hf := (if_pos c1).symm.trans hf
      refine mk_aload_n C 0 dX9_passes_16 rfl ?_
      obtain ⟨uX_2, h3, hf⟩ := b1_some hf
      refine mk_callVv C (c_X_next l D cI cJ X Y aX uX uL uX_2 h3) mw_1059 mw_1061 mw_s0 mw_10 mw_1062 mkn_X9_next rfl ⟨Nat.le_of_ble_eq_true rfl, Nat.le_of_ble_eq_true rfl⟩ 0 rfl rfl rfl (mk_Fr.all _ _) (Nat.le_of_ble_eq_true rfl) dX9_passes_17 rfl ?_
      have e0 := Option.some.inj hf
      exact mk_vret C hr hlk (by rw [← e0]) dX9_passes_20
  show mk_Go p l e (headSpec (mk_ws yX9_passes cX9_passes 2 none) ({ frames := 3, cells := 0, slots := 0, locals := 67 })).room s m args below meth c D A 2 0 0 (MQ below (mk_Q none D (wModel aX cI cJ wX uL) A) args s 0 0 A) 0 (wModel aX cI cJ uX uL) [(0, .ref (aX 0)), (1, .int p1)] []
  unfold f_X_passes at hf
  refine mk_iload_n C 1 dX9_passes_0 rfl ?_
  refine mk_if_ne C 9 dX9_passes_1 (by decide) (fun c4 => ?_) (fun c4 => ?_)
  · replace hf := (if_neg c4).symm.trans hf
    exact mk_lvsub [0] rfl (wL9 _ hf)
  · replace hf := (if_pos c4).symm.trans hf
    refine mk_aload_n C 0 dX9_passes_4 rfl ?_
    refine mk_iconst C (v := 1) dX9_passes_5 (by decide) ?_
    obtain ⟨uX_5, h6, hf⟩ := b1_some hf
    refine mk_callVv C (c_X_faults l D cI cJ X Y aX uX uL 1 uX_5 h6) mw_1084 mw_1086 mw_s5 mw_10 mw_1087 mkn_X9_faults rfl ⟨Nat.le_of_ble_eq_true rfl, Nat.le_of_ble_eq_true rfl⟩ 0 rfl rfl rfl (mk_Fr.all _ _) (Nat.le_of_ble_eq_true rfl) dX9_passes_6 rfl ?_
    exact mk_lvsub [0] rfl (wL9 _ hf)
set_option maxHeartbeats 40000000 in
set_option maxRecDepth 100000 in
theorem c_X_reads (l : Launch) (D : va_G) (cI cJ : ClassId) (X Y : Nat → Nat) (aX : Nat → Nat) (uX : Nat → Nat → Int32) (uL : Nat → Nat → Int64) (p1 : Int32) (p2 : Int32) (r : Int32) (wX : Nat → Nat → Int32) (hf : f_X_reads uX p1 p2 = some (r, wX)) : mk_Met l yX9_reads cX9_reads 4 (some .int) ({ frames := 4, cells := 0, slots := 0, locals := 88 }) D [(cI, .int), (cJ, .long)] X Y [.ref (aX 0), .int p1, .int p2] (wModel aX cI cJ uX uL) (wModel aX cI cJ wX uL) (some (.int r)) 0 0 := by
  refine mk_start (own := RX9) (by decide) rfl (Nat.le_of_ble_eq_true rfl) ?_
  intro sz p e s m args below meth c A C hr hlk hnm
  replace C : mk_Cx p s m args c cX9_reads 4 RX9 D [(cI, .int), (cJ, .long)] X Y A := C
  have wL38 : ∀ (v3 : Int32) (uX : Nat → Nat → Int32), f_X_reads_38 p1 p2 v3 uX = some (r, wX) → mk_Go p l e (headSpec (mk_ws yX9_reads cX9_reads 4 (some .int)) ({ frames := 4, cells := 0, slots := 0, locals := 88 })).room s m args below meth c D A 4 0 0 (MQ below (mk_Q (some (.int r)) D (wModel aX cI cJ wX uL) A) args s 0 0 A) 38 (wModel aX cI cJ uX uL) [(0, .ref (aX 0)), (3, .int v3)] [] := by
    intro  v3 uX hf
    unfold f_X_reads_38 at hf
    refine mk_aload_n C 0 dX9_reads_38 rfl ?_
    refine mk_iconst C (v := 1) dX9_reads_39 (by decide) ?_
    obtain ⟨uX_1, h2, hf⟩ := b1_some hf
    refine mk_callVv C (c_X_passes l D cI cJ X Y aX uX uL 1 uX_1 h2) mw_1080 mw_1082 mw_s4 mw_10 mw_1083 mkn_X9_passes rfl ⟨Nat.le_of_ble_eq_true rfl, Nat.le_of_ble_eq_true rfl⟩ 0 rfl rfl rfl (mk_Fr.all _ _) (Nat.le_of_ble_eq_true rfl) dX9_reads_40 rfl ?_
    refine mk_iload_n C 1 dX9_reads_43 rfl ?_
    have e := Option.some.inj hf
    obtain ⟨e0, e1⟩ := Prod.mk.inj e
    exact mk_iret C hr hlk e0 (by rw [← e1]) dX9_reads_44
  show mk_Go p l e (headSpec (mk_ws yX9_reads cX9_reads 4 (some .int)) ({ frames := 4, cells := 0, slots := 0, locals := 88 })).room s m args below meth c D A 4 0 0 (MQ below (mk_Q (some (.int r)) D (wModel aX cI cJ wX uL) A) args s 0 0 A) 0 (wModel aX cI cJ uX uL) [(0, .ref (aX 0)), (1, .int p1), (2, .int p2)] []
  unfold f_X_reads at hf
  refine mk_aload_n C 0 dX9_reads_0 rfl ?_
  refine mk_get C mk_inX9 0 rfl rfl 11 (by decide) mw_913 (v := .int (uX 11 0)) rfl dX9_reads_1 ?_
  refine mk_istore_n C (lv' := [(3, .int (uX 11 0)), (0, .ref (aX 0)), (1, .int p1), (2, .int p2)]) dX9_reads_4 (by decide) rfl ?_
  refine mk_aload_n C 1 dX9_reads_5 rfl ?_
  refine mk_get C mk_inX9 0 rfl rfl 10 (by decide) mw_912 (v := .int (uX 10 0)) rfl dX9_reads_6 ?_
  refine mk_iconst C (v := 2) dX9_reads_9 (by decide) ?_
  refine mk_icmp_eq C 21 dX9_reads_10 (by decide) (fun c3 => ?_) (fun c3 => ?_)
  · replace hf := (if_pos c3).symm.trans hf
    refine mk_iload_n C 0 dX9_reads_21 rfl ?_
    refine mk_i2l C dX9_reads_22 ?_
    refine mk_iload_n C 2 dX9_reads_23 rfl ?_
    refine mk_i2l C dX9_reads_24 ?_
    refine mk_iload_n C 3 dX9_reads_25 rfl ?_
    refine mk_i2l C dX9_reads_26 ?_
    obtain ⟨r4, h5, hf⟩ := b1_some hf
    refine mk_callSi C (c_X_in l D cI cJ X Y (((uX 11 0) : Int32).toInt64) ((p1 : Int32).toInt64) ((p2 : Int32).toInt64) r4 h5) mw_1052 mw_1053 mw_10 mw_1054 mkn_X9_in rfl ⟨Nat.le_of_ble_eq_true rfl, Nat.le_of_ble_eq_true rfl⟩ (mk_Fr.nil _) (Nat.le_of_ble_eq_true rfl) dX9_reads_27 rfl ?_
    refine mk_if_ne C 38 dX9_reads_30 (by decide) (fun c6 => ?_) (fun c6 => ?_)
    · replace hf := (if_neg c6).symm.trans hf
      exact mk_lvsub [1, 0] rfl (wL38 _ _ hf)
    · replace hf := (if_pos c6).symm.trans hf
      refine mk_aload_n C 1 dX9_reads_33 rfl ?_
      refine mk_iconst C (v := 2) dX9_reads_34 (by decide) ?_
      obtain ⟨uX_7, h8, hf⟩ := b1_some hf
      refine mk_callVv C (c_X_faults l D cI cJ X Y aX uX uL 2 uX_7 h8) mw_1084 mw_1086 mw_s5 mw_10 mw_1087 mkn_X9_faults rfl ⟨Nat.le_of_ble_eq_true rfl, Nat.le_of_ble_eq_true rfl⟩ 0 rfl rfl rfl (mk_Fr.all _ _) (Nat.le_of_ble_eq_true rfl) dX9_reads_35 rfl ?_
      exact mk_lvsub [1, 0] rfl (wL38 _ _ hf)
  · replace hf := (if_neg c3).symm.trans hf
    refine mk_aload_n C 1 dX9_reads_13 rfl ?_
    refine mk_iconst C (v := 1) dX9_reads_14 (by decide) ?_
    obtain ⟨uX_9, h10, hf⟩ := b1_some hf
    refine mk_callVv C (c_X_faults l D cI cJ X Y aX uX uL 1 uX_9 h10) mw_1084 mw_1086 mw_s5 mw_10 mw_1087 mkn_X9_faults rfl ⟨Nat.le_of_ble_eq_true rfl, Nat.le_of_ble_eq_true rfl⟩ 0 rfl rfl rfl (mk_Fr.all _ _) (Nat.le_of_ble_eq_true rfl) dX9_reads_15 rfl ?_
    refine mk_goto C 38 dX9_reads_18 (by decide) ?_
    exact mk_lvsub [1, 0] rfl (wL38 _ _ hf)
set_option maxHeartbeats 40000000 in
set_option maxRecDepth 100000 in
theorem c_X_named (l : Launch) (D : va_G) (cI cJ : ClassId) (X Y : Nat → Nat) (aX : Nat → Nat) (uX : Nat → Nat → Int32) (uL : Nat → Nat → Int64) (p1 : Nat) (p2 : Int32) (p3 : Int32) (hp1 : p1 < 13) (r : Int32) (wX : Nat → Nat → Int32) (hf : f_X_named uX p1 p2 p3 = some (r, wX)) : mk_Met l yX9_named cX9_named 4 (some .int) ({ frames := 7, cells := 0, slots := 0, locals := 204 }) D [(cI, .int), (cJ, .long)] X Y [.ref (aX 0), .ref (X p1), .int p2, .int p3] (wModel aX cI cJ uX uL) (wModel aX cI cJ wX uL) (some (.int r)) 0 0 := by
  refine mk_start (own := RX9) (by decide) rfl (Nat.le_of_ble_eq_true rfl) ?_
  intro sz p e s m args below meth c A C hr hlk hnm
  replace C : mk_Cx p s m args c cX9_named 4 RX9 D [(cI, .int), (cJ, .long)] X Y A := C
  have wL21 : ∀ (t1 : Int32) (uX : Nat → Nat → Int32), f_X_named_21 p1 p2 p3 t1 uX = some (r, wX) → mk_Go p l e (headSpec (mk_ws yX9_named cX9_named 4 (some .int)) ({ frames := 7, cells := 0, slots := 0, locals := 204 })).room s m args below meth c D A 4 0 0 (MQ below (mk_Q (some (.int r)) D (wModel aX cI cJ wX uL) A) args s 0 0 A) 21 (wModel aX cI cJ uX uL) [(0, .ref (aX 0)), (2, .int p2), (3, .int p3)] [.int t1, .ref (aX 0)] := by
    intro  t1 uX hf
    unfold f_X_named_21 at hf
    obtain ⟨uX_1, h2, hf⟩ := b1_some hf
    refine mk_callVv C (c_X_passes l D cI cJ X Y aX uX uL t1 uX_1 h2) mw_1080 mw_1082 mw_s4 mw_10 mw_1083 mkn_X9_passes rfl ⟨Nat.le_of_ble_eq_true rfl, Nat.le_of_ble_eq_true rfl⟩ 0 rfl rfl rfl (mk_Fr.all _ _) (Nat.le_of_ble_eq_true rfl) dX9_named_21 rfl ?_
    refine mk_aload_n C 0 dX9_named_24 rfl ?_
    refine mk_get C mk_inX9 0 rfl rfl 12 (by decide) mw_914 (v := .int (uX_1 12 0)) rfl dX9_named_25 ?_
    refine mk_if_eq C 35 dX9_named_28 (by decide) (fun c3 => ?_) (fun c3 => ?_)
    · replace hf := (if_pos c3).symm.trans hf
      refine mk_aload_n C 0 dX9_named_35 rfl ?_
      refine mk_iload_n C 1 dX9_named_36 rfl ?_
      refine mk_iload_n C 2 dX9_named_37 rfl ?_
      obtain ⟨r4, uX_5, h6, hf⟩ := b2_some hf
      refine mk_callVi C (c_X_reads l D cI cJ X Y aX uX_1 uL p2 p3 r4 uX_5 h6) mw_1093 mw_1095 mw_s7 mw_10 mw_1096 mkn_X9_reads rfl ⟨Nat.le_of_ble_eq_true rfl, Nat.le_of_ble_eq_true rfl⟩ 0 rfl rfl rfl (mk_Fr.all _ _) (Nat.le_of_ble_eq_true rfl) dX9_named_38 rfl ?_
      have e := Option.some.inj hf
      obtain ⟨e0, e1⟩ := Prod.mk.inj e
      exact mk_iret C hr hlk e0 (by rw [← e1]) dX9_named_41
    · replace hf := (if_neg c3).symm.trans hf
      refine mk_iconst C (v := 0) dX9_named_31 (by decide) ?_
      refine mk_goto C 41 dX9_named_32 (by decide) ?_
      have e := Option.some.inj hf
      obtain ⟨e0, e1⟩ := Prod.mk.inj e
      exact mk_iret C hr hlk e0 (by rw [← e1]) dX9_named_41
  have wL16 : ∀ (uX : Nat → Nat → Int32), f_X_named_16 p1 p2 p3 uX = some (r, wX) → mk_Go p l e (headSpec (mk_ws yX9_named cX9_named 4 (some .int)) ({ frames := 7, cells := 0, slots := 0, locals := 204 })).room s m args below meth c D A 4 0 0 (MQ below (mk_Q (some (.int r)) D (wModel aX cI cJ wX uL) A) args s 0 0 A) 16 (wModel aX cI cJ uX uL) [(0, .ref (aX 0)), (2, .int p2), (3, .int p3)] [.ref (aX 0)] := by
    intro  uX hf
    unfold f_X_named_16 at hf
    refine mk_iconst C (v := 1) dX9_named_16 (by decide) ?_
    refine mk_goto C 21 dX9_named_17 (by decide) ?_
    exact mk_lvsub [0, 1, 2] rfl (wL21 _ _ hf)
  show mk_Go p l e (headSpec (mk_ws yX9_named cX9_named 4 (some .int)) ({ frames := 7, cells := 0, slots := 0, locals := 204 })).room s m args below meth c D A 4 0 0 (MQ below (mk_Q (some (.int r)) D (wModel aX cI cJ wX uL) A) args s 0 0 A) 0 (wModel aX cI cJ uX uL) [(0, .ref (aX 0)), (1, .ref (X p1)), (2, .int p2), (3, .int p3)] []
  unfold f_X_named at hf
  refine mk_aload_n C 0 dX9_named_0 rfl ?_
  refine mk_aload_n C 0 dX9_named_1 rfl ?_
  refine mk_get C mk_inX9 0 rfl rfl 12 (by decide) mw_914 (v := .int (uX 12 0)) rfl dX9_named_2 ?_
  refine mk_if_ne C 16 dX9_named_5 (by decide) (fun c7 => ?_) (fun c7 => ?_)
  · replace hf := (if_neg c7).symm.trans hf
    exact mk_lvsub [0, 2, 3] rfl (wL16 _ hf)
  · replace hf := (if_pos c7).symm.trans hf
    refine mk_aload_n C 0 dX9_named_8 rfl ?_
    refine mk_aload_n C 1 dX9_named_9 rfl ?_
    obtain ⟨r8, h9, hf⟩ := b1_some hf
    refine mk_callVi C (c_X_isWord l D cI cJ X Y aX uX uL p1 hp1 r8 h9) mw_1074 mw_1076 mw_s3 mw_10 mw_1077 mkn_X9_isWord rfl ⟨Nat.le_of_ble_eq_true rfl, Nat.le_of_ble_eq_true rfl⟩ 0 rfl rfl rfl (mk_Fr.all _ _) (Nat.le_of_ble_eq_true rfl) dX9_named_10 rfl ?_
    refine mk_if_eq C 20 dX9_named_13 (by decide) (fun c10 => ?_) (fun c10 => ?_)
    · replace hf := (if_pos c10).symm.trans hf
      refine mk_iconst C (v := 0) dX9_named_20 (by decide) ?_
      exact mk_lvsub [0, 2, 3] rfl (wL21 _ _ hf)
    · replace hf := (if_neg c10).symm.trans hf
      exact mk_lvsub [0, 2, 3] rfl (wL16 _ hf)
set_option maxHeartbeats 40000000 in
set_option maxRecDepth 100000 in
theorem c_X_readsChannel (l : Launch) (D : va_G) (cI cJ : ClassId) (X Y : Nat → Nat) (aX : Nat → Nat) (uX : Nat → Nat → Int32) (uL : Nat → Nat → Int64) (wX : Nat → Nat → Int32) (hf : f_X_readsChannel uX = some wX) : mk_Met l yX9_readsChannel cX9_readsChannel 1 none ({ frames := 8, cells := 0, slots := 0, locals := 227 }) D [(cI, .int), (cJ, .long)] X Y [.ref (aX 0)] (wModel aX cI cJ uX uL) (wModel aX cI cJ wX uL) none 0 0 := by
  refine mk_start (own := RX9) (by decide) rfl (Nat.le_of_ble_eq_true rfl) ?_
  intro sz p e s m args below meth c A C hr hlk hnm
  replace C : mk_Cx p s m args c cX9_readsChannel 1 RX9 D [(cI, .int), (cJ, .long)] X Y A := C
  show mk_Go p l e (headSpec (mk_ws yX9_readsChannel cX9_readsChannel 1 none) ({ frames := 8, cells := 0, slots := 0, locals := 227 })).room s m args below meth c D A 1 0 0 (MQ below (mk_Q none D (wModel aX cI cJ wX uL) A) args s 0 0 A) 0 (wModel aX cI cJ uX uL) [(0, .ref (aX 0))] []
  unfold f_X_readsChannel at hf
  refine mk_aload_n C 0 dX9_readsChannel_0 rfl ?_
  refine mk_aload_n C 0 dX9_readsChannel_1 rfl ?_
  refine mk_ldcS C (k := 0) (List.mem_of_getElem? (i := 13) rfl) dX9_readsChannel_2 ?_
  obtain ⟨r1, h2, hf⟩ := b1_some hf
  refine mk_callVi C (c_X_isWord l D cI cJ X Y aX uX uL 0 (by decide) r1 h2) mw_1074 mw_1076 mw_s3 mw_10 mw_1077 mkn_X9_isWord rfl ⟨Nat.le_of_ble_eq_true rfl, Nat.le_of_ble_eq_true rfl⟩ 0 rfl rfl rfl (mk_Fr.all _ _) (Nat.le_of_ble_eq_true rfl) dX9_readsChannel_4 rfl ?_
  obtain ⟨uX_3, h4, hf⟩ := b1_some hf
  refine mk_callVv C (c_X_passes l D cI cJ X Y aX uX uL r1 uX_3 h4) mw_1080 mw_1082 mw_s4 mw_10 mw_1083 mkn_X9_passes rfl ⟨Nat.le_of_ble_eq_true rfl, Nat.le_of_ble_eq_true rfl⟩ 0 rfl rfl rfl (mk_Fr.all _ _) (Nat.le_of_ble_eq_true rfl) dX9_readsChannel_7 rfl ?_
  refine mk_aload_n C 0 dX9_readsChannel_10 rfl ?_
  refine mk_get C mk_inX9 0 rfl rfl 0 (by decide) mw_902 (v := .ref (aX 1)) rfl dX9_readsChannel_11 ?_
  refine mk_iconst C (v := 0) dX9_readsChannel_14 (by decide) ?_
  refine mk_aload_n C 0 dX9_readsChannel_15 rfl ?_
  refine mk_ldcS C (k := 1) (List.mem_of_getElem? (i := 14) rfl) dX9_readsChannel_16 ?_
  refine mk_iconst C (v := 0) dX9_readsChannel_18 (by decide) ?_
  refine mk_iconst C (v := 3) dX9_readsChannel_19 (by decide) ?_
  obtain ⟨r5, uX_6, h7, hf⟩ := b2_some hf
  refine mk_callVi C (c_X_named l D cI cJ X Y aX uX_3 uL 1 0 3 (by decide) r5 uX_6 h7) mw_1089 mw_1091 mw_s6 mw_10 mw_1092 mkn_X9_named rfl ⟨Nat.le_of_ble_eq_true rfl, Nat.le_of_ble_eq_true rfl⟩ 0 rfl rfl rfl (mk_Fr.all _ _) (Nat.le_of_ble_eq_true rfl) dX9_readsChannel_20 rfl ?_
  refine mk_iast C 1 0 (f := (uX_6 0)) rfl rfl (mk_vi (by decide)) (j := 0) (by decide) (ws' := (wModel aX cI cJ (upR 0 (upd (uX_6 0) 0 r5) uX_6) uL)) (st_X_X_0 cI cJ aX uX_6 uL (upd (uX_6 0) 0 r5)) dX9_readsChannel_23 ?_
  refine mk_aload_n C 0 dX9_readsChannel_24 rfl ?_
  refine mk_get C mk_inX9 0 rfl rfl 0 (by decide) mw_902 (v := .ref (aX 1)) rfl dX9_readsChannel_25 ?_
  refine mk_iconst C (v := 1) dX9_readsChannel_28 (by decide) ?_
  refine mk_aload_n C 0 dX9_readsChannel_29 rfl ?_
  refine mk_ldcS C (k := 2) (List.mem_of_getElem? (i := 15) rfl) dX9_readsChannel_30 ?_
  refine mk_iconst C (v := 1) dX9_readsChannel_32 (by decide) ?_
  refine mk_sipush C (v := 200) dX9_readsChannel_33 (by decide) ?_
  obtain ⟨r8, uX_9, h10, hf⟩ := b2_some hf
  refine mk_callVi C (c_X_named l D cI cJ X Y aX (upR 0 (upd (uX_6 0) 0 r5) uX_6) uL 2 1 200 (by decide) r8 uX_9 h10) mw_1089 mw_1091 mw_s6 mw_10 mw_1092 mkn_X9_named rfl ⟨Nat.le_of_ble_eq_true rfl, Nat.le_of_ble_eq_true rfl⟩ 0 rfl rfl rfl (mk_Fr.all _ _) (Nat.le_of_ble_eq_true rfl) dX9_readsChannel_36 rfl ?_
  refine mk_iast C 1 0 (f := (uX_9 0)) rfl rfl (mk_vi (by decide)) (j := 1) (by decide) (ws' := (wModel aX cI cJ (upR 0 (upd (uX_9 0) 1 r8) uX_9) uL)) (st_X_X_0 cI cJ aX uX_9 uL (upd (uX_9 0) 1 r8)) dX9_readsChannel_39 ?_
  refine mk_aload_n C 0 dX9_readsChannel_40 rfl ?_
  refine mk_get C mk_inX9 0 rfl rfl 0 (by decide) mw_902 (v := .ref (aX 1)) rfl dX9_readsChannel_41 ?_
  refine mk_iconst C (v := 2) dX9_readsChannel_44 (by decide) ?_
  refine mk_aload_n C 0 dX9_readsChannel_45 rfl ?_
  refine mk_ldcS C (k := 3) (List.mem_of_getElem? (i := 16) rfl) dX9_readsChannel_46 ?_
  refine mk_iconst C (v := 0) dX9_readsChannel_48 (by decide) ?_
  refine mk_bipush C (v := 9) dX9_readsChannel_49 (by decide) ?_
  obtain ⟨r11, uX_12, h13, hf⟩ := b2_some hf
  refine mk_callVi C (c_X_named l D cI cJ X Y aX (upR 0 (upd (uX_9 0) 1 r8) uX_9) uL 3 0 9 (by decide) r11 uX_12 h13) mw_1089 mw_1091 mw_s6 mw_10 mw_1092 mkn_X9_named rfl ⟨Nat.le_of_ble_eq_true rfl, Nat.le_of_ble_eq_true rfl⟩ 0 rfl rfl rfl (mk_Fr.all _ _) (Nat.le_of_ble_eq_true rfl) dX9_readsChannel_51 rfl ?_
  refine mk_iast C 1 0 (f := (uX_12 0)) rfl rfl (mk_vi (by decide)) (j := 2) (by decide) (ws' := (wModel aX cI cJ (upR 0 (upd (uX_12 0) 2 r11) uX_12) uL)) (st_X_X_0 cI cJ aX uX_12 uL (upd (uX_12 0) 2 r11)) dX9_readsChannel_54 ?_
  refine mk_aload_n C 0 dX9_readsChannel_55 rfl ?_
  refine mk_get C mk_inX9 0 rfl rfl 0 (by decide) mw_902 (v := .ref (aX 1)) rfl dX9_readsChannel_56 ?_
  refine mk_iconst C (v := 3) dX9_readsChannel_59 (by decide) ?_
  refine mk_aload_n C 0 dX9_readsChannel_60 rfl ?_
  refine mk_ldcS C (k := 4) (List.mem_of_getElem? (i := 17) rfl) dX9_readsChannel_61 ?_
  refine mk_iconst C (v := 1) dX9_readsChannel_63 (by decide) ?_
  refine mk_bipush C (v := 20) dX9_readsChannel_64 (by decide) ?_
  obtain ⟨r14, uX_15, h16, hf⟩ := b2_some hf
  refine mk_callVi C (c_X_named l D cI cJ X Y aX (upR 0 (upd (uX_12 0) 2 r11) uX_12) uL 4 1 20 (by decide) r14 uX_15 h16) mw_1089 mw_1091 mw_s6 mw_10 mw_1092 mkn_X9_named rfl ⟨Nat.le_of_ble_eq_true rfl, Nat.le_of_ble_eq_true rfl⟩ 0 rfl rfl rfl (mk_Fr.all _ _) (Nat.le_of_ble_eq_true rfl) dX9_readsChannel_66 rfl ?_
  refine mk_iast C 1 0 (f := (uX_15 0)) rfl rfl (mk_vi (by decide)) (j := 3) (by decide) (ws' := (wModel aX cI cJ (upR 0 (upd (uX_15 0) 3 r14) uX_15) uL)) (st_X_X_0 cI cJ aX uX_15 uL (upd (uX_15 0) 3 r14)) dX9_readsChannel_69 ?_
  have e0 := Option.some.inj hf
  exact mk_vret C hr hlk (by rw [← e0]) dX9_readsChannel_70
set_option maxHeartbeats 40000000 in
set_option maxRecDepth 100000 in
theorem c_X_readsSender (l : Launch) (D : va_G) (cI cJ : ClassId) (X Y : Nat → Nat) (aX : Nat → Nat) (uX : Nat → Nat → Int32) (uL : Nat → Nat → Int64) (wX : Nat → Nat → Int32) (hf : f_X_readsSender uX = some wX) : mk_Met l yX9_readsSender cX9_readsSender 3 none ({ frames := 8, cells := 0, slots := 0, locals := 227 }) D [(cI, .int), (cJ, .long)] X Y [.ref (aX 0)] (wModel aX cI cJ uX uL) (wModel aX cI cJ wX uL) none 0 0 := by
  refine mk_start (own := RX9) (by decide) rfl (Nat.le_of_ble_eq_true rfl) ?_
  intro sz p e s m args below meth c A C hr hlk hnm
  replace C : mk_Cx p s m args c cX9_readsSender 3 RX9 D [(cI, .int), (cJ, .long)] X Y A := C
  have wL184 : ∀ (v1 : Int32) (uX : Nat → Nat → Int32), f_X_readsSender_184 v1 uX = some wX → mk_Go p l e (headSpec (mk_ws yX9_readsSender cX9_readsSender 3 none) ({ frames := 8, cells := 0, slots := 0, locals := 227 })).room s m args below meth c D A 3 0 0 (MQ below (mk_Q none D (wModel aX cI cJ wX uL) A) args s 0 0 A) 184 (wModel aX cI cJ uX uL) [(0, .ref (aX 0)), (1, .int v1)] [] := by
    intro  v1 uX hf
    unfold f_X_readsSender_184 at hf
    refine mk_aload_n C 0 dX9_readsSender_184 rfl ?_
    refine mk_get C mk_inX9 0 rfl rfl 0 (by decide) mw_902 (v := .ref (aX 1)) rfl dX9_readsSender_185 ?_
    refine mk_bipush C (v := 17) dX9_readsSender_188 (by decide) ?_
    refine mk_iload_n C 1 dX9_readsSender_190 rfl ?_
    refine mk_iadd C dX9_readsSender_191 ?_
    refine mk_aload_n C 0 dX9_readsSender_192 rfl ?_
    refine mk_get C mk_inX9 0 rfl rfl 8 (by decide) mw_910 (v := .int (uX 8 0)) rfl dX9_readsSender_193 ?_
    refine mk_aload_n C 0 dX9_readsSender_196 rfl ?_
    refine mk_get C mk_inX9 0 rfl rfl 9 (by decide) mw_911 (v := .int (uX 9 0)) rfl dX9_readsSender_197 ?_
    refine mk_isub C dX9_readsSender_200 ?_
    obtain ⟨g1, hf⟩ := gI_some hf
    refine mk_iast C 1 0 (f := (uX 0)) rfl rfl g1 (j := ((17 + v1) : Int32).toNatClampNeg) rfl (ws' := (wModel aX cI cJ (upR 0 (upd (uX 0) ((17 + v1) : Int32).toNatClampNeg ((uX 8 0) - (uX 9 0))) uX) uL)) (st_X_X_0 cI cJ aX uX uL (upd (uX 0) ((17 + v1) : Int32).toNatClampNeg ((uX 8 0) - (uX 9 0)))) dX9_readsSender_201 ?_
    refine mk_aload_n C 0 dX9_readsSender_202 rfl ?_
    refine mk_iconst C (v := 1) dX9_readsSender_203 (by decide) ?_
    obtain ⟨uX_2, h3, hf⟩ := b1_some hf
    refine mk_callVv C (c_X_passes l D cI cJ X Y aX (upR 0 (upd (uX 0) ((17 + v1) : Int32).toNatClampNeg ((uX 8 0) - (uX 9 0))) uX) uL 1 uX_2 h3) mw_1080 mw_1082 mw_s4 mw_10 mw_1083 mkn_X9_passes rfl ⟨Nat.le_of_ble_eq_true rfl, Nat.le_of_ble_eq_true rfl⟩ 0 rfl rfl rfl (mk_Fr.all _ _) (Nat.le_of_ble_eq_true rfl) dX9_readsSender_204 rfl ?_
    refine mk_aload_n C 0 dX9_readsSender_207 rfl ?_
    refine mk_get C mk_inX9 0 rfl rfl 0 (by decide) mw_902 (v := .ref (aX 1)) rfl dX9_readsSender_208 ?_
    refine mk_iconst C (v := 4) dX9_readsSender_211 (by decide) ?_
    refine mk_dup2 C dX9_readsSender_212 rfl rfl ?_
    refine mk_iald C 1 0 (f := (uX_2 0)) rfl rfl (mk_vi (by decide)) (j := 4) (by decide) dX9_readsSender_213 ?_
    refine mk_iconst C (v := 1) dX9_readsSender_214 (by decide) ?_
    refine mk_iadd C dX9_readsSender_215 ?_
    refine mk_iast C 1 0 (f := (uX_2 0)) rfl rfl (mk_vi (by decide)) (j := 4) (by decide) (ws' := (wModel aX cI cJ (upR 0 (upd (uX_2 0) 4 (((uX_2 0) 4) + 1)) uX_2) uL)) (st_X_X_0 cI cJ aX uX_2 uL (upd (uX_2 0) 4 (((uX_2 0) 4) + 1))) dX9_readsSender_216 ?_
    have e0 := Option.some.inj hf
    exact mk_vret C hr hlk (by rw [← e0]) dX9_readsSender_217
  have wL148 : ∀ (k117 : Int32 → Int32 → (Nat → Nat → Int32) → Option ((Nat → Nat → Int32))), (∀ (v1 : Int32) (v2 : Int32) (uX : Nat → Nat → Int32), k117 v1 v2 uX = some wX → mk_Go p l e (headSpec (mk_ws yX9_readsSender cX9_readsSender 3 none) ({ frames := 8, cells := 0, slots := 0, locals := 227 })).room s m args below meth c D A 3 0 0 (MQ below (mk_Q none D (wModel aX cI cJ wX uL) A) args s 0 0 A) 117 (wModel aX cI cJ uX uL) [(0, .ref (aX 0)), (1, .int v1), (2, .int v2)] []) → ∀ (v1 : Int32) (v2 : Int32) (uX : Nat → Nat → Int32), f_X_readsSender_148 k117 v1 v2 uX = some wX → mk_Go p l e (headSpec (mk_ws yX9_readsSender cX9_readsSender 3 none) ({ frames := 8, cells := 0, slots := 0, locals := 227 })).room s m args below meth c D A 3 0 0 (MQ below (mk_Q none D (wModel aX cI cJ wX uL) A) args s 0 0 A) 148 (wModel aX cI cJ uX uL) [(0, .ref (aX 0)), (1, .int v1), (2, .int v2)] [] := by
    intro k117 hk117 v1 v2 uX hf
    unfold f_X_readsSender_148 at hf
    refine mk_aload_n C 0 dX9_readsSender_148 rfl ?_
    refine mk_get C mk_inX9 0 rfl rfl 0 (by decide) mw_902 (v := .ref (aX 1)) rfl dX9_readsSender_149 ?_
    refine mk_bipush C (v := 27) dX9_readsSender_152 (by decide) ?_
    refine mk_iload_n C 1 dX9_readsSender_154 rfl ?_
    refine mk_iadd C dX9_readsSender_155 ?_
    refine mk_iconst C (v := 2) dX9_readsSender_156 (by decide) ?_
    refine mk_aload_n C 0 dX9_readsSender_157 rfl ?_
    refine mk_get C mk_inX9 0 rfl rfl 0 (by decide) mw_902 (v := .ref (aX 1)) rfl dX9_readsSender_158 ?_
    refine mk_bipush C (v := 27) dX9_readsSender_161 (by decide) ?_
    refine mk_iload_n C 1 dX9_readsSender_163 rfl ?_
    refine mk_iadd C dX9_readsSender_164 ?_
    obtain ⟨g4, hf⟩ := gI_some hf
    refine mk_iald C 1 0 (f := (uX 0)) rfl rfl g4 (j := ((27 + v1) : Int32).toNatClampNeg) rfl dX9_readsSender_165 ?_
    refine mk_imul C dX9_readsSender_166 ?_
    refine mk_aload_n C 0 dX9_readsSender_167 rfl ?_
    refine mk_get C mk_inX9 0 rfl rfl 4 (by decide) mw_906 (v := .ref (aX 5)) rfl dX9_readsSender_168 ?_
    refine mk_iload_n C 2 dX9_readsSender_171 rfl ?_
    obtain ⟨g5, hf⟩ := gI_some hf
    refine mk_iald C 4 0 (f := (uX 4)) rfl rfl g5 (j := (v2 : Int32).toNatClampNeg) rfl dX9_readsSender_172 ?_
    refine mk_iadd C dX9_readsSender_173 ?_
    refine mk_bipush C (v := 48) dX9_readsSender_174 (by decide) ?_
    refine mk_isub C dX9_readsSender_176 ?_
    refine mk_iast C 1 0 (f := (uX 0)) rfl rfl g4 (j := ((27 + v1) : Int32).toNatClampNeg) rfl (ws' := (wModel aX cI cJ (upR 0 (upd (uX 0) ((27 + v1) : Int32).toNatClampNeg (((2 * ((uX 0) ((27 + v1) : Int32).toNatClampNeg)) + ((uX 4) (v2 : Int32).toNatClampNeg)) - 48)) uX) uL)) (st_X_X_0 cI cJ aX uX uL (upd (uX 0) ((27 + v1) : Int32).toNatClampNeg (((2 * ((uX 0) ((27 + v1) : Int32).toNatClampNeg)) + ((uX 4) (v2 : Int32).toNatClampNeg)) - 48))) dX9_readsSender_177 ?_
    refine mk_iinc C (v := (v2 + 1)) (lv' := [(2, .int (v2 + 1)), (0, .ref (aX 0)), (1, .int v1)]) 2 dX9_readsSender_178 rfl rfl (by decide) rfl ?_
    refine mk_goto C 117 dX9_readsSender_181 (by decide) ?_
    exact mk_lvsub [1, 2, 0] rfl (hk117 _ _ _ hf)
  have wL117 : ∀ (n : Nat) (v1 : Int32) (v2 : Int32) (uX : Nat → Nat → Int32), f_X_readsSender_117 n v1 v2 uX = some wX → mk_Go p l e (headSpec (mk_ws yX9_readsSender cX9_readsSender 3 none) ({ frames := 8, cells := 0, slots := 0, locals := 227 })).room s m args below meth c D A 3 0 0 (MQ below (mk_Q none D (wModel aX cI cJ wX uL) A) args s 0 0 A) 117 (wModel aX cI cJ uX uL) [(0, .ref (aX 0)), (1, .int v1), (2, .int v2)] [] := by
    intro  n
    induction n with
    | zero => intro v1 v2 uX hf; exact nomatch (show (none : Option ((Nat → Nat → Int32))) = some _ from hf)
    | succ n ih =>
      intro v1 v2 uX hf
      rw [f_X_readsSender_117] at hf
      refine mk_iload_n C 2 dX9_readsSender_117 rfl ?_
      refine mk_aload_n C 0 dX9_readsSender_118 rfl ?_
      refine mk_get C mk_inX9 0 rfl rfl 8 (by decide) mw_910 (v := .int (uX 8 0)) rfl dX9_readsSender_119 ?_
      refine mk_icmp_ge C 184 dX9_readsSender_122 (by decide) (fun c6 => ?_) (fun c6 => ?_)
      · replace hf := (if_pos c6).symm.trans hf
        exact mk_lvsub [0, 1] rfl (wL184 _ _ hf)
      · replace hf := (if_neg c6).symm.trans hf
        refine mk_aload_n C 0 dX9_readsSender_125 rfl ?_
        refine mk_get C mk_inX9 0 rfl rfl 12 (by decide) mw_914 (v := .int (uX 12 0)) rfl dX9_readsSender_126 ?_
        refine mk_if_ne C 184 dX9_readsSender_129 (by decide) (fun c7 => ?_) (fun c7 => ?_)
        · replace hf := (if_neg c7).symm.trans hf
          exact mk_lvsub [0, 1] rfl (wL184 _ _ hf)
        · replace hf := (if_pos c7).symm.trans hf
          refine mk_aload_n C 0 dX9_readsSender_132 rfl ?_
          refine mk_get C mk_inX9 0 rfl rfl 4 (by decide) mw_906 (v := .ref (aX 5)) rfl dX9_readsSender_133 ?_
          refine mk_iload_n C 2 dX9_readsSender_136 rfl ?_
          obtain ⟨g8, hf⟩ := gI_some hf
          refine mk_iald C 4 0 (f := (uX 4)) rfl rfl g8 (j := (v2 : Int32).toNatClampNeg) rfl dX9_readsSender_137 ?_
          refine mk_bipush C (v := 49) dX9_readsSender_138 (by decide) ?_
          refine mk_icmp_le C 148 dX9_readsSender_140 (by decide) (fun c9 => ?_) (fun c9 => ?_)
          · replace hf := (if_pos c9).symm.trans hf
            exact mk_lvsub [0, 1, 2] rfl (wL148 _ ih _ _ _ hf)
          · replace hf := (if_neg c9).symm.trans hf
            refine mk_aload_n C 0 dX9_readsSender_143 rfl ?_
            refine mk_iconst C (v := 2) dX9_readsSender_144 (by decide) ?_
            obtain ⟨uX_10, h11, hf⟩ := b1_some hf
            refine mk_callVv C (c_X_faults l D cI cJ X Y aX uX uL 2 uX_10 h11) mw_1084 mw_1086 mw_s5 mw_10 mw_1087 mkn_X9_faults rfl ⟨Nat.le_of_ble_eq_true rfl, Nat.le_of_ble_eq_true rfl⟩ 0 rfl rfl rfl (mk_Fr.all _ _) (Nat.le_of_ble_eq_true rfl) dX9_readsSender_145 rfl ?_
            exact mk_lvsub [0, 1, 2] rfl (wL148 _ ih _ _ _ hf)
  have wL87 : ∀ (uX : Nat → Nat → Int32), f_X_readsSender_87 uX = some wX → mk_Go p l e (headSpec (mk_ws yX9_readsSender cX9_readsSender 3 none) ({ frames := 8, cells := 0, slots := 0, locals := 227 })).room s m args below meth c D A 3 0 0 (MQ below (mk_Q none D (wModel aX cI cJ wX uL) A) args s 0 0 A) 87 (wModel aX cI cJ uX uL) [(0, .ref (aX 0))] [] := by
    intro  uX hf
    unfold f_X_readsSender_87 at hf
    refine mk_aload_n C 0 dX9_readsSender_87 rfl ?_
    refine mk_iconst C (v := 1) dX9_readsSender_88 (by decide) ?_
    obtain ⟨uX_12, h13, hf⟩ := b1_some hf
    refine mk_callVv C (c_X_faults l D cI cJ X Y aX uX uL 1 uX_12 h13) mw_1084 mw_1086 mw_s5 mw_10 mw_1087 mkn_X9_faults rfl ⟨Nat.le_of_ble_eq_true rfl, Nat.le_of_ble_eq_true rfl⟩ 0 rfl rfl rfl (mk_Fr.all _ _) (Nat.le_of_ble_eq_true rfl) dX9_readsSender_89 rfl ?_
    have e0 := Option.some.inj hf
    exact mk_vret C hr hlk (by rw [← e0]) dX9_readsSender_92
  have wL69 : ∀ (v1 : Int32) (t1 : Int32) (uX : Nat → Nat → Int32), f_X_readsSender_69 v1 t1 uX = some wX → mk_Go p l e (headSpec (mk_ws yX9_readsSender cX9_readsSender 3 none) ({ frames := 8, cells := 0, slots := 0, locals := 227 })).room s m args below meth c D A 3 0 0 (MQ below (mk_Q none D (wModel aX cI cJ wX uL) A) args s 0 0 A) 69 (wModel aX cI cJ uX uL) [(0, .ref (aX 0)), (1, .int v1)] [.int t1, .ref (aX 0)] := by
    intro  v1 t1 uX hf
    unfold f_X_readsSender_69 at hf
    obtain ⟨uX_14, h15, hf⟩ := b1_some hf
    refine mk_callVv C (c_X_passes l D cI cJ X Y aX uX uL t1 uX_14 h15) mw_1080 mw_1082 mw_s4 mw_10 mw_1083 mkn_X9_passes rfl ⟨Nat.le_of_ble_eq_true rfl, Nat.le_of_ble_eq_true rfl⟩ 0 rfl rfl rfl (mk_Fr.all _ _) (Nat.le_of_ble_eq_true rfl) dX9_readsSender_69 rfl ?_
    refine mk_aload_n C 0 dX9_readsSender_72 rfl ?_
    refine mk_get C mk_inX9 0 rfl rfl 12 (by decide) mw_914 (v := .int (uX_14 12 0)) rfl dX9_readsSender_73 ?_
    refine mk_if_ne C 87 dX9_readsSender_76 (by decide) (fun c16 => ?_) (fun c16 => ?_)
    · replace hf := (if_neg c16).symm.trans hf
      exact mk_lvsub [0] rfl (wL87 _ hf)
    · replace hf := (if_pos c16).symm.trans hf
      refine mk_aload_n C 0 dX9_readsSender_79 rfl ?_
      refine mk_get C mk_inX9 0 rfl rfl 10 (by decide) mw_912 (v := .int (uX_14 10 0)) rfl dX9_readsSender_80 ?_
      refine mk_iconst C (v := 2) dX9_readsSender_83 (by decide) ?_
      refine mk_icmp_eq C 93 dX9_readsSender_84 (by decide) (fun c17 => ?_) (fun c17 => ?_)
      · replace hf := (if_pos c17).symm.trans hf
        refine mk_aload_n C 0 dX9_readsSender_93 rfl ?_
        refine mk_get C mk_inX9 0 rfl rfl 8 (by decide) mw_910 (v := .int (uX_14 8 0)) rfl dX9_readsSender_94 ?_
        refine mk_aload_n C 0 dX9_readsSender_97 rfl ?_
        refine mk_get C mk_inX9 0 rfl rfl 9 (by decide) mw_911 (v := .int (uX_14 9 0)) rfl dX9_readsSender_98 ?_
        refine mk_isub C dX9_readsSender_101 ?_
        refine mk_bipush C (v := 12) dX9_readsSender_102 (by decide) ?_
        refine mk_icmp_le C 112 dX9_readsSender_104 (by decide) (fun c18 => ?_) (fun c18 => ?_)
        · replace hf := (if_pos c18).symm.trans hf
          refine mk_aload_n C 0 dX9_readsSender_112 rfl ?_
          refine mk_get C mk_inX9 0 rfl rfl 9 (by decide) mw_911 (v := .int (uX_14 9 0)) rfl dX9_readsSender_113 ?_
          refine mk_istore_n C (lv' := [(2, .int (uX_14 9 0)), (0, .ref (aX 0)), (1, .int v1)]) dX9_readsSender_116 (by decide) rfl ?_
          exact mk_lvsub [1, 2, 0] rfl (wL117 600 _ _ _ hf)
        · replace hf := (if_neg c18).symm.trans hf
          refine mk_aload_n C 0 dX9_readsSender_107 rfl ?_
          refine mk_iconst C (v := 2) dX9_readsSender_108 (by decide) ?_
          obtain ⟨uX_19, h20, hf⟩ := b1_some hf
          refine mk_callVv C (c_X_faults l D cI cJ X Y aX uX_14 uL 2 uX_19 h20) mw_1084 mw_1086 mw_s5 mw_10 mw_1087 mkn_X9_faults rfl ⟨Nat.le_of_ble_eq_true rfl, Nat.le_of_ble_eq_true rfl⟩ 0 rfl rfl rfl (mk_Fr.all _ _) (Nat.le_of_ble_eq_true rfl) dX9_readsSender_109 rfl ?_
          refine mk_aload_n C 0 dX9_readsSender_112 rfl ?_
          refine mk_get C mk_inX9 0 rfl rfl 9 (by decide) mw_911 (v := .int (uX_19 9 0)) rfl dX9_readsSender_113 ?_
          refine mk_istore_n C (lv' := [(2, .int (uX_19 9 0)), (0, .ref (aX 0)), (1, .int v1)]) dX9_readsSender_116 (by decide) rfl ?_
          exact mk_lvsub [1, 2, 0] rfl (wL117 600 _ _ _ hf)
      · replace hf := (if_neg c17).symm.trans hf
        exact mk_lvsub [0] rfl (wL87 _ hf)
  have wL64 : ∀ (v1 : Int32) (uX : Nat → Nat → Int32), f_X_readsSender_64 v1 uX = some wX → mk_Go p l e (headSpec (mk_ws yX9_readsSender cX9_readsSender 3 none) ({ frames := 8, cells := 0, slots := 0, locals := 227 })).room s m args below meth c D A 3 0 0 (MQ below (mk_Q none D (wModel aX cI cJ wX uL) A) args s 0 0 A) 64 (wModel aX cI cJ uX uL) [(0, .ref (aX 0)), (1, .int v1)] [.ref (aX 0)] := by
    intro  v1 uX hf
    unfold f_X_readsSender_64 at hf
    refine mk_iconst C (v := 1) dX9_readsSender_64 (by decide) ?_
    refine mk_goto C 69 dX9_readsSender_65 (by decide) ?_
    exact mk_lvsub [0, 1] rfl (wL69 _ _ _ hf)
  show mk_Go p l e (headSpec (mk_ws yX9_readsSender cX9_readsSender 3 none) ({ frames := 8, cells := 0, slots := 0, locals := 227 })).room s m args below meth c D A 3 0 0 (MQ below (mk_Q none D (wModel aX cI cJ wX uL) A) args s 0 0 A) 0 (wModel aX cI cJ uX uL) [(0, .ref (aX 0))] []
  unfold f_X_readsSender at hf
  refine mk_aload_n C 0 dX9_readsSender_0 rfl ?_
  refine mk_get C mk_inX9 0 rfl rfl 0 (by decide) mw_902 (v := .ref (aX 1)) rfl dX9_readsSender_1 ?_
  refine mk_iconst C (v := 4) dX9_readsSender_4 (by decide) ?_
  refine mk_iald C 1 0 (f := (uX 0)) rfl rfl (mk_vi (by decide)) (j := 4) (by decide) dX9_readsSender_5 ?_
  refine mk_bipush C (v := 10) dX9_readsSender_6 (by decide) ?_
  refine mk_icmp_ne C 17 dX9_readsSender_8 (by decide) (fun c21 => ?_) (fun c21 => ?_)
  · replace hf := (if_neg c21).symm.trans hf
    refine mk_aload_n C 0 dX9_readsSender_17 rfl ?_
    obtain ⟨uX_22, h23, hf⟩ := b1_some hf
    refine mk_callVv C (c_X_next l D cI cJ X Y aX uX uL uX_22 h23) mw_1059 mw_1061 mw_s0 mw_10 mw_1062 mkn_X9_next rfl ⟨Nat.le_of_ble_eq_true rfl, Nat.le_of_ble_eq_true rfl⟩ 0 rfl rfl rfl (mk_Fr.all _ _) (Nat.le_of_ble_eq_true rfl) dX9_readsSender_18 rfl ?_
    refine mk_aload_n C 0 dX9_readsSender_21 rfl ?_
    refine mk_get C mk_inX9 0 rfl rfl 0 (by decide) mw_902 (v := .ref (aX 1)) rfl dX9_readsSender_22 ?_
    refine mk_iconst C (v := 4) dX9_readsSender_25 (by decide) ?_
    refine mk_iald C 1 0 (f := (uX_22 0)) rfl rfl (mk_vi (by decide)) (j := 4) (by decide) dX9_readsSender_26 ?_
    refine mk_istore_n C (lv' := [(1, .int ((uX_22 0) 4)), (0, .ref (aX 0))]) dX9_readsSender_27 (by decide) rfl ?_
    refine mk_aload_n C 1 dX9_readsSender_28 rfl ?_
    refine mk_get C mk_inX9 0 rfl rfl 0 (by decide) mw_902 (v := .ref (aX 1)) rfl dX9_readsSender_29 ?_
    refine mk_bipush C (v := 7) dX9_readsSender_32 (by decide) ?_
    refine mk_iload_n C 0 dX9_readsSender_34 rfl ?_
    refine mk_iadd C dX9_readsSender_35 ?_
    refine mk_aload_n C 1 dX9_readsSender_36 rfl ?_
    refine mk_ldcS C (k := 6) (List.mem_of_getElem? (i := 19) rfl) dX9_readsSender_37 ?_
    refine mk_iconst C (v := 0) dX9_readsSender_39 (by decide) ?_
    refine mk_sipush C (v := 199) dX9_readsSender_40 (by decide) ?_
    obtain ⟨r24, uX_25, h26, hf⟩ := b2_some hf
    refine mk_callVi C (c_X_named l D cI cJ X Y aX uX_22 uL 6 0 199 (by decide) r24 uX_25 h26) mw_1089 mw_1091 mw_s6 mw_10 mw_1092 mkn_X9_named rfl ⟨Nat.le_of_ble_eq_true rfl, Nat.le_of_ble_eq_true rfl⟩ 0 rfl rfl rfl (mk_Fr.all _ _) (Nat.le_of_ble_eq_true rfl) dX9_readsSender_43 rfl ?_
    obtain ⟨g27, hf⟩ := gI_some hf
    refine mk_iast C 1 0 (f := (uX_25 0)) rfl rfl g27 (j := ((7 + ((uX_22 0) 4)) : Int32).toNatClampNeg) rfl (ws' := (wModel aX cI cJ (upR 0 (upd (uX_25 0) ((7 + ((uX_22 0) 4)) : Int32).toNatClampNeg r24) uX_25) uL)) (st_X_X_0 cI cJ aX uX_25 uL (upd (uX_25 0) ((7 + ((uX_22 0) 4)) : Int32).toNatClampNeg r24)) dX9_readsSender_46 ?_
    refine mk_aload_n C 1 dX9_readsSender_47 rfl ?_
    refine mk_aload_n C 1 dX9_readsSender_48 rfl ?_
    refine mk_get C mk_inX9 0 rfl rfl 12 (by decide) mw_914 (v := .int (uX_25 12 0)) rfl dX9_readsSender_49 ?_
    refine mk_if_ne C 64 dX9_readsSender_52 (by decide) (fun c28 => ?_) (fun c28 => ?_)
    · replace hf := (if_neg c28).symm.trans hf
      exact mk_lvsub [1, 0] rfl (wL64 _ _ hf)
    · replace hf := (if_pos c28).symm.trans hf
      refine mk_aload_n C 1 dX9_readsSender_55 rfl ?_
      refine mk_ldcS C (k := 7) (List.mem_of_getElem? (i := 20) rfl) dX9_readsSender_56 ?_
      obtain ⟨r29, h30, hf⟩ := b1_some hf
      refine mk_callVi C (c_X_isWord l D cI cJ X Y aX (upR 0 (upd (uX_25 0) ((7 + ((uX_22 0) 4)) : Int32).toNatClampNeg r24) uX_25) uL 7 (by decide) r29 h30) mw_1074 mw_1076 mw_s3 mw_10 mw_1077 mkn_X9_isWord rfl ⟨Nat.le_of_ble_eq_true rfl, Nat.le_of_ble_eq_true rfl⟩ 0 rfl rfl rfl (mk_Fr.all _ _) (Nat.le_of_ble_eq_true rfl) dX9_readsSender_58 rfl ?_
      refine mk_if_eq C 68 dX9_readsSender_61 (by decide) (fun c31 => ?_) (fun c31 => ?_)
      · replace hf := (if_pos c31).symm.trans hf
        refine mk_iconst C (v := 0) dX9_readsSender_68 (by decide) ?_
        exact mk_lvsub [1, 0] rfl (wL69 _ _ _ hf)
      · replace hf := (if_neg c31).symm.trans hf
        exact mk_lvsub [1, 0] rfl (wL64 _ _ hf)
  · replace hf := (if_pos c21).symm.trans hf
    refine mk_aload_n C 0 dX9_readsSender_11 rfl ?_
    refine mk_iconst C (v := 3) dX9_readsSender_12 (by decide) ?_
    obtain ⟨uX_32, h33, hf⟩ := b1_some hf
    refine mk_callVv C (c_X_faults l D cI cJ X Y aX uX uL 3 uX_32 h33) mw_1084 mw_1086 mw_s5 mw_10 mw_1087 mkn_X9_faults rfl ⟨Nat.le_of_ble_eq_true rfl, Nat.le_of_ble_eq_true rfl⟩ 0 rfl rfl rfl (mk_Fr.all _ _) (Nat.le_of_ble_eq_true rfl) dX9_readsSender_13 rfl ?_
    have e0 := Option.some.inj hf
    exact mk_vret C hr hlk (by rw [← e0]) dX9_readsSender_16
