set_option maxHeartbeats 40000000 in
set_option maxRecDepth 100000 in
theorem c_X_heardAt (l : Launch) (D : va_G) (cI cJ : ClassId) (X Y : Nat → Nat) (aX : Nat → Nat) (uX : Nat → Nat → Int32) (uL : Nat → Nat → Int64) (p1 : Int32) (p2 : Int32) (r : Int32) (hf : f_X_heardAt uX p1 p2 = some r) : mk_Met l yX9_heardAt cX9_heardAt 4 (some .int) ({ frames := 1, cells := 0, slots := 0, locals := 23 }) D [(cI, .int), (cJ, .long)] X Y [.ref (aX 0), .int p1, .int p2] (wModel aX cI cJ uX uL) (wModel aX cI cJ uX uL) (some (.int r)) 0 0 := by
  refine mk_start (own := RX9) (by decide) rfl (Nat.le_of_ble_eq_true rfl) ?_
  intro sz p e s m args below meth c A C hr hlk hnm
  replace C : mk_Cx p s m args c cX9_heardAt 4 RX9 D [(cI, .int), (cJ, .long)] X Y A := C
  have wL2 : ∀ (n : Nat) (v3 : Int32), f_X_heardAt_2 uX p1 p2 n v3 = some r → mk_Go p l e (headSpec (mk_ws yX9_heardAt cX9_heardAt 4 (some .int)) ({ frames := 1, cells := 0, slots := 0, locals := 23 })).room s m args below meth c D A 4 0 0 (MQ below (mk_Q (some (.int r)) D (wModel aX cI cJ uX uL) A) args s 0 0 A) 2 (wModel aX cI cJ uX uL) [(0, .ref (aX 0)), (1, .int p1), (2, .int p2), (3, .int v3)] [] := by
    intro  n
    induction n with
    | zero => intro v3 hf; exact nomatch (show (none : Option (Int32)) = some _ from hf)
    | succ n ih =>
      intro v3 hf
      rw [f_X_heardAt_2] at hf
      refine mk_iload_n C 3 dX9_heardAt_2 rfl ?_
      refine mk_aload_n C 0 dX9_heardAt_3 rfl ?_
      refine mk_get C mk_inX9 0 rfl rfl 0 (by decide) mw_902 (v := .ref (aX 1)) rfl dX9_heardAt_4 ?_
      refine mk_iconst C (v := 5) dX9_heardAt_7 (by decide) ?_
      refine mk_iald C 1 0 (f := (uX 0)) rfl rfl (mk_vi (by decide)) (j := 5) (by decide) dX9_heardAt_8 ?_
      refine mk_icmp_ge C 49 dX9_heardAt_9 (by decide) (fun c1 => ?_) (fun c1 => ?_)
      · replace hf := (if_pos c1).symm.trans hf
        refine mk_iconst C (v := 2) dX9_heardAt_49 (by decide) ?_
        refine mk_iload_n C 2 dX9_heardAt_50 rfl ?_
        refine mk_mmin C mw_1068 mw_569 mw_17 mw_570 ⟨Nat.le_of_ble_eq_true rfl, Nat.le_of_ble_eq_true rfl⟩ ⟨Nat.zero_le _, Nat.zero_le _⟩ dX9_heardAt_51 ?_
        have e0 := Option.some.inj hf
        exact mk_iret C hr hlk e0 rfl dX9_heardAt_54
      · replace hf := (if_neg c1).symm.trans hf
        refine mk_aload_n C 0 dX9_heardAt_12 rfl ?_
        refine mk_get C mk_inX9 0 rfl rfl 0 (by decide) mw_902 (v := .ref (aX 1)) rfl dX9_heardAt_13 ?_
        refine mk_bipush C (v := 37) dX9_heardAt_16 (by decide) ?_
        refine mk_iload_n C 3 dX9_heardAt_18 rfl ?_
        refine mk_iadd C dX9_heardAt_19 ?_
        obtain ⟨g2, hf⟩ := gI_some hf
        refine mk_iald C 1 0 (f := (uX 0)) rfl rfl g2 (j := ((37 + v3) : Int32).toNatClampNeg) rfl dX9_heardAt_20 ?_
        refine mk_iload_n C 1 dX9_heardAt_21 rfl ?_
        refine mk_icmp_ne C 43 dX9_heardAt_22 (by decide) (fun c3 => ?_) (fun c3 => ?_)
        · replace hf := (if_neg c3).symm.trans hf
          refine mk_iinc C (v := (v3 + 1)) (lv' := [(3, .int (v3 + 1)), (0, .ref (aX 0)), (1, .int p1), (2, .int p2)]) 3 dX9_heardAt_43 rfl rfl (by decide) rfl ?_
          refine mk_goto C 2 dX9_heardAt_46 (by decide) ?_
          exact mk_lvsub [1, 2, 3, 0] rfl (ih _ hf)
        · replace hf := (if_pos c3).symm.trans hf
          refine mk_iload_n C 3 dX9_heardAt_25 rfl ?_
          refine mk_aload_n C 0 dX9_heardAt_26 rfl ?_
          refine mk_get C mk_inX9 0 rfl rfl 16 (by decide) mw_918 (v := .int (uX 16 0)) rfl dX9_heardAt_27 ?_
          refine mk_icmp_eq C 43 dX9_heardAt_30 (by decide) (fun c4 => ?_) (fun c4 => ?_)
          · replace hf := (if_pos c4).symm.trans hf
            refine mk_iinc C (v := (v3 + 1)) (lv' := [(3, .int (v3 + 1)), (0, .ref (aX 0)), (1, .int p1), (2, .int p2)]) 3 dX9_heardAt_43 rfl rfl (by decide) rfl ?_
            refine mk_goto C 2 dX9_heardAt_46 (by decide) ?_
            exact mk_lvsub [1, 2, 3, 0] rfl (ih _ hf)
          · replace hf := (if_neg c4).symm.trans hf
            refine mk_aload_n C 0 dX9_heardAt_33 rfl ?_
            refine mk_get C mk_inX9 0 rfl rfl 0 (by decide) mw_902 (v := .ref (aX 1)) rfl dX9_heardAt_34 ?_
            refine mk_bipush C (v := 47) dX9_heardAt_37 (by decide) ?_
            refine mk_iload_n C 3 dX9_heardAt_39 rfl ?_
            refine mk_iadd C dX9_heardAt_40 ?_
            obtain ⟨g5, hf⟩ := gI_some hf
            refine mk_iald C 1 0 (f := (uX 0)) rfl rfl g5 (j := ((47 + v3) : Int32).toNatClampNeg) rfl dX9_heardAt_41 ?_
            have e0 := Option.some.inj hf
            exact mk_iret C hr hlk e0 rfl dX9_heardAt_42
  show mk_Go p l e (headSpec (mk_ws yX9_heardAt cX9_heardAt 4 (some .int)) ({ frames := 1, cells := 0, slots := 0, locals := 23 })).room s m args below meth c D A 4 0 0 (MQ below (mk_Q (some (.int r)) D (wModel aX cI cJ uX uL) A) args s 0 0 A) 0 (wModel aX cI cJ uX uL) [(0, .ref (aX 0)), (1, .int p1), (2, .int p2)] []
  unfold f_X_heardAt at hf
  refine mk_iconst C (v := 0) dX9_heardAt_0 (by decide) ?_
  refine mk_istore_n C (lv' := [(3, .int 0), (0, .ref (aX 0)), (1, .int p1), (2, .int p2)]) dX9_heardAt_1 (by decide) rfl ?_
  exact mk_lvsub [1, 2, 3, 0] rfl (wL2 600 _ hf)
set_option maxHeartbeats 40000000 in
set_option maxRecDepth 100000 in
theorem c_X_sent (l : Launch) (D : va_G) (cI cJ : ClassId) (X Y : Nat → Nat) (aX : Nat → Nat) (uX : Nat → Nat → Int32) (uL : Nat → Nat → Int64) (p1 : Int32) (p2 : Int32) (r : Int32) (wX : Nat → Nat → Int32) (hf : f_X_sent uX p1 p2 = some (r, wX)) : mk_Met l yX9_sent cX9_sent 4 (some .int) ({ frames := 2, cells := 0, slots := 0, locals := 46 }) D [(cI, .int), (cJ, .long)] X Y [.ref (aX 0), .int p1, .int p2] (wModel aX cI cJ uX uL) (wModel aX cI cJ wX uL) (some (.int r)) 0 0 := by
  refine mk_start (own := RX9) (by decide) rfl (Nat.le_of_ble_eq_true rfl) ?_
  intro sz p e s m args below meth c A C hr hlk hnm
  replace C : mk_Cx p s m args c cX9_sent 4 RX9 D [(cI, .int), (cJ, .long)] X Y A := C
  have wL49 : ∀ (n : Nat) (v3 : Int32) (uX : Nat → Nat → Int32), f_X_sent_49 p1 p2 n v3 uX = some (r, wX) → mk_Go p l e (headSpec (mk_ws yX9_sent cX9_sent 4 (some .int)) ({ frames := 2, cells := 0, slots := 0, locals := 46 })).room s m args below meth c D A 4 0 0 (MQ below (mk_Q (some (.int r)) D (wModel aX cI cJ wX uL) A) args s 0 0 A) 49 (wModel aX cI cJ uX uL) [(0, .ref (aX 0)), (1, .int p1), (2, .int p2), (3, .int v3)] [] := by
    intro  n
    induction n with
    | zero => intro v3 uX hf; exact nomatch (show (none : Option (Int32 × (Nat → Nat → Int32))) = some _ from hf)
    | succ n ih =>
      intro v3 uX hf
      rw [f_X_sent_49] at hf
      refine mk_iload_n C 2 dX9_sent_49 rfl ?_
      refine mk_iload_n C 3 dX9_sent_50 rfl ?_
      obtain ⟨r1, h2, hf⟩ := b1_some hf
      refine mk_callSi C (c_X_has l D cI cJ X Y p2 v3 r1 h2) mw_1174 mw_1175 mw_10 mw_1176 mkn_X9_has rfl ⟨Nat.le_of_ble_eq_true rfl, Nat.le_of_ble_eq_true rfl⟩ (mk_Fr.nil _) (Nat.le_of_ble_eq_true rfl) dX9_sent_51 rfl ?_
      refine mk_if_ne C 63 dX9_sent_54 (by decide) (fun c3 => ?_) (fun c3 => ?_)
      · replace hf := (if_neg c3).symm.trans hf
        refine mk_aload_n C 0 dX9_sent_63 rfl ?_
        refine mk_get C mk_inX9 0 rfl rfl 32 (by decide) mw_934 (v := .ref (aX 33)) rfl dX9_sent_64 ?_
        refine mk_iload_n C 1 dX9_sent_67 rfl ?_
        refine mk_iload_n C 3 dX9_sent_68 rfl ?_
        obtain ⟨g4, hf⟩ := gI_some hf
        refine mk_iast C 13 0 (f := (uX 32)) rfl rfl g4 (j := (p1 : Int32).toNatClampNeg) rfl (ws' := (wModel aX cI cJ (upR 32 (upd (uX 32) (p1 : Int32).toNatClampNeg v3) uX) uL)) (st_X_X_32 cI cJ aX uX uL (upd (uX 32) (p1 : Int32).toNatClampNeg v3)) dX9_sent_69 ?_
        refine mk_aload_n C 0 dX9_sent_70 rfl ?_
        refine mk_get C mk_inX9 0 rfl rfl 29 (by decide) mw_931 (v := .ref (aX 30)) rfl dX9_sent_71 ?_
        refine mk_iload_n C 3 dX9_sent_74 rfl ?_
        refine mk_iload_n C 1 dX9_sent_75 rfl ?_
        obtain ⟨g5, hf⟩ := gI_some hf
        refine mk_iast C 10 0 (f := (uX 29)) rfl rfl g5 (j := (v3 : Int32).toNatClampNeg) rfl (ws' := (wModel aX cI cJ (upR 29 (upd (uX 29) (v3 : Int32).toNatClampNeg p1) (upR 32 (upd (uX 32) (p1 : Int32).toNatClampNeg v3) uX)) uL)) (st_X_X_29 cI cJ aX (upR 32 (upd (uX 32) (p1 : Int32).toNatClampNeg v3) uX) uL (upd (uX 29) (v3 : Int32).toNatClampNeg p1)) dX9_sent_76 ?_
        refine mk_aload_n C 0 dX9_sent_77 rfl ?_
        refine mk_dup C dX9_sent_78 rfl ?_
        refine mk_get C mk_inX9 0 rfl rfl 40 (by decide) mw_942 (v := .int (uX 40 0)) rfl dX9_sent_79 ?_
        refine mk_iconst C (v := 1) dX9_sent_82 (by decide) ?_
        refine mk_iadd C dX9_sent_83 ?_
        refine mk_put C mk_inX9 tyX9 tyX9_ok nmX9 0 rfl rfl 40 (by decide) mw_942 rfl rfl rfl (Nat.le_of_ble_eq_true rfl) (ws' := (wModel aX cI cJ (upF 40 ((uX 40 0) + 1) (upR 29 (upd (uX 29) (v3 : Int32).toNatClampNeg p1) (upR 32 (upd (uX 32) (p1 : Int32).toNatClampNeg v3) uX))) uL)) (st_X_X_40 cI cJ aX (upR 29 (upd (uX 29) (v3 : Int32).toNatClampNeg p1) (upR 32 (upd (uX 32) (p1 : Int32).toNatClampNeg v3) uX)) uL ((uX 40 0) + 1)) dX9_sent_84 ?_
        refine mk_aload_n C 0 dX9_sent_87 rfl ?_
        refine mk_get C mk_inX9 0 rfl rfl 31 (by decide) mw_933 (v := .ref (aX 32)) rfl dX9_sent_88 ?_
        refine mk_iload_n C 1 dX9_sent_91 rfl ?_
        refine mk_iald C 12 0 (f := (uX 31)) rfl rfl g4 (j := (p1 : Int32).toNatClampNeg) rfl dX9_sent_92 ?_
        have e := Option.some.inj hf
        obtain ⟨e0, e1⟩ := Prod.mk.inj e
        exact mk_iret C hr hlk e0 (by rw [← e1]) dX9_sent_93
      · replace hf := (if_pos c3).symm.trans hf
        refine mk_iinc C (v := (v3 + 1)) (lv' := [(3, .int (v3 + 1)), (0, .ref (aX 0)), (1, .int p1), (2, .int p2)]) 3 dX9_sent_57 rfl rfl (by decide) rfl ?_
        refine mk_goto C 49 dX9_sent_60 (by decide) ?_
        exact mk_lvsub [1, 2, 3, 0] rfl (ih _ _ hf)
  show mk_Go p l e (headSpec (mk_ws yX9_sent cX9_sent 4 (some .int)) ({ frames := 2, cells := 0, slots := 0, locals := 46 })).room s m args below meth c D A 4 0 0 (MQ below (mk_Q (some (.int r)) D (wModel aX cI cJ wX uL) A) args s 0 0 A) 0 (wModel aX cI cJ uX uL) [(0, .ref (aX 0)), (1, .int p1), (2, .int p2)] []
  unfold f_X_sent at hf
  refine mk_aload_n C 0 dX9_sent_0 rfl ?_
  refine mk_get C mk_inX9 0 rfl rfl 30 (by decide) mw_932 (v := .ref (aX 31)) rfl dX9_sent_1 ?_
  refine mk_iload_n C 1 dX9_sent_4 rfl ?_
  refine mk_iload_n C 2 dX9_sent_5 rfl ?_
  obtain ⟨g6, hf⟩ := gI_some hf
  refine mk_iast C 11 0 (f := (uX 30)) rfl rfl g6 (j := (p1 : Int32).toNatClampNeg) rfl (ws' := (wModel aX cI cJ (upR 30 (upd (uX 30) (p1 : Int32).toNatClampNeg p2) uX) uL)) (st_X_X_30 cI cJ aX uX uL (upd (uX 30) (p1 : Int32).toNatClampNeg p2)) dX9_sent_6 ?_
  refine mk_aload_n C 0 dX9_sent_7 rfl ?_
  refine mk_get C mk_inX9 0 rfl rfl 31 (by decide) mw_933 (v := .ref (aX 32)) rfl dX9_sent_8 ?_
  refine mk_iload_n C 1 dX9_sent_11 rfl ?_
  refine mk_aload_n C 0 dX9_sent_12 rfl ?_
  refine mk_iload_n C 1 dX9_sent_13 rfl ?_
  refine mk_iload_n C 2 dX9_sent_14 rfl ?_
  obtain ⟨r7, h8, hf⟩ := b1_some hf
  refine mk_callSi C (c_X_bitsOf l D cI cJ X Y p2 r7 h8) mw_1181 mw_1182 mw_10 mw_1183 mkn_X9_bitsOf rfl ⟨Nat.le_of_ble_eq_true rfl, Nat.le_of_ble_eq_true rfl⟩ (mk_Fr.nil _) (Nat.le_of_ble_eq_true rfl) dX9_sent_15 rfl ?_
  obtain ⟨r9, h10, hf⟩ := b1_some hf
  refine mk_callVi C (c_X_heardAt l D cI cJ X Y aX (upR 30 (upd (uX 30) (p1 : Int32).toNatClampNeg p2) uX) uL p1 r7 r9 h10) mw_1184 mw_1186 mw_s20 mw_10 mw_1187 mkn_X9_heardAt rfl ⟨Nat.le_of_ble_eq_true rfl, Nat.le_of_ble_eq_true rfl⟩ 0 rfl rfl rfl (mk_Fr.all _ _) (Nat.le_of_ble_eq_true rfl) dX9_sent_18 rfl ?_
  refine mk_iast C 12 0 (f := (uX 31)) rfl rfl g6 (j := (p1 : Int32).toNatClampNeg) rfl (ws' := (wModel aX cI cJ (upR 31 (upd (uX 31) (p1 : Int32).toNatClampNeg r9) (upR 30 (upd (uX 30) (p1 : Int32).toNatClampNeg p2) uX)) uL)) (st_X_X_31 cI cJ aX (upR 30 (upd (uX 30) (p1 : Int32).toNatClampNeg p2) uX) uL (upd (uX 31) (p1 : Int32).toNatClampNeg r9)) dX9_sent_21 ?_
  refine mk_aload_n C 0 dX9_sent_22 rfl ?_
  refine mk_get C mk_inX9 0 rfl rfl 32 (by decide) mw_934 (v := .ref (aX 33)) rfl dX9_sent_23 ?_
  refine mk_iload_n C 1 dX9_sent_26 rfl ?_
  refine mk_iconst C (v := (-1)) dX9_sent_27 (by decide) ?_
  refine mk_iast C 13 0 (f := (uX 32)) rfl rfl g6 (j := (p1 : Int32).toNatClampNeg) rfl (ws' := (wModel aX cI cJ (upR 32 (upd (uX 32) (p1 : Int32).toNatClampNeg (-1)) (upR 31 (upd (uX 31) (p1 : Int32).toNatClampNeg r9) (upR 30 (upd (uX 30) (p1 : Int32).toNatClampNeg p2) uX))) uL)) (st_X_X_32 cI cJ aX (upR 31 (upd (uX 31) (p1 : Int32).toNatClampNeg r9) (upR 30 (upd (uX 30) (p1 : Int32).toNatClampNeg p2) uX)) uL (upd (uX 32) (p1 : Int32).toNatClampNeg (-1))) dX9_sent_28 ?_
  refine mk_aload_n C 0 dX9_sent_29 rfl ?_
  refine mk_get C mk_inX9 0 rfl rfl 31 (by decide) mw_933 (v := .ref (aX 32)) rfl dX9_sent_30 ?_
  refine mk_iload_n C 1 dX9_sent_33 rfl ?_
  refine mk_iald C 12 0 (f := (upd (uX 31) (p1 : Int32).toNatClampNeg r9)) rfl rfl g6 (j := (p1 : Int32).toNatClampNeg) rfl dX9_sent_34 ?_
  refine mk_iconst C (v := 1) dX9_sent_35 (by decide) ?_
  refine mk_icmp_ne C 87 dX9_sent_36 (by decide) (fun c11 => ?_) (fun c11 => ?_)
  · replace hf := (if_neg c11).symm.trans hf
    refine mk_aload_n C 0 dX9_sent_87 rfl ?_
    refine mk_get C mk_inX9 0 rfl rfl 31 (by decide) mw_933 (v := .ref (aX 32)) rfl dX9_sent_88 ?_
    refine mk_iload_n C 1 dX9_sent_91 rfl ?_
    refine mk_iald C 12 0 (f := (upd (uX 31) (p1 : Int32).toNatClampNeg r9)) rfl rfl g6 (j := (p1 : Int32).toNatClampNeg) rfl dX9_sent_92 ?_
    have e := Option.some.inj hf
    obtain ⟨e0, e1⟩ := Prod.mk.inj e
    exact mk_iret C hr hlk e0 (by rw [← e1]) dX9_sent_93
  · replace hf := (if_pos c11).symm.trans hf
    refine mk_iload_n C 2 dX9_sent_39 rfl ?_
    obtain ⟨r12, h13, hf⟩ := b1_some hf
    refine mk_callSi C (c_X_bitsOf l D cI cJ X Y p2 r12 h13) mw_1181 mw_1182 mw_10 mw_1183 mkn_X9_bitsOf rfl ⟨Nat.le_of_ble_eq_true rfl, Nat.le_of_ble_eq_true rfl⟩ (mk_Fr.nil _) (Nat.le_of_ble_eq_true rfl) dX9_sent_40 rfl ?_
    refine mk_iconst C (v := 1) dX9_sent_43 (by decide) ?_
    refine mk_icmp_ne C 87 dX9_sent_44 (by decide) (fun c14 => ?_) (fun c14 => ?_)
    · replace hf := (if_neg c14).symm.trans hf
      refine mk_aload_n C 0 dX9_sent_87 rfl ?_
      refine mk_get C mk_inX9 0 rfl rfl 31 (by decide) mw_933 (v := .ref (aX 32)) rfl dX9_sent_88 ?_
      refine mk_iload_n C 1 dX9_sent_91 rfl ?_
      refine mk_iald C 12 0 (f := (upd (uX 31) (p1 : Int32).toNatClampNeg r9)) rfl rfl g6 (j := (p1 : Int32).toNatClampNeg) rfl dX9_sent_92 ?_
      have e := Option.some.inj hf
      obtain ⟨e0, e1⟩ := Prod.mk.inj e
      exact mk_iret C hr hlk e0 (by rw [← e1]) dX9_sent_93
    · replace hf := (if_pos c14).symm.trans hf
      refine mk_iconst C (v := 0) dX9_sent_47 (by decide) ?_
      refine mk_istore_n C (lv' := [(3, .int 0), (0, .ref (aX 0)), (1, .int p1), (2, .int p2)]) dX9_sent_48 (by decide) rfl ?_
      exact mk_lvsub [1, 2, 3, 0] rfl (wL49 600 _ _ hf)
set_option maxHeartbeats 40000000 in
set_option maxRecDepth 100000 in
theorem c_X_takesBit (l : Launch) (D : va_G) (cI cJ : ClassId) (X Y : Nat → Nat) (aX : Nat → Nat) (uX : Nat → Nat → Int32) (uL : Nat → Nat → Int64) (p1 : Int32) (r : Int32) (wX : Nat → Nat → Int32) (hf : f_X_takesBit uX p1 = some (r, wX)) : mk_Met l yX9_takesBit cX9_takesBit 3 (some .int) ({ frames := 1, cells := 0, slots := 0, locals := 22 }) D [(cI, .int), (cJ, .long)] X Y [.ref (aX 0), .int p1] (wModel aX cI cJ uX uL) (wModel aX cI cJ wX uL) (some (.int r)) 0 0 := by
  refine mk_start (own := RX9) (by decide) rfl (Nat.le_of_ble_eq_true rfl) ?_
  intro sz p e s m args below meth c A C hr hlk hnm
  replace C : mk_Cx p s m args c cX9_takesBit 3 RX9 D [(cI, .int), (cJ, .long)] X Y A := C
  show mk_Go p l e (headSpec (mk_ws yX9_takesBit cX9_takesBit 3 (some .int)) ({ frames := 1, cells := 0, slots := 0, locals := 22 })).room s m args below meth c D A 3 0 0 (MQ below (mk_Q (some (.int r)) D (wModel aX cI cJ wX uL) A) args s 0 0 A) 0 (wModel aX cI cJ uX uL) [(0, .ref (aX 0)), (1, .int p1)] []
  unfold f_X_takesBit at hf
  refine mk_aload_n C 0 dX9_takesBit_0 rfl ?_
  refine mk_iload_n C 1 dX9_takesBit_1 rfl ?_
  refine mk_aload_n C 0 dX9_takesBit_2 rfl ?_
  refine mk_get C mk_inX9 0 rfl rfl 27 (by decide) mw_929 (v := .ref (aX 28)) rfl dX9_takesBit_3 ?_
  refine mk_iload_n C 1 dX9_takesBit_6 rfl ?_
  obtain ⟨g1, hf⟩ := gI_some hf
  refine mk_iald C 8 0 (f := (uX 27)) rfl rfl g1 (j := (p1 : Int32).toNatClampNeg) rfl dX9_takesBit_7 ?_
  obtain ⟨r2, h3, hf⟩ := b1_some hf
  refine mk_callVi C (c_X_bitOf l D cI cJ X Y aX uX uL p1 ((uX 27) (p1 : Int32).toNatClampNeg) r2 h3) mw_1137 mw_1139 mw_s12 mw_10 mw_1140 mkn_X9_bitOf rfl ⟨Nat.le_of_ble_eq_true rfl, Nat.le_of_ble_eq_true rfl⟩ 0 rfl rfl rfl (mk_Fr.all _ _) (Nat.le_of_ble_eq_true rfl) dX9_takesBit_8 rfl ?_
  refine mk_istore_n C (lv' := [(2, .int r2), (0, .ref (aX 0)), (1, .int p1)]) dX9_takesBit_11 (by decide) rfl ?_
  refine mk_aload_n C 1 dX9_takesBit_12 rfl ?_
  refine mk_get C mk_inX9 0 rfl rfl 27 (by decide) mw_929 (v := .ref (aX 28)) rfl dX9_takesBit_13 ?_
  refine mk_iload_n C 2 dX9_takesBit_16 rfl ?_
  refine mk_dup2 C dX9_takesBit_17 rfl rfl ?_
  refine mk_iald C 8 0 (f := (uX 27)) rfl rfl g1 (j := (p1 : Int32).toNatClampNeg) rfl dX9_takesBit_18 ?_
  refine mk_iconst C (v := 1) dX9_takesBit_19 (by decide) ?_
  refine mk_iadd C dX9_takesBit_20 ?_
  refine mk_iast C 8 0 (f := (uX 27)) rfl rfl g1 (j := (p1 : Int32).toNatClampNeg) rfl (ws' := (wModel aX cI cJ (upR 27 (upd (uX 27) (p1 : Int32).toNatClampNeg (((uX 27) (p1 : Int32).toNatClampNeg) + 1)) uX) uL)) (st_X_X_27 cI cJ aX uX uL (upd (uX 27) (p1 : Int32).toNatClampNeg (((uX 27) (p1 : Int32).toNatClampNeg) + 1))) dX9_takesBit_21 ?_
  refine mk_iload_n C 0 dX9_takesBit_22 rfl ?_
  have e := Option.some.inj hf
  obtain ⟨e0, e1⟩ := Prod.mk.inj e
  exact mk_iret C hr hlk e0 (by rw [← e1]) dX9_takesBit_23
set_option maxHeartbeats 40000000 in
set_option maxRecDepth 100000 in
theorem c_X_goesByCounters (l : Launch) (D : va_G) (cI cJ : ClassId) (X Y : Nat → Nat) (aX : Nat → Nat) (uX : Nat → Nat → Int32) (uL : Nat → Nat → Int64) (p1 : Int32) (wX : Nat → Nat → Int32) (hf : f_X_goesByCounters uX p1 = some wX) : mk_Met l yX9_goesByCounters cX9_goesByCounters 6 none ({ frames := 3, cells := 0, slots := 0, locals := 69 }) D [(cI, .int), (cJ, .long)] X Y [.ref (aX 0), .int p1] (wModel aX cI cJ uX uL) (wModel aX cI cJ wX uL) none 0 0 := by
  refine mk_start (own := RX9) (by decide) rfl (Nat.le_of_ble_eq_true rfl) ?_
  intro sz p e s m args below meth c A C hr hlk hnm
  replace C : mk_Cx p s m args c cX9_goesByCounters 6 RX9 D [(cI, .int), (cJ, .long)] X Y A := C
  have wL146 : ∀ (k59 : Int32 → Int32 → Int32 → Int32 → (Nat → Nat → Int32) → Option ((Nat → Nat → Int32))), (∀ (v2 : Int32) (v3 : Int32) (v4 : Int32) (v5 : Int32) (uX : Nat → Nat → Int32), k59 v2 v3 v4 v5 uX = some wX → mk_Go p l e (headSpec (mk_ws yX9_goesByCounters cX9_goesByCounters 6 none) ({ frames := 3, cells := 0, slots := 0, locals := 69 })).room s m args below meth c D A 6 0 0 (MQ below (mk_Q none D (wModel aX cI cJ wX uL) A) args s 0 0 A) 59 (wModel aX cI cJ uX uL) [(0, .ref (aX 0)), (1, .int p1), (2, .int v2), (3, .int v3), (4, .int v4), (5, .int v5)] []) → ∀ (v2 : Int32) (v3 : Int32) (v4 : Int32) (v5 : Int32) (uX : Nat → Nat → Int32), f_X_goesByCounters_146 p1 k59 v2 v3 v4 v5 uX = some wX → mk_Go p l e (headSpec (mk_ws yX9_goesByCounters cX9_goesByCounters 6 none) ({ frames := 3, cells := 0, slots := 0, locals := 69 })).room s m args below meth c D A 6 0 0 (MQ below (mk_Q none D (wModel aX cI cJ wX uL) A) args s 0 0 A) 146 (wModel aX cI cJ uX uL) [(0, .ref (aX 0)), (1, .int p1), (2, .int v2), (3, .int v3), (4, .int v4), (5, .int v5)] [] := by
    intro k59 hk59 v2 v3 v4 v5 uX hf
    unfold f_X_goesByCounters_146 at hf
    refine mk_iload C 4 dX9_goesByCounters_146 rfl ?_
    refine mk_aload_n C 0 dX9_goesByCounters_148 rfl ?_
    refine mk_get C mk_inX9 0 rfl rfl 28 (by decide) mw_930 (v := .ref (aX 29)) rfl dX9_goesByCounters_149 ?_
    refine mk_iload C 5 dX9_goesByCounters_152 rfl ?_
    obtain ⟨g1, hf⟩ := gI_some hf
    refine mk_iald C 9 0 (f := (uX 28)) rfl rfl g1 (j := (v5 : Int32).toNatClampNeg) rfl dX9_goesByCounters_154 ?_
    refine mk_iconst C (v := 1) dX9_goesByCounters_155 (by decide) ?_
    refine mk_iadd C dX9_goesByCounters_156 ?_
    refine mk_mmax C mw_1192 mw_590 mw_17 mw_591 ⟨Nat.le_of_ble_eq_true rfl, Nat.le_of_ble_eq_true rfl⟩ ⟨Nat.zero_le _, Nat.zero_le _⟩ dX9_goesByCounters_157 ?_
    refine mk_istore C (lv' := [(4, .int (if v4 < (((uX 28) (v5 : Int32).toNatClampNeg) + 1) then (((uX 28) (v5 : Int32).toNatClampNeg) + 1) else v4)), (0, .ref (aX 0)), (1, .int p1), (2, .int v2), (3, .int v3), (5, .int v5)]) dX9_goesByCounters_160 (by decide) rfl ?_
    refine mk_iinc C (v := (v5 + 1)) (lv' := [(5, .int (v5 + 1)), (4, .int (if v4 < (((uX 28) (v5 : Int32).toNatClampNeg) + 1) then (((uX 28) (v5 : Int32).toNatClampNeg) + 1) else v4)), (0, .ref (aX 0)), (1, .int p1), (2, .int v2), (3, .int v3)]) 5 dX9_goesByCounters_162 rfl rfl (by decide) rfl ?_
    refine mk_goto C 59 dX9_goesByCounters_165 (by decide) ?_
    exact mk_lvsub [2, 3, 4, 5, 1, 0] rfl (hk59 _ _ _ _ _ hf)
  have wL144 : ∀ (k59 : Int32 → Int32 → Int32 → Int32 → (Nat → Nat → Int32) → Option ((Nat → Nat → Int32))), (∀ (v2 : Int32) (v3 : Int32) (v4 : Int32) (v5 : Int32) (uX : Nat → Nat → Int32), k59 v2 v3 v4 v5 uX = some wX → mk_Go p l e (headSpec (mk_ws yX9_goesByCounters cX9_goesByCounters 6 none) ({ frames := 3, cells := 0, slots := 0, locals := 69 })).room s m args below meth c D A 6 0 0 (MQ below (mk_Q none D (wModel aX cI cJ wX uL) A) args s 0 0 A) 59 (wModel aX cI cJ uX uL) [(0, .ref (aX 0)), (1, .int p1), (2, .int v2), (3, .int v3), (4, .int v4), (5, .int v5)] []) → ∀ (v2 : Int32) (v3 : Int32) (v4 : Int32) (v5 : Int32) (t1 : Int32) (t2 : Int32) (t3 : Int32) (uX : Nat → Nat → Int32), f_X_goesByCounters_144 p1 k59 v2 v3 v4 v5 t1 t2 t3 uX = some wX → mk_Go p l e (headSpec (mk_ws yX9_goesByCounters cX9_goesByCounters 6 none) ({ frames := 3, cells := 0, slots := 0, locals := 69 })).room s m args below meth c D A 6 0 0 (MQ below (mk_Q none D (wModel aX cI cJ wX uL) A) args s 0 0 A) 144 (wModel aX cI cJ uX uL) [(0, .ref (aX 0)), (1, .int p1), (2, .int v2), (3, .int v3), (4, .int v4), (5, .int v5)] [.int t3, .int t2, .int t1, .ref (aX 29)] := by
    intro k59 hk59 v2 v3 v4 v5 t1 t2 t3 uX hf
    unfold f_X_goesByCounters_144 at hf
    refine mk_iadd C dX9_goesByCounters_144 ?_
    obtain ⟨g2, hf⟩ := gI_some hf
    refine mk_iast C 9 0 (f := (uX 28)) rfl rfl g2 (j := (t1 : Int32).toNatClampNeg) rfl (ws' := (wModel aX cI cJ (upR 28 (upd (uX 28) (t1 : Int32).toNatClampNeg (t2 + t3)) uX) uL)) (st_X_X_28 cI cJ aX uX uL (upd (uX 28) (t1 : Int32).toNatClampNeg (t2 + t3))) dX9_goesByCounters_145 ?_
    exact mk_lvsub [0, 1, 2, 3, 4, 5] rfl (wL146 _ hk59 _ _ _ _ _ hf)
  have wL122 : ∀ (k59 : Int32 → Int32 → Int32 → Int32 → (Nat → Nat → Int32) → Option ((Nat → Nat → Int32))), (∀ (v2 : Int32) (v3 : Int32) (v4 : Int32) (v5 : Int32) (uX : Nat → Nat → Int32), k59 v2 v3 v4 v5 uX = some wX → mk_Go p l e (headSpec (mk_ws yX9_goesByCounters cX9_goesByCounters 6 none) ({ frames := 3, cells := 0, slots := 0, locals := 69 })).room s m args below meth c D A 6 0 0 (MQ below (mk_Q none D (wModel aX cI cJ wX uL) A) args s 0 0 A) 59 (wModel aX cI cJ uX uL) [(0, .ref (aX 0)), (1, .int p1), (2, .int v2), (3, .int v3), (4, .int v4), (5, .int v5)] []) → ∀ (v2 : Int32) (v3 : Int32) (v4 : Int32) (v5 : Int32) (t1 : Int32) (t2 : Int32) (uX : Nat → Nat → Int32), f_X_goesByCounters_122 p1 k59 v2 v3 v4 v5 t1 t2 uX = some wX → mk_Go p l e (headSpec (mk_ws yX9_goesByCounters cX9_goesByCounters 6 none) ({ frames := 3, cells := 0, slots := 0, locals := 69 })).room s m args below meth c D A 6 0 0 (MQ below (mk_Q none D (wModel aX cI cJ wX uL) A) args s 0 0 A) 122 (wModel aX cI cJ uX uL) [(0, .ref (aX 0)), (1, .int p1), (2, .int v2), (3, .int v3), (4, .int v4), (5, .int v5)] [.int t2, .int t1, .ref (aX 29)] := by
    intro k59 hk59 v2 v3 v4 v5 t1 t2 uX hf
    unfold f_X_goesByCounters_122 at hf
    obtain ⟨g3, hf⟩ := gI_some hf
    refine mk_iast C 9 0 (f := (uX 28)) rfl rfl g3 (j := (t1 : Int32).toNatClampNeg) rfl (ws' := (wModel aX cI cJ (upR 28 (upd (uX 28) (t1 : Int32).toNatClampNeg t2) uX) uL)) (st_X_X_28 cI cJ aX uX uL (upd (uX 28) (t1 : Int32).toNatClampNeg t2)) dX9_goesByCounters_122 ?_
    refine mk_goto C 146 dX9_goesByCounters_123 (by decide) ?_
    exact mk_lvsub [0, 1, 2, 3, 4, 5] rfl (wL146 _ hk59 _ _ _ _ _ hf)
  have wL59 : ∀ (n : Nat) (v2 : Int32) (v3 : Int32) (v4 : Int32) (v5 : Int32) (uX : Nat → Nat → Int32), f_X_goesByCounters_59 p1 n v2 v3 v4 v5 uX = some wX → mk_Go p l e (headSpec (mk_ws yX9_goesByCounters cX9_goesByCounters 6 none) ({ frames := 3, cells := 0, slots := 0, locals := 69 })).room s m args below meth c D A 6 0 0 (MQ below (mk_Q none D (wModel aX cI cJ wX uL) A) args s 0 0 A) 59 (wModel aX cI cJ uX uL) [(0, .ref (aX 0)), (1, .int p1), (2, .int v2), (3, .int v3), (4, .int v4), (5, .int v5)] [] := by
    intro  n
    induction n with
    | zero => intro v2 v3 v4 v5 uX hf; exact nomatch (show (none : Option ((Nat → Nat → Int32))) = some _ from hf)
    | succ n ih =>
      intro v2 v3 v4 v5 uX hf
      rw [f_X_goesByCounters_59] at hf
      refine mk_iload C 5 dX9_goesByCounters_59 rfl ?_
      refine mk_bipush C (v := 10) dX9_goesByCounters_61 (by decide) ?_
      refine mk_icmp_ge C 168 dX9_goesByCounters_63 (by decide) (fun c4 => ?_) (fun c4 => ?_)
      · replace hf := (if_pos c4).symm.trans hf
        refine mk_aload_n C 0 dX9_goesByCounters_168 rfl ?_
        refine mk_get C mk_inX9 0 rfl rfl 33 (by decide) mw_935 (v := .ref (aX 34)) rfl dX9_goesByCounters_169 ?_
        refine mk_iload_n C 1 dX9_goesByCounters_172 rfl ?_
        refine mk_iload C 4 dX9_goesByCounters_173 rfl ?_
        obtain ⟨g5, hf⟩ := gI_some hf
        refine mk_iast C 14 0 (f := (uX 33)) rfl rfl g5 (j := (p1 : Int32).toNatClampNeg) rfl (ws' := (wModel aX cI cJ (upR 33 (upd (uX 33) (p1 : Int32).toNatClampNeg v4) uX) uL)) (st_X_X_33 cI cJ aX uX uL (upd (uX 33) (p1 : Int32).toNatClampNeg v4)) dX9_goesByCounters_175 ?_
        have e0 := Option.some.inj hf
        exact mk_vret C hr hlk (by rw [← e0]) dX9_goesByCounters_176
      · replace hf := (if_neg c4).symm.trans hf
        refine mk_aload_n C 0 dX9_goesByCounters_66 rfl ?_
        refine mk_get C mk_inX9 0 rfl rfl 26 (by decide) mw_928 (v := .int (uX 26 0)) rfl dX9_goesByCounters_67 ?_
        refine mk_iload C 5 dX9_goesByCounters_70 rfl ?_
        obtain ⟨r6, h7, hf⟩ := b1_some hf
        refine mk_callSi C (c_X_has l D cI cJ X Y (uX 26 0) v5 r6 h7) mw_1174 mw_1175 mw_10 mw_1176 mkn_X9_has rfl ⟨Nat.le_of_ble_eq_true rfl, Nat.le_of_ble_eq_true rfl⟩ (mk_Fr.nil _) (Nat.le_of_ble_eq_true rfl) dX9_goesByCounters_72 rfl ?_
        refine mk_if_eq C 162 dX9_goesByCounters_75 (by decide) (fun c8 => ?_) (fun c8 => ?_)
        · replace hf := (if_pos c8).symm.trans hf
          refine mk_iinc C (v := (v5 + 1)) (lv' := [(5, .int (v5 + 1)), (0, .ref (aX 0)), (1, .int p1), (2, .int v2), (3, .int v3), (4, .int v4)]) 5 dX9_goesByCounters_162 rfl rfl (by decide) rfl ?_
          refine mk_goto C 59 dX9_goesByCounters_165 (by decide) ?_
          exact mk_lvsub [1, 2, 3, 4, 5, 0] rfl (ih _ _ _ _ _ hf)
        · replace hf := (if_neg c8).symm.trans hf
          refine mk_aload_n C 0 dX9_goesByCounters_78 rfl ?_
          refine mk_get C mk_inX9 0 rfl rfl 29 (by decide) mw_931 (v := .ref (aX 30)) rfl dX9_goesByCounters_79 ?_
          refine mk_iload C 5 dX9_goesByCounters_82 rfl ?_
          obtain ⟨g9, hf⟩ := gI_some hf
          refine mk_iald C 10 0 (f := (uX 29)) rfl rfl g9 (j := (v5 : Int32).toNatClampNeg) rfl dX9_goesByCounters_84 ?_
          refine mk_iconst C (v := (-1)) dX9_goesByCounters_85 (by decide) ?_
          refine mk_icmp_eq C 92 dX9_goesByCounters_86 (by decide) (fun c10 => ?_) (fun c10 => ?_)
          · replace hf := (if_pos c10).symm.trans hf
            refine mk_iload_n C 2 dX9_goesByCounters_92 rfl ?_
            refine mk_iload C 5 dX9_goesByCounters_93 rfl ?_
            obtain ⟨r11, h12, hf⟩ := b1_some hf
            refine mk_callSi C (c_X_has l D cI cJ X Y v2 v5 r11 h12) mw_1174 mw_1175 mw_10 mw_1176 mkn_X9_has rfl ⟨Nat.le_of_ble_eq_true rfl, Nat.le_of_ble_eq_true rfl⟩ (mk_Fr.nil _) (Nat.le_of_ble_eq_true rfl) dX9_goesByCounters_95 rfl ?_
            refine mk_if_eq C 126 dX9_goesByCounters_98 (by decide) (fun c13 => ?_) (fun c13 => ?_)
            · replace hf := (if_pos c13).symm.trans hf
              refine mk_aload_n C 0 dX9_goesByCounters_126 rfl ?_
              refine mk_get C mk_inX9 0 rfl rfl 28 (by decide) mw_930 (v := .ref (aX 29)) rfl dX9_goesByCounters_127 ?_
              refine mk_iload C 5 dX9_goesByCounters_130 rfl ?_
              refine mk_dup2 C dX9_goesByCounters_132 rfl rfl ?_
              refine mk_iald C 9 0 (f := (uX 28)) rfl rfl g9 (j := (v5 : Int32).toNatClampNeg) rfl dX9_goesByCounters_133 ?_
              refine mk_iload_n C 3 dX9_goesByCounters_134 rfl ?_
              refine mk_iconst C (v := 2) dX9_goesByCounters_135 (by decide) ?_
              refine mk_icmp_ne C 143 dX9_goesByCounters_136 (by decide) (fun c14 => ?_) (fun c14 => ?_)
              · replace hf := (if_neg c14).symm.trans hf
                refine mk_iconst C (v := (-1)) dX9_goesByCounters_143 (by decide) ?_
                exact mk_lvsub [0, 1, 2, 3, 4, 5] rfl (wL144 _ ih _ _ _ _ _ _ _ _ hf)
              · replace hf := (if_pos c14).symm.trans hf
                refine mk_iconst C (v := 1) dX9_goesByCounters_139 (by decide) ?_
                refine mk_goto C 144 dX9_goesByCounters_140 (by decide) ?_
                exact mk_lvsub [0, 1, 2, 3, 4, 5] rfl (wL144 _ ih _ _ _ _ _ _ _ _ hf)
            · replace hf := (if_neg c13).symm.trans hf
              refine mk_aload_n C 0 dX9_goesByCounters_101 rfl ?_
              refine mk_get C mk_inX9 0 rfl rfl 28 (by decide) mw_930 (v := .ref (aX 29)) rfl dX9_goesByCounters_102 ?_
              refine mk_iload C 5 dX9_goesByCounters_105 rfl ?_
              refine mk_iload_n C 3 dX9_goesByCounters_107 rfl ?_
              refine mk_iconst C (v := 2) dX9_goesByCounters_108 (by decide) ?_
              refine mk_icmp_ne C 121 dX9_goesByCounters_109 (by decide) (fun c15 => ?_) (fun c15 => ?_)
              · replace hf := (if_neg c15).symm.trans hf
                refine mk_iconst C (v := 0) dX9_goesByCounters_121 (by decide) ?_
                exact mk_lvsub [0, 1, 2, 3, 4, 5] rfl (wL122 _ ih _ _ _ _ _ _ _ hf)
              · replace hf := (if_pos c15).symm.trans hf
                refine mk_aload_n C 0 dX9_goesByCounters_112 rfl ?_
                refine mk_iload C 5 dX9_goesByCounters_113 rfl ?_
                obtain ⟨r16, uX_17, h18, hf⟩ := b2_some hf
                refine mk_callVi C (c_X_takesBit l D cI cJ X Y aX uX uL v5 r16 uX_17 h18) mw_1188 mw_1190 mw_s21 mw_10 mw_1191 mkn_X9_takesBit rfl ⟨Nat.le_of_ble_eq_true rfl, Nat.le_of_ble_eq_true rfl⟩ 0 rfl rfl rfl (mk_Fr.all _ _) (Nat.le_of_ble_eq_true rfl) dX9_goesByCounters_115 rfl ?_
                refine mk_goto C 122 dX9_goesByCounters_118 (by decide) ?_
                exact mk_lvsub [0, 1, 2, 3, 4, 5] rfl (wL122 _ ih _ _ _ _ _ _ _ hf)
          · replace hf := (if_neg c10).symm.trans hf
            refine mk_goto C 162 dX9_goesByCounters_89 (by decide) ?_
            refine mk_iinc C (v := (v5 + 1)) (lv' := [(5, .int (v5 + 1)), (0, .ref (aX 0)), (1, .int p1), (2, .int v2), (3, .int v3), (4, .int v4)]) 5 dX9_goesByCounters_162 rfl rfl (by decide) rfl ?_
            refine mk_goto C 59 dX9_goesByCounters_165 (by decide) ?_
            exact mk_lvsub [1, 2, 3, 4, 5, 0] rfl (ih _ _ _ _ _ hf)
  have wL4 : ∀ (n : Nat) (v2 : Int32) (v3 : Int32) (uX : Nat → Nat → Int32), f_X_goesByCounters_4 p1 n v2 v3 uX = some wX → mk_Go p l e (headSpec (mk_ws yX9_goesByCounters cX9_goesByCounters 6 none) ({ frames := 3, cells := 0, slots := 0, locals := 69 })).room s m args below meth c D A 6 0 0 (MQ below (mk_Q none D (wModel aX cI cJ wX uL) A) args s 0 0 A) 4 (wModel aX cI cJ uX uL) [(0, .ref (aX 0)), (1, .int p1), (2, .int v2), (3, .int v3)] [] := by
    intro  n
    induction n with
    | zero => intro v2 v3 uX hf; exact nomatch (show (none : Option ((Nat → Nat → Int32))) = some _ from hf)
    | succ n ih =>
      intro v2 v3 uX hf
      rw [f_X_goesByCounters_4] at hf
      refine mk_iload_n C 3 dX9_goesByCounters_4 rfl ?_
      refine mk_bipush C (v := 10) dX9_goesByCounters_5 (by decide) ?_
      refine mk_icmp_ge C 46 dX9_goesByCounters_7 (by decide) (fun c19 => ?_) (fun c19 => ?_)
      · replace hf := (if_pos c19).symm.trans hf
        refine mk_aload_n C 0 dX9_goesByCounters_46 rfl ?_
        refine mk_iload_n C 1 dX9_goesByCounters_47 rfl ?_
        refine mk_iload_n C 2 dX9_goesByCounters_48 rfl ?_
        obtain ⟨r20, uX_21, h22, hf⟩ := b2_some hf
        refine mk_callVi C (c_X_sent l D cI cJ X Y aX uX uL p1 v2 r20 uX_21 h22) mw_1177 mw_1179 mw_s19 mw_10 mw_1180 mkn_X9_sent rfl ⟨Nat.le_of_ble_eq_true rfl, Nat.le_of_ble_eq_true rfl⟩ 0 rfl rfl rfl (mk_Fr.all _ _) (Nat.le_of_ble_eq_true rfl) dX9_goesByCounters_49 rfl ?_
        refine mk_istore_n C (lv' := [(3, .int r20), (0, .ref (aX 0)), (1, .int p1), (2, .int v2)]) dX9_goesByCounters_52 (by decide) rfl ?_
        refine mk_iconst C (v := 0) dX9_goesByCounters_53 (by decide) ?_
        refine mk_istore C (lv' := [(4, .int 0), (3, .int r20), (0, .ref (aX 0)), (1, .int p1), (2, .int v2)]) dX9_goesByCounters_54 (by decide) rfl ?_
        refine mk_iconst C (v := 0) dX9_goesByCounters_56 (by decide) ?_
        refine mk_istore C (lv' := [(5, .int 0), (4, .int 0), (3, .int r20), (0, .ref (aX 0)), (1, .int p1), (2, .int v2)]) dX9_goesByCounters_57 (by decide) rfl ?_
        exact mk_lvsub [3, 4, 5, 2, 1, 0] rfl (wL59 600 _ _ _ _ _ hf)
      · replace hf := (if_neg c19).symm.trans hf
        refine mk_iload_n C 2 dX9_goesByCounters_10 rfl ?_
        refine mk_aload_n C 0 dX9_goesByCounters_11 rfl ?_
        refine mk_get C mk_inX9 0 rfl rfl 26 (by decide) mw_928 (v := .int (uX 26 0)) rfl dX9_goesByCounters_12 ?_
        refine mk_iload_n C 3 dX9_goesByCounters_15 rfl ?_
        obtain ⟨r23, h24, hf⟩ := b1_some hf
        refine mk_callSi C (c_X_has l D cI cJ X Y (uX 26 0) v3 r23 h24) mw_1174 mw_1175 mw_10 mw_1176 mkn_X9_has rfl ⟨Nat.le_of_ble_eq_true rfl, Nat.le_of_ble_eq_true rfl⟩ (mk_Fr.nil _) (Nat.le_of_ble_eq_true rfl) dX9_goesByCounters_16 rfl ?_
        refine mk_if_eq C 37 dX9_goesByCounters_19 (by decide) (fun c25 => ?_) (fun c25 => ?_)
        · replace hf := (if_pos c25).symm.trans hf
          refine mk_iconst C (v := 0) dX9_goesByCounters_37 (by decide) ?_
          refine mk_ior C dX9_goesByCounters_38 ?_
          refine mk_istore_n C (lv' := [(2, .int (v2 ||| 0)), (0, .ref (aX 0)), (1, .int p1), (3, .int v3)]) dX9_goesByCounters_39 (by decide) rfl ?_
          refine mk_iinc C (v := (v3 + 1)) (lv' := [(3, .int (v3 + 1)), (2, .int (v2 ||| 0)), (0, .ref (aX 0)), (1, .int p1)]) 3 dX9_goesByCounters_40 rfl rfl (by decide) rfl ?_
          refine mk_goto C 4 dX9_goesByCounters_43 (by decide) ?_
          exact mk_lvsub [2, 3, 1, 0] rfl (ih _ _ _ hf)
        · replace hf := (if_neg c25).symm.trans hf
          refine mk_aload_n C 0 dX9_goesByCounters_22 rfl ?_
          refine mk_get C mk_inX9 0 rfl rfl 28 (by decide) mw_930 (v := .ref (aX 29)) rfl dX9_goesByCounters_23 ?_
          refine mk_iload_n C 3 dX9_goesByCounters_26 rfl ?_
          obtain ⟨g26, hf⟩ := gI_some hf
          refine mk_iald C 9 0 (f := (uX 28)) rfl rfl g26 (j := (v3 : Int32).toNatClampNeg) rfl dX9_goesByCounters_27 ?_
          refine mk_if_ne C 37 dX9_goesByCounters_28 (by decide) (fun c27 => ?_) (fun c27 => ?_)
          · replace hf := (if_neg c27).symm.trans hf
            refine mk_iconst C (v := 0) dX9_goesByCounters_37 (by decide) ?_
            refine mk_ior C dX9_goesByCounters_38 ?_
            refine mk_istore_n C (lv' := [(2, .int (v2 ||| 0)), (0, .ref (aX 0)), (1, .int p1), (3, .int v3)]) dX9_goesByCounters_39 (by decide) rfl ?_
            refine mk_iinc C (v := (v3 + 1)) (lv' := [(3, .int (v3 + 1)), (2, .int (v2 ||| 0)), (0, .ref (aX 0)), (1, .int p1)]) 3 dX9_goesByCounters_40 rfl rfl (by decide) rfl ?_
            refine mk_goto C 4 dX9_goesByCounters_43 (by decide) ?_
            exact mk_lvsub [2, 3, 1, 0] rfl (ih _ _ _ hf)
          · replace hf := (if_pos c27).symm.trans hf
            refine mk_iconst C (v := 1) dX9_goesByCounters_31 (by decide) ?_
            refine mk_iload_n C 3 dX9_goesByCounters_32 rfl ?_
            refine mk_ishl C dX9_goesByCounters_33 ?_
            refine mk_goto C 38 dX9_goesByCounters_34 (by decide) ?_
            refine mk_ior C dX9_goesByCounters_38 ?_
            refine mk_istore_n C (lv' := [(2, .int (v2 ||| (1 <<< (v3 &&& 31)))), (0, .ref (aX 0)), (1, .int p1), (3, .int v3)]) dX9_goesByCounters_39 (by decide) rfl ?_
            refine mk_iinc C (v := (v3 + 1)) (lv' := [(3, .int (v3 + 1)), (2, .int (v2 ||| (1 <<< (v3 &&& 31)))), (0, .ref (aX 0)), (1, .int p1)]) 3 dX9_goesByCounters_40 rfl rfl (by decide) rfl ?_
            refine mk_goto C 4 dX9_goesByCounters_43 (by decide) ?_
            exact mk_lvsub [2, 3, 1, 0] rfl (ih _ _ _ hf)
  show mk_Go p l e (headSpec (mk_ws yX9_goesByCounters cX9_goesByCounters 6 none) ({ frames := 3, cells := 0, slots := 0, locals := 69 })).room s m args below meth c D A 6 0 0 (MQ below (mk_Q none D (wModel aX cI cJ wX uL) A) args s 0 0 A) 0 (wModel aX cI cJ uX uL) [(0, .ref (aX 0)), (1, .int p1)] []
  unfold f_X_goesByCounters at hf
  refine mk_iconst C (v := 0) dX9_goesByCounters_0 (by decide) ?_
  refine mk_istore_n C (lv' := [(2, .int 0), (0, .ref (aX 0)), (1, .int p1)]) dX9_goesByCounters_1 (by decide) rfl ?_
  refine mk_iconst C (v := 0) dX9_goesByCounters_2 (by decide) ?_
  refine mk_istore_n C (lv' := [(3, .int 0), (2, .int 0), (0, .ref (aX 0)), (1, .int p1)]) dX9_goesByCounters_3 (by decide) rfl ?_
  exact mk_lvsub [2, 3, 1, 0] rfl (wL4 600 _ _ _ hf)
set_option maxHeartbeats 40000000 in
set_option maxRecDepth 100000 in
theorem c_X_between (l : Launch) (D : va_G) (cI cJ : ClassId) (X Y : Nat → Nat) (aX : Nat → Nat) (uX : Nat → Nat → Int32) (uL : Nat → Nat → Int64) (p1 : Int32) (p2 : Int32) (p3 : Int32) (r : Int32) (hf : f_X_between uX p1 p2 p3 = some r) : mk_Met l yX9_between cX9_between 6 (some .int) ({ frames := 1, cells := 0, slots := 0, locals := 25 }) D [(cI, .int), (cJ, .long)] X Y [.ref (aX 0), .int p1, .int p2, .int p3] (wModel aX cI cJ uX uL) (wModel aX cI cJ uX uL) (some (.int r)) 0 0 := by
  refine mk_start (own := RX9) (by decide) rfl (Nat.le_of_ble_eq_true rfl) ?_
  intro sz p e s m args below meth c A C hr hlk hnm
  replace C : mk_Cx p s m args c cX9_between 6 RX9 D [(cI, .int), (cJ, .long)] X Y A := C
  have wL6 : ∀ (n : Nat) (v4 : Int32) (v5 : Int32), f_X_between_6 uX p1 p2 p3 n v4 v5 = some r → mk_Go p l e (headSpec (mk_ws yX9_between cX9_between 6 (some .int)) ({ frames := 1, cells := 0, slots := 0, locals := 25 })).room s m args below meth c D A 6 0 0 (MQ below (mk_Q (some (.int r)) D (wModel aX cI cJ uX uL) A) args s 0 0 A) 6 (wModel aX cI cJ uX uL) [(0, .ref (aX 0)), (1, .int p1), (2, .int p2), (3, .int p3), (4, .int v4), (5, .int v5)] [] := by
    intro  n
    induction n with
    | zero => intro v4 v5 hf; exact nomatch (show (none : Option (Int32)) = some _ from hf)
    | succ n ih =>
      intro v4 v5 hf
      rw [f_X_between_6] at hf
      refine mk_iload C 5 dX9_between_6 rfl ?_
      refine mk_bipush C (v := 10) dX9_between_8 (by decide) ?_
      refine mk_icmp_ge C 69 dX9_between_10 (by decide) (fun c1 => ?_) (fun c1 => ?_)
      · replace hf := (if_pos c1).symm.trans hf
        refine mk_iload C 4 dX9_between_69 rfl ?_
        have e0 := Option.some.inj hf
        exact mk_iret C hr hlk e0 rfl dX9_between_71
      · replace hf := (if_neg c1).symm.trans hf
        refine mk_iload C 4 dX9_between_13 rfl ?_
        refine mk_iload_n C 1 dX9_between_15 rfl ?_
        refine mk_iload C 5 dX9_between_16 rfl ?_
        obtain ⟨r2, h3, hf⟩ := b1_some hf
        refine mk_callSi C (c_X_has l D cI cJ X Y p1 v5 r2 h3) mw_1174 mw_1175 mw_10 mw_1176 mkn_X9_has rfl ⟨Nat.le_of_ble_eq_true rfl, Nat.le_of_ble_eq_true rfl⟩ (mk_Fr.nil _) (Nat.le_of_ble_eq_true rfl) dX9_between_18 rfl ?_
        refine mk_if_eq C 59 dX9_between_21 (by decide) (fun c4 => ?_) (fun c4 => ?_)
        · replace hf := (if_pos c4).symm.trans hf
          refine mk_iconst C (v := 0) dX9_between_59 (by decide) ?_
          refine mk_ior C dX9_between_60 ?_
          refine mk_istore C (lv' := [(4, .int (v4 ||| 0)), (0, .ref (aX 0)), (1, .int p1), (2, .int p2), (3, .int p3), (5, .int v5)]) dX9_between_61 (by decide) rfl ?_
          refine mk_iinc C (v := (v5 + 1)) (lv' := [(5, .int (v5 + 1)), (4, .int (v4 ||| 0)), (0, .ref (aX 0)), (1, .int p1), (2, .int p2), (3, .int p3)]) 5 dX9_between_63 rfl rfl (by decide) rfl ?_
          refine mk_goto C 6 dX9_between_66 (by decide) ?_
          exact mk_lvsub [2, 3, 4, 5, 1, 0] rfl (ih _ _ hf)
        · replace hf := (if_neg c4).symm.trans hf
          refine mk_aload_n C 0 dX9_between_24 rfl ?_
          refine mk_get C mk_inX9 0 rfl rfl 0 (by decide) mw_902 (v := .ref (aX 1)) rfl dX9_between_25 ?_
          refine mk_bipush C (v := 7) dX9_between_28 (by decide) ?_
          refine mk_iload C 5 dX9_between_30 rfl ?_
          refine mk_iadd C dX9_between_32 ?_
          obtain ⟨g5, hf⟩ := gI_some hf
          refine mk_iald C 1 0 (f := (uX 0)) rfl rfl g5 (j := ((7 + v5) : Int32).toNatClampNeg) rfl dX9_between_33 ?_
          refine mk_iload C 5 dX9_between_34 rfl ?_
          obtain ⟨r6, h7, hf⟩ := b1_some hf
          refine mk_callSi C (c_X_momentOf l D cI cJ X Y ((uX 0) ((7 + v5) : Int32).toNatClampNeg) v5 r6 h7) mw_1205 mw_1206 mw_10 mw_1207 mkn_X9_momentOf rfl ⟨Nat.le_of_ble_eq_true rfl, Nat.le_of_ble_eq_true rfl⟩ (mk_Fr.nil _) (Nat.le_of_ble_eq_true rfl) dX9_between_36 rfl ?_
          refine mk_i2l C dX9_between_39 ?_
          refine mk_iload_n C 2 dX9_between_40 rfl ?_
          refine mk_i2l C dX9_between_41 ?_
          refine mk_iload_n C 3 dX9_between_42 rfl ?_
          refine mk_iconst C (v := 1) dX9_between_43 (by decide) ?_
          refine mk_isub C dX9_between_44 ?_
          refine mk_i2l C dX9_between_45 ?_
          obtain ⟨r8, h9, hf⟩ := b1_some hf
          refine mk_callSi C (c_X_in l D cI cJ X Y ((r6 : Int32).toInt64) ((p2 : Int32).toInt64) (((p3 - 1) : Int32).toInt64) r8 h9) mw_1052 mw_1053 mw_10 mw_1054 mkn_X9_in rfl ⟨Nat.le_of_ble_eq_true rfl, Nat.le_of_ble_eq_true rfl⟩ (mk_Fr.nil _) (Nat.le_of_ble_eq_true rfl) dX9_between_46 rfl ?_
          refine mk_if_eq C 59 dX9_between_49 (by decide) (fun c10 => ?_) (fun c10 => ?_)
          · replace hf := (if_pos c10).symm.trans hf
            refine mk_iconst C (v := 0) dX9_between_59 (by decide) ?_
            refine mk_ior C dX9_between_60 ?_
            refine mk_istore C (lv' := [(4, .int (v4 ||| 0)), (0, .ref (aX 0)), (1, .int p1), (2, .int p2), (3, .int p3), (5, .int v5)]) dX9_between_61 (by decide) rfl ?_
            refine mk_iinc C (v := (v5 + 1)) (lv' := [(5, .int (v5 + 1)), (4, .int (v4 ||| 0)), (0, .ref (aX 0)), (1, .int p1), (2, .int p2), (3, .int p3)]) 5 dX9_between_63 rfl rfl (by decide) rfl ?_
            refine mk_goto C 6 dX9_between_66 (by decide) ?_
            exact mk_lvsub [2, 3, 4, 5, 1, 0] rfl (ih _ _ hf)
          · replace hf := (if_neg c10).symm.trans hf
            refine mk_iconst C (v := 1) dX9_between_52 (by decide) ?_
            refine mk_iload C 5 dX9_between_53 rfl ?_
            refine mk_ishl C dX9_between_55 ?_
            refine mk_goto C 60 dX9_between_56 (by decide) ?_
            refine mk_ior C dX9_between_60 ?_
            refine mk_istore C (lv' := [(4, .int (v4 ||| (1 <<< (v5 &&& 31)))), (0, .ref (aX 0)), (1, .int p1), (2, .int p2), (3, .int p3), (5, .int v5)]) dX9_between_61 (by decide) rfl ?_
            refine mk_iinc C (v := (v5 + 1)) (lv' := [(5, .int (v5 + 1)), (4, .int (v4 ||| (1 <<< (v5 &&& 31)))), (0, .ref (aX 0)), (1, .int p1), (2, .int p2), (3, .int p3)]) 5 dX9_between_63 rfl rfl (by decide) rfl ?_
            refine mk_goto C 6 dX9_between_66 (by decide) ?_
            exact mk_lvsub [2, 3, 4, 5, 1, 0] rfl (ih _ _ hf)
  show mk_Go p l e (headSpec (mk_ws yX9_between cX9_between 6 (some .int)) ({ frames := 1, cells := 0, slots := 0, locals := 25 })).room s m args below meth c D A 6 0 0 (MQ below (mk_Q (some (.int r)) D (wModel aX cI cJ uX uL) A) args s 0 0 A) 0 (wModel aX cI cJ uX uL) [(0, .ref (aX 0)), (1, .int p1), (2, .int p2), (3, .int p3)] []
  unfold f_X_between at hf
  refine mk_iconst C (v := 0) dX9_between_0 (by decide) ?_
  refine mk_istore C (lv' := [(4, .int 0), (0, .ref (aX 0)), (1, .int p1), (2, .int p2), (3, .int p3)]) dX9_between_1 (by decide) rfl ?_
  refine mk_iconst C (v := 0) dX9_between_3 (by decide) ?_
  refine mk_istore C (lv' := [(5, .int 0), (4, .int 0), (0, .ref (aX 0)), (1, .int p1), (2, .int p2), (3, .int p3)]) dX9_between_4 (by decide) rfl ?_
  exact mk_lvsub [2, 3, 4, 5, 1, 0] rfl (wL6 600 _ _ hf)
set_option maxHeartbeats 40000000 in
set_option maxRecDepth 100000 in
theorem c_X_begins (l : Launch) (D : va_G) (cI cJ : ClassId) (X Y : Nat → Nat) (aX : Nat → Nat) (uX : Nat → Nat → Int32) (uL : Nat → Nat → Int64) (p1 : Int32) (wX : Nat → Nat → Int32) (hf : f_X_begins uX p1 = some wX) : mk_Met l yX9_begins cX9_begins 5 none ({ frames := 2, cells := 0, slots := 0, locals := 50 }) D [(cI, .int), (cJ, .long)] X Y [.ref (aX 0), .int p1] (wModel aX cI cJ uX uL) (wModel aX cI cJ wX uL) none 0 0 := by
  refine mk_start (own := RX9) (by decide) rfl (Nat.le_of_ble_eq_true rfl) ?_
  intro sz p e s m args below meth c A C hr hlk hnm
  replace C : mk_Cx p s m args c cX9_begins 5 RX9 D [(cI, .int), (cJ, .long)] X Y A := C
  have wL119 : ∀ (v2 : Int32) (t1 : Int32) (uX : Nat → Nat → Int32), f_X_begins_119 p1 v2 t1 uX = some wX → mk_Go p l e (headSpec (mk_ws yX9_begins cX9_begins 5 none) ({ frames := 2, cells := 0, slots := 0, locals := 50 })).room s m args below meth c D A 5 0 0 (MQ below (mk_Q none D (wModel aX cI cJ wX uL) A) args s 0 0 A) 119 (wModel aX cI cJ uX uL) [(0, .ref (aX 0)), (1, .int p1), (2, .int v2)] [.int t1, .ref (aX 0)] := by
    intro  v2 t1 uX hf
    unfold f_X_begins_119 at hf
    obtain ⟨g1, hf⟩ := gZ_some hf
    refine mk_put C mk_inX9 tyX9 tyX9_ok nmX9 0 rfl rfl 39 (by decide) mw_941 rfl (mk_nz g1) (mk_fz g1) (Nat.le_of_ble_eq_true rfl) (ws' := (wModel aX cI cJ (upF 39 t1 uX) uL)) (st_X_X_39 cI cJ aX uX uL t1) dX9_begins_119 ?_
    refine mk_aload_n C 0 dX9_begins_122 rfl ?_
    refine mk_get C mk_inX9 0 rfl rfl 39 (by decide) mw_941 (v := .int t1) rfl dX9_begins_123 ?_
    refine mk_if_eq C 169 dX9_begins_126 (by decide) (fun c2 => ?_) (fun c2 => ?_)
    · replace hf := (if_pos c2).symm.trans hf
      have e0 := Option.some.inj hf
      exact mk_vret C hr hlk (by rw [← e0]) dX9_begins_169
    · replace hf := (if_neg c2).symm.trans hf
      refine mk_aload_n C 0 dX9_begins_129 rfl ?_
      refine mk_get C mk_inX9 0 rfl rfl 35 (by decide) mw_937 (v := .ref (aX 36)) rfl dX9_begins_130 ?_
      refine mk_aload_n C 0 dX9_begins_133 rfl ?_
      refine mk_get C mk_inX9 0 rfl rfl 38 (by decide) mw_940 (v := .int (uX 38 0)) rfl dX9_begins_134 ?_
      refine mk_iload_n C 1 dX9_begins_137 rfl ?_
      obtain ⟨g3, hf⟩ := gI_some hf
      refine mk_iast C 16 0 (f := (uX 35)) rfl rfl g3 (j := ((uX 38 0) : Int32).toNatClampNeg) rfl (ws' := (wModel aX cI cJ (upR 35 (upd (uX 35) ((uX 38 0) : Int32).toNatClampNeg p1) (upF 39 t1 uX)) uL)) (st_X_X_35 cI cJ aX (upF 39 t1 uX) uL (upd (uX 35) ((uX 38 0) : Int32).toNatClampNeg p1)) dX9_begins_138 ?_
      refine mk_aload_n C 0 dX9_begins_139 rfl ?_
      refine mk_get C mk_inX9 0 rfl rfl 36 (by decide) mw_938 (v := .ref (aX 37)) rfl dX9_begins_140 ?_
      refine mk_aload_n C 0 dX9_begins_143 rfl ?_
      refine mk_get C mk_inX9 0 rfl rfl 38 (by decide) mw_940 (v := .int (uX 38 0)) rfl dX9_begins_144 ?_
      refine mk_iconst C (v := (-1)) dX9_begins_147 (by decide) ?_
      refine mk_iast C 17 0 (f := (uX 36)) rfl rfl g3 (j := ((uX 38 0) : Int32).toNatClampNeg) rfl (ws' := (wModel aX cI cJ (upR 36 (upd (uX 36) ((uX 38 0) : Int32).toNatClampNeg (-1)) (upR 35 (upd (uX 35) ((uX 38 0) : Int32).toNatClampNeg p1) (upF 39 t1 uX))) uL)) (st_X_X_36 cI cJ aX (upR 35 (upd (uX 35) ((uX 38 0) : Int32).toNatClampNeg p1) (upF 39 t1 uX)) uL (upd (uX 36) ((uX 38 0) : Int32).toNatClampNeg (-1))) dX9_begins_148 ?_
      refine mk_aload_n C 0 dX9_begins_149 rfl ?_
      refine mk_get C mk_inX9 0 rfl rfl 37 (by decide) mw_939 (v := .ref (aX 38)) rfl dX9_begins_150 ?_
      refine mk_aload_n C 0 dX9_begins_153 rfl ?_
      refine mk_get C mk_inX9 0 rfl rfl 38 (by decide) mw_940 (v := .int (uX 38 0)) rfl dX9_begins_154 ?_
      refine mk_iload_n C 2 dX9_begins_157 rfl ?_
      refine mk_iast C 18 0 (f := (uX 37)) rfl rfl g3 (j := ((uX 38 0) : Int32).toNatClampNeg) rfl (ws' := (wModel aX cI cJ (upR 37 (upd (uX 37) ((uX 38 0) : Int32).toNatClampNeg v2) (upR 36 (upd (uX 36) ((uX 38 0) : Int32).toNatClampNeg (-1)) (upR 35 (upd (uX 35) ((uX 38 0) : Int32).toNatClampNeg p1) (upF 39 t1 uX)))) uL)) (st_X_X_37 cI cJ aX (upR 36 (upd (uX 36) ((uX 38 0) : Int32).toNatClampNeg (-1)) (upR 35 (upd (uX 35) ((uX 38 0) : Int32).toNatClampNeg p1) (upF 39 t1 uX))) uL (upd (uX 37) ((uX 38 0) : Int32).toNatClampNeg v2)) dX9_begins_158 ?_
      refine mk_aload_n C 0 dX9_begins_159 rfl ?_
      refine mk_dup C dX9_begins_160 rfl ?_
      refine mk_get C mk_inX9 0 rfl rfl 38 (by decide) mw_940 (v := .int (uX 38 0)) rfl dX9_begins_161 ?_
      refine mk_iconst C (v := 1) dX9_begins_164 (by decide) ?_
      refine mk_iadd C dX9_begins_165 ?_
      refine mk_put C mk_inX9 tyX9 tyX9_ok nmX9 0 rfl rfl 38 (by decide) mw_940 rfl rfl rfl (Nat.le_of_ble_eq_true rfl) (ws' := (wModel aX cI cJ (upF 38 ((uX 38 0) + 1) (upR 37 (upd (uX 37) ((uX 38 0) : Int32).toNatClampNeg v2) (upR 36 (upd (uX 36) ((uX 38 0) : Int32).toNatClampNeg (-1)) (upR 35 (upd (uX 35) ((uX 38 0) : Int32).toNatClampNeg p1) (upF 39 t1 uX))))) uL)) (st_X_X_38 cI cJ aX (upR 37 (upd (uX 37) ((uX 38 0) : Int32).toNatClampNeg v2) (upR 36 (upd (uX 36) ((uX 38 0) : Int32).toNatClampNeg (-1)) (upR 35 (upd (uX 35) ((uX 38 0) : Int32).toNatClampNeg p1) (upF 39 t1 uX)))) uL ((uX 38 0) + 1)) dX9_begins_166 ?_
      have e0 := Option.some.inj hf
      exact mk_vret C hr hlk (by rw [← e0]) dX9_begins_169
  have wL82 : ∀ (v2 : Int32) (v3 : Int32) (v4 : Int32) (uX : Nat → Nat → Int32), f_X_begins_82 p1 v2 v3 v4 uX = some wX → mk_Go p l e (headSpec (mk_ws yX9_begins cX9_begins 5 none) ({ frames := 2, cells := 0, slots := 0, locals := 50 })).room s m args below meth c D A 5 0 0 (MQ below (mk_Q none D (wModel aX cI cJ wX uL) A) args s 0 0 A) 82 (wModel aX cI cJ uX uL) [(0, .ref (aX 0)), (1, .int p1), (2, .int v2), (3, .int v3), (4, .int v4)] [] := by
    intro  v2 v3 v4 uX hf
    unfold f_X_begins_82 at hf
    refine mk_aload_n C 0 dX9_begins_82 rfl ?_
    refine mk_get C mk_inX9 0 rfl rfl 18 (by decide) mw_920 (v := .ref (aX 19)) rfl dX9_begins_83 ?_
    refine mk_iconst C (v := 0) dX9_begins_86 (by decide) ?_
    refine mk_iload_n C 2 dX9_begins_87 rfl ?_
    refine mk_iast C 5 0 (f := (uX 18)) rfl rfl (mk_vi (by decide)) (j := 0) (by decide) (ws' := (wModel aX cI cJ (upR 18 (upd (uX 18) 0 v2) uX) uL)) (st_X_X_18 cI cJ aX uX uL (upd (uX 18) 0 v2)) dX9_begins_88 ?_
    refine mk_aload_n C 0 dX9_begins_89 rfl ?_
    refine mk_get C mk_inX9 0 rfl rfl 19 (by decide) mw_921 (v := .ref (aX 20)) rfl dX9_begins_90 ?_
    refine mk_iconst C (v := 0) dX9_begins_93 (by decide) ?_
    refine mk_iload_n C 3 dX9_begins_94 rfl ?_
    refine mk_iast C 6 0 (f := (uX 19)) rfl rfl (mk_vi (by decide)) (j := 0) (by decide) (ws' := (wModel aX cI cJ (upR 19 (upd (uX 19) 0 v3) (upR 18 (upd (uX 18) 0 v2) uX)) uL)) (st_X_X_19 cI cJ aX (upR 18 (upd (uX 18) 0 v2) uX) uL (upd (uX 19) 0 v3)) dX9_begins_95 ?_
    refine mk_aload_n C 0 dX9_begins_96 rfl ?_
    refine mk_get C mk_inX9 0 rfl rfl 20 (by decide) mw_922 (v := .ref (aX 21)) rfl dX9_begins_97 ?_
    refine mk_iconst C (v := 0) dX9_begins_100 (by decide) ?_
    refine mk_iload C 4 dX9_begins_101 rfl ?_
    refine mk_iast C 7 0 (f := (uX 20)) rfl rfl (mk_vi (by decide)) (j := 0) (by decide) (ws' := (wModel aX cI cJ (upR 20 (upd (uX 20) 0 v4) (upR 19 (upd (uX 19) 0 v3) (upR 18 (upd (uX 18) 0 v2) uX))) uL)) (st_X_X_20 cI cJ aX (upR 19 (upd (uX 19) 0 v3) (upR 18 (upd (uX 18) 0 v2) uX)) uL (upd (uX 20) 0 v4)) dX9_begins_103 ?_
    refine mk_aload_n C 0 dX9_begins_104 rfl ?_
    refine mk_iconst C (v := 1) dX9_begins_105 (by decide) ?_
    refine mk_put C mk_inX9 tyX9 tyX9_ok nmX9 0 rfl rfl 21 (by decide) mw_923 rfl rfl rfl (Nat.le_of_ble_eq_true rfl) (ws' := (wModel aX cI cJ (upF 21 1 (upR 20 (upd (uX 20) 0 v4) (upR 19 (upd (uX 19) 0 v3) (upR 18 (upd (uX 18) 0 v2) uX)))) uL)) (st_X_X_21 cI cJ aX (upR 20 (upd (uX 20) 0 v4) (upR 19 (upd (uX 19) 0 v3) (upR 18 (upd (uX 18) 0 v2) uX))) uL 1) dX9_begins_106 ?_
    refine mk_aload_n C 0 dX9_begins_109 rfl ?_
    refine mk_iload_n C 2 dX9_begins_110 rfl ?_
    refine mk_if_eq C 118 dX9_begins_111 (by decide) (fun c4 => ?_) (fun c4 => ?_)
    · replace hf := (if_pos c4).symm.trans hf
      refine mk_iconst C (v := 0) dX9_begins_118 (by decide) ?_
      exact mk_lvsub [0, 1, 2] rfl (wL119 _ _ _ hf)
    · replace hf := (if_neg c4).symm.trans hf
      refine mk_iconst C (v := 1) dX9_begins_114 (by decide) ?_
      refine mk_goto C 119 dX9_begins_115 (by decide) ?_
      exact mk_lvsub [0, 1, 2] rfl (wL119 _ _ _ hf)
  show mk_Go p l e (headSpec (mk_ws yX9_begins cX9_begins 5 none) ({ frames := 2, cells := 0, slots := 0, locals := 50 })).room s m args below meth c D A 5 0 0 (MQ below (mk_Q none D (wModel aX cI cJ wX uL) A) args s 0 0 A) 0 (wModel aX cI cJ uX uL) [(0, .ref (aX 0)), (1, .int p1)] []
  unfold f_X_begins at hf
  refine mk_aload_n C 0 dX9_begins_0 rfl ?_
  refine mk_iconst C (v := 1) dX9_begins_1 (by decide) ?_
  refine mk_put C mk_inX9 tyX9 tyX9_ok nmX9 0 rfl rfl 22 (by decide) mw_924 rfl rfl rfl (Nat.le_of_ble_eq_true rfl) (ws' := (wModel aX cI cJ (upF 22 1 uX) uL)) (st_X_X_22 cI cJ aX uX uL 1) dX9_begins_2 ?_
  refine mk_aload_n C 0 dX9_begins_5 rfl ?_
  refine mk_iconst C (v := 0) dX9_begins_6 (by decide) ?_
  refine mk_put C mk_inX9 tyX9 tyX9_ok nmX9 0 rfl rfl 23 (by decide) mw_925 rfl rfl rfl (Nat.le_of_ble_eq_true rfl) (ws' := (wModel aX cI cJ (upF 23 0 (upF 22 1 uX)) uL)) (st_X_X_23 cI cJ aX (upF 22 1 uX) uL 0) dX9_begins_7 ?_
  refine mk_aload_n C 0 dX9_begins_10 rfl ?_
  refine mk_iconst C (v := 0) dX9_begins_11 (by decide) ?_
  refine mk_put C mk_inX9 tyX9 tyX9_ok nmX9 0 rfl rfl 24 (by decide) mw_926 rfl rfl rfl (Nat.le_of_ble_eq_true rfl) (ws' := (wModel aX cI cJ (upF 24 0 (upF 23 0 (upF 22 1 uX))) uL)) (st_X_X_24 cI cJ aX (upF 23 0 (upF 22 1 uX)) uL 0) dX9_begins_12 ?_
  refine mk_aload_n C 0 dX9_begins_15 rfl ?_
  refine mk_get C mk_inX9 0 rfl rfl 26 (by decide) mw_928 (v := .int (uX 26 0)) rfl dX9_begins_16 ?_
  refine mk_istore_n C (lv' := [(2, .int (uX 26 0)), (0, .ref (aX 0)), (1, .int p1)]) dX9_begins_19 (by decide) rfl ?_
  refine mk_iconst C (v := 0) dX9_begins_20 (by decide) ?_
  refine mk_istore_n C (lv' := [(3, .int 0), (2, .int (uX 26 0)), (0, .ref (aX 0)), (1, .int p1)]) dX9_begins_21 (by decide) rfl ?_
  refine mk_iconst C (v := 0) dX9_begins_22 (by decide) ?_
  refine mk_istore C (lv' := [(4, .int 0), (3, .int 0), (2, .int (uX 26 0)), (0, .ref (aX 0)), (1, .int p1)]) dX9_begins_23 (by decide) rfl ?_
  refine mk_aload_n C 3 dX9_begins_25 rfl ?_
  refine mk_get C mk_inX9 0 rfl rfl 15 (by decide) mw_917 (v := .int (uX 15 0)) rfl dX9_begins_26 ?_
  refine mk_iconst C (v := 3) dX9_begins_29 (by decide) ?_
  refine mk_icmp_ne C 82 dX9_begins_30 (by decide) (fun c5 => ?_) (fun c5 => ?_)
  · replace hf := (if_neg c5).symm.trans hf
    exact mk_lvsub [3, 4, 2, 1, 0] rfl (wL82 _ _ _ _ hf)
  · replace hf := (if_pos c5).symm.trans hf
    refine mk_aload_n C 3 dX9_begins_33 rfl ?_
    refine mk_get C mk_inX9 0 rfl rfl 25 (by decide) mw_927 (v := .int (uX 25 0)) rfl dX9_begins_34 ?_
    refine mk_istore_n C (lv' := [(3, .int (uX 25 0)), (4, .int 0), (2, .int (uX 26 0)), (0, .ref (aX 0)), (1, .int p1)]) dX9_begins_37 (by decide) rfl ?_
    refine mk_aload_n C 3 dX9_begins_38 rfl ?_
    refine mk_get C mk_inX9 0 rfl rfl 25 (by decide) mw_927 (v := .int (uX 25 0)) rfl dX9_begins_39 ?_
    refine mk_bipush C (v := 16) dX9_begins_42 (by decide) ?_
    refine mk_aload_n C 3 dX9_begins_44 rfl ?_
    refine mk_get C mk_inX9 0 rfl rfl 0 (by decide) mw_902 (v := .ref (aX 1)) rfl dX9_begins_45 ?_
    refine mk_iconst C (v := 3) dX9_begins_48 (by decide) ?_
    refine mk_iald C 1 0 (f := (uX 0)) rfl rfl (mk_vi (by decide)) (j := 3) (by decide) dX9_begins_49 ?_
    refine mk_imul C dX9_begins_50 ?_
    refine mk_iadd C dX9_begins_51 ?_
    refine mk_bipush C (v := 16) dX9_begins_52 (by decide) ?_
    refine mk_iload_n C 4 dX9_begins_54 rfl ?_
    refine mk_imul C dX9_begins_55 ?_
    refine mk_bipush C (v := 16) dX9_begins_56 (by decide) ?_
    refine mk_iadd C dX9_begins_58 ?_
    refine mk_mmin C mw_1068 mw_569 mw_17 mw_570 ⟨Nat.le_of_ble_eq_true rfl, Nat.le_of_ble_eq_true rfl⟩ ⟨Nat.zero_le _, Nat.zero_le _⟩ dX9_begins_59 ?_
    refine mk_istore C (lv' := [(4, .int (if ((16 * p1) + 16) < ((uX 25 0) + (16 * ((uX 0) 3))) then ((16 * p1) + 16) else ((uX 25 0) + (16 * ((uX 0) 3))))), (3, .int (uX 25 0)), (2, .int (uX 26 0)), (0, .ref (aX 0)), (1, .int p1)]) dX9_begins_62 (by decide) rfl ?_
    refine mk_aload_n C 3 dX9_begins_64 rfl ?_
    refine mk_iload C 0 dX9_begins_65 rfl ?_
    refine mk_put C mk_inX9 tyX9 tyX9_ok nmX9 0 rfl rfl 25 (by decide) mw_927 rfl rfl rfl (Nat.le_of_ble_eq_true rfl) (ws' := (wModel aX cI cJ (upF 25 (if ((16 * p1) + 16) < ((uX 25 0) + (16 * ((uX 0) 3))) then ((16 * p1) + 16) else ((uX 25 0) + (16 * ((uX 0) 3)))) (upF 24 0 (upF 23 0 (upF 22 1 uX)))) uL)) (st_X_X_25 cI cJ aX (upF 24 0 (upF 23 0 (upF 22 1 uX))) uL (if ((16 * p1) + 16) < ((uX 25 0) + (16 * ((uX 0) 3))) then ((16 * p1) + 16) else ((uX 25 0) + (16 * ((uX 0) 3))))) dX9_begins_67 ?_
    refine mk_aload_n C 3 dX9_begins_70 rfl ?_
    refine mk_aload_n C 3 dX9_begins_71 rfl ?_
    refine mk_get C mk_inX9 0 rfl rfl 26 (by decide) mw_928 (v := .int (uX 26 0)) rfl dX9_begins_72 ?_
    refine mk_iload_n C 1 dX9_begins_75 rfl ?_
    refine mk_iload C 0 dX9_begins_76 rfl ?_
    obtain ⟨r6, h7, hf⟩ := b1_some hf
    refine mk_callVi C (c_X_between l D cI cJ X Y aX (upF 25 (if ((16 * p1) + 16) < ((uX 25 0) + (16 * ((uX 0) 3))) then ((16 * p1) + 16) else ((uX 25 0) + (16 * ((uX 0) 3)))) (upF 24 0 (upF 23 0 (upF 22 1 uX)))) uL (uX 26 0) (uX 25 0) (if ((16 * p1) + 16) < ((uX 25 0) + (16 * ((uX 0) 3))) then ((16 * p1) + 16) else ((uX 25 0) + (16 * ((uX 0) 3)))) r6 h7) mw_1201 mw_1203 mw_s24 mw_10 mw_1204 mkn_X9_between rfl ⟨Nat.le_of_ble_eq_true rfl, Nat.le_of_ble_eq_true rfl⟩ 0 rfl rfl rfl (mk_Fr.all _ _) (Nat.le_of_ble_eq_true rfl) dX9_begins_78 rfl ?_
    refine mk_istore_n C (lv' := [(2, .int r6), (4, .int (if ((16 * p1) + 16) < ((uX 25 0) + (16 * ((uX 0) 3))) then ((16 * p1) + 16) else ((uX 25 0) + (16 * ((uX 0) 3))))), (3, .int (uX 25 0)), (0, .ref (aX 0)), (1, .int p1)]) dX9_begins_81 (by decide) rfl ?_
    exact mk_lvsub [3, 4, 0, 2, 1] rfl (wL82 _ _ _ _ hf)
set_option maxHeartbeats 40000000 in
set_option maxRecDepth 100000 in
theorem c_X_splits (l : Launch) (D : va_G) (cI cJ : ClassId) (X Y : Nat → Nat) (aX : Nat → Nat) (uX : Nat → Nat → Int32) (uL : Nat → Nat → Int64) (wX : Nat → Nat → Int32) (hf : f_X_splits uX = some wX) : mk_Met l yX9_splits cX9_splits 6 none ({ frames := 2, cells := 0, slots := 0, locals := 50 }) D [(cI, .int), (cJ, .long)] X Y [.ref (aX 0)] (wModel aX cI cJ uX uL) (wModel aX cI cJ wX uL) none 0 0 := by
  refine mk_start (own := RX9) (by decide) rfl (Nat.le_of_ble_eq_true rfl) ?_
  intro sz p e s m args below meth c A C hr hlk hnm
  replace C : mk_Cx p s m args c cX9_splits 6 RX9 D [(cI, .int), (cJ, .long)] X Y A := C
  have wL111 : ∀ (v1 : Int32) (v2 : Int32) (v3 : Int32) (v4 : Int32) (uX : Nat → Nat → Int32), f_X_splits_111 v1 v2 v3 v4 uX = some wX → mk_Go p l e (headSpec (mk_ws yX9_splits cX9_splits 6 none) ({ frames := 2, cells := 0, slots := 0, locals := 50 })).room s m args below meth c D A 6 0 0 (MQ below (mk_Q none D (wModel aX cI cJ wX uL) A) args s 0 0 A) 111 (wModel aX cI cJ uX uL) [(0, .ref (aX 0)), (1, .int v1), (2, .int v2), (3, .int v3), (4, .int v4)] [] := by
    intro  v1 v2 v3 v4 uX hf
    unfold f_X_splits_111 at hf
    refine mk_aload_n C 0 dX9_splits_111 rfl ?_
    refine mk_get C mk_inX9 0 rfl rfl 18 (by decide) mw_920 (v := .ref (aX 19)) rfl dX9_splits_112 ?_
    refine mk_iload_n C 1 dX9_splits_115 rfl ?_
    refine mk_iconst C (v := 1) dX9_splits_116 (by decide) ?_
    refine mk_iadd C dX9_splits_117 ?_
    refine mk_iload_n C 2 dX9_splits_118 rfl ?_
    refine mk_iload_n C 3 dX9_splits_119 rfl ?_
    refine mk_iconst C (v := (-1)) dX9_splits_120 (by decide) ?_
    refine mk_ixor C dX9_splits_121 ?_
    refine mk_iand C dX9_splits_122 ?_
    obtain ⟨g1, hf⟩ := gI_some hf
    refine mk_iast C 5 0 (f := (uX 18)) rfl rfl g1 (j := ((v1 + 1) : Int32).toNatClampNeg) rfl (ws' := (wModel aX cI cJ (upR 18 (upd (uX 18) ((v1 + 1) : Int32).toNatClampNeg (v2 &&& (v3 ^^^ (-1)))) uX) uL)) (st_X_X_18 cI cJ aX uX uL (upd (uX 18) ((v1 + 1) : Int32).toNatClampNeg (v2 &&& (v3 ^^^ (-1))))) dX9_splits_123 ?_
    refine mk_aload_n C 0 dX9_splits_124 rfl ?_
    refine mk_get C mk_inX9 0 rfl rfl 19 (by decide) mw_921 (v := .ref (aX 20)) rfl dX9_splits_125 ?_
    refine mk_iload_n C 1 dX9_splits_128 rfl ?_
    refine mk_iconst C (v := 1) dX9_splits_129 (by decide) ?_
    refine mk_iadd C dX9_splits_130 ?_
    refine mk_aload_n C 0 dX9_splits_131 rfl ?_
    refine mk_get C mk_inX9 0 rfl rfl 19 (by decide) mw_921 (v := .ref (aX 20)) rfl dX9_splits_132 ?_
    refine mk_iload_n C 1 dX9_splits_135 rfl ?_
    obtain ⟨g2, hf⟩ := gI_some hf
    refine mk_iald C 6 0 (f := (uX 19)) rfl rfl g2 (j := (v1 : Int32).toNatClampNeg) rfl dX9_splits_136 ?_
    refine mk_iast C 6 0 (f := (uX 19)) rfl rfl g1 (j := ((v1 + 1) : Int32).toNatClampNeg) rfl (ws' := (wModel aX cI cJ (upR 19 (upd (uX 19) ((v1 + 1) : Int32).toNatClampNeg ((uX 19) (v1 : Int32).toNatClampNeg)) (upR 18 (upd (uX 18) ((v1 + 1) : Int32).toNatClampNeg (v2 &&& (v3 ^^^ (-1)))) uX)) uL)) (st_X_X_19 cI cJ aX (upR 18 (upd (uX 18) ((v1 + 1) : Int32).toNatClampNeg (v2 &&& (v3 ^^^ (-1)))) uX) uL (upd (uX 19) ((v1 + 1) : Int32).toNatClampNeg ((uX 19) (v1 : Int32).toNatClampNeg))) dX9_splits_137 ?_
    refine mk_aload_n C 0 dX9_splits_138 rfl ?_
    refine mk_get C mk_inX9 0 rfl rfl 20 (by decide) mw_922 (v := .ref (aX 21)) rfl dX9_splits_139 ?_
    refine mk_iload_n C 1 dX9_splits_142 rfl ?_
    refine mk_iconst C (v := 1) dX9_splits_143 (by decide) ?_
    refine mk_iadd C dX9_splits_144 ?_
    refine mk_iload C 4 dX9_splits_145 rfl ?_
    refine mk_iast C 7 0 (f := (uX 20)) rfl rfl g1 (j := ((v1 + 1) : Int32).toNatClampNeg) rfl (ws' := (wModel aX cI cJ (upR 20 (upd (uX 20) ((v1 + 1) : Int32).toNatClampNeg v4) (upR 19 (upd (uX 19) ((v1 + 1) : Int32).toNatClampNeg ((uX 19) (v1 : Int32).toNatClampNeg)) (upR 18 (upd (uX 18) ((v1 + 1) : Int32).toNatClampNeg (v2 &&& (v3 ^^^ (-1)))) uX))) uL)) (st_X_X_20 cI cJ aX (upR 19 (upd (uX 19) ((v1 + 1) : Int32).toNatClampNeg ((uX 19) (v1 : Int32).toNatClampNeg)) (upR 18 (upd (uX 18) ((v1 + 1) : Int32).toNatClampNeg (v2 &&& (v3 ^^^ (-1)))) uX)) uL (upd (uX 20) ((v1 + 1) : Int32).toNatClampNeg v4)) dX9_splits_147 ?_
    refine mk_aload_n C 0 dX9_splits_148 rfl ?_
    refine mk_get C mk_inX9 0 rfl rfl 18 (by decide) mw_920 (v := .ref (aX 19)) rfl dX9_splits_149 ?_
    refine mk_iload_n C 1 dX9_splits_152 rfl ?_
    refine mk_iload_n C 3 dX9_splits_153 rfl ?_
    refine mk_iast C 5 0 (f := (upd (uX 18) ((v1 + 1) : Int32).toNatClampNeg (v2 &&& (v3 ^^^ (-1))))) rfl rfl g2 (j := (v1 : Int32).toNatClampNeg) rfl (ws' := (wModel aX cI cJ (upR 18 (upd (upd (uX 18) ((v1 + 1) : Int32).toNatClampNeg (v2 &&& (v3 ^^^ (-1)))) (v1 : Int32).toNatClampNeg v3) (upR 20 (upd (uX 20) ((v1 + 1) : Int32).toNatClampNeg v4) (upR 19 (upd (uX 19) ((v1 + 1) : Int32).toNatClampNeg ((uX 19) (v1 : Int32).toNatClampNeg)) (upR 18 (upd (uX 18) ((v1 + 1) : Int32).toNatClampNeg (v2 &&& (v3 ^^^ (-1)))) uX)))) uL)) (st_X_X_18 cI cJ aX (upR 20 (upd (uX 20) ((v1 + 1) : Int32).toNatClampNeg v4) (upR 19 (upd (uX 19) ((v1 + 1) : Int32).toNatClampNeg ((uX 19) (v1 : Int32).toNatClampNeg)) (upR 18 (upd (uX 18) ((v1 + 1) : Int32).toNatClampNeg (v2 &&& (v3 ^^^ (-1)))) uX))) uL (upd (upd (uX 18) ((v1 + 1) : Int32).toNatClampNeg (v2 &&& (v3 ^^^ (-1)))) (v1 : Int32).toNatClampNeg v3)) dX9_splits_154 ?_
    refine mk_aload_n C 0 dX9_splits_155 rfl ?_
    refine mk_get C mk_inX9 0 rfl rfl 19 (by decide) mw_921 (v := .ref (aX 20)) rfl dX9_splits_156 ?_
    refine mk_iload_n C 1 dX9_splits_159 rfl ?_
    refine mk_iload C 4 dX9_splits_160 rfl ?_
    refine mk_iast C 6 0 (f := (upd (uX 19) ((v1 + 1) : Int32).toNatClampNeg ((uX 19) (v1 : Int32).toNatClampNeg))) rfl rfl g2 (j := (v1 : Int32).toNatClampNeg) rfl (ws' := (wModel aX cI cJ (upR 19 (upd (upd (uX 19) ((v1 + 1) : Int32).toNatClampNeg ((uX 19) (v1 : Int32).toNatClampNeg)) (v1 : Int32).toNatClampNeg v4) (upR 18 (upd (upd (uX 18) ((v1 + 1) : Int32).toNatClampNeg (v2 &&& (v3 ^^^ (-1)))) (v1 : Int32).toNatClampNeg v3) (upR 20 (upd (uX 20) ((v1 + 1) : Int32).toNatClampNeg v4) (upR 19 (upd (uX 19) ((v1 + 1) : Int32).toNatClampNeg ((uX 19) (v1 : Int32).toNatClampNeg)) (upR 18 (upd (uX 18) ((v1 + 1) : Int32).toNatClampNeg (v2 &&& (v3 ^^^ (-1)))) uX))))) uL)) (st_X_X_19 cI cJ aX (upR 18 (upd (upd (uX 18) ((v1 + 1) : Int32).toNatClampNeg (v2 &&& (v3 ^^^ (-1)))) (v1 : Int32).toNatClampNeg v3) (upR 20 (upd (uX 20) ((v1 + 1) : Int32).toNatClampNeg v4) (upR 19 (upd (uX 19) ((v1 + 1) : Int32).toNatClampNeg ((uX 19) (v1 : Int32).toNatClampNeg)) (upR 18 (upd (uX 18) ((v1 + 1) : Int32).toNatClampNeg (v2 &&& (v3 ^^^ (-1)))) uX)))) uL (upd (upd (uX 19) ((v1 + 1) : Int32).toNatClampNeg ((uX 19) (v1 : Int32).toNatClampNeg)) (v1 : Int32).toNatClampNeg v4)) dX9_splits_162 ?_
    refine mk_aload_n C 0 dX9_splits_163 rfl ?_
    refine mk_dup C dX9_splits_164 rfl ?_
    refine mk_get C mk_inX9 0 rfl rfl 21 (by decide) mw_923 (v := .int (uX 21 0)) rfl dX9_splits_165 ?_
    refine mk_iconst C (v := 1) dX9_splits_168 (by decide) ?_
    refine mk_iadd C dX9_splits_169 ?_
    refine mk_put C mk_inX9 tyX9 tyX9_ok nmX9 0 rfl rfl 21 (by decide) mw_923 rfl rfl rfl (Nat.le_of_ble_eq_true rfl) (ws' := (wModel aX cI cJ (upF 21 ((uX 21 0) + 1) (upR 19 (upd (upd (uX 19) ((v1 + 1) : Int32).toNatClampNeg ((uX 19) (v1 : Int32).toNatClampNeg)) (v1 : Int32).toNatClampNeg v4) (upR 18 (upd (upd (uX 18) ((v1 + 1) : Int32).toNatClampNeg (v2 &&& (v3 ^^^ (-1)))) (v1 : Int32).toNatClampNeg v3) (upR 20 (upd (uX 20) ((v1 + 1) : Int32).toNatClampNeg v4) (upR 19 (upd (uX 19) ((v1 + 1) : Int32).toNatClampNeg ((uX 19) (v1 : Int32).toNatClampNeg)) (upR 18 (upd (uX 18) ((v1 + 1) : Int32).toNatClampNeg (v2 &&& (v3 ^^^ (-1)))) uX)))))) uL)) (st_X_X_21 cI cJ aX (upR 19 (upd (upd (uX 19) ((v1 + 1) : Int32).toNatClampNeg ((uX 19) (v1 : Int32).toNatClampNeg)) (v1 : Int32).toNatClampNeg v4) (upR 18 (upd (upd (uX 18) ((v1 + 1) : Int32).toNatClampNeg (v2 &&& (v3 ^^^ (-1)))) (v1 : Int32).toNatClampNeg v3) (upR 20 (upd (uX 20) ((v1 + 1) : Int32).toNatClampNeg v4) (upR 19 (upd (uX 19) ((v1 + 1) : Int32).toNatClampNeg ((uX 19) (v1 : Int32).toNatClampNeg)) (upR 18 (upd (uX 18) ((v1 + 1) : Int32).toNatClampNeg (v2 &&& (v3 ^^^ (-1)))) uX))))) uL ((uX 21 0) + 1)) dX9_splits_170 ?_
    have e0 := Option.some.inj hf
    exact mk_vret C hr hlk (by rw [← e0]) dX9_splits_173
  have wL68 : ∀ (n : Nat) (v1 : Int32) (v2 : Int32) (v3 : Int32) (v4 : Int32) (v5 : Int32) (uX : Nat → Nat → Int32), f_X_splits_68 n v1 v2 v3 v4 v5 uX = some wX → mk_Go p l e (headSpec (mk_ws yX9_splits cX9_splits 6 none) ({ frames := 2, cells := 0, slots := 0, locals := 50 })).room s m args below meth c D A 6 0 0 (MQ below (mk_Q none D (wModel aX cI cJ wX uL) A) args s 0 0 A) 68 (wModel aX cI cJ uX uL) [(0, .ref (aX 0)), (1, .int v1), (2, .int v2), (3, .int v3), (4, .int v4), (5, .int v5)] [] := by
    intro  n
    induction n with
    | zero => intro v1 v2 v3 v4 v5 uX hf; exact nomatch (show (none : Option ((Nat → Nat → Int32))) = some _ from hf)
    | succ n ih =>
      intro v1 v2 v3 v4 v5 uX hf
      rw [f_X_splits_68] at hf
      refine mk_iload C 5 dX9_splits_68 rfl ?_
      refine mk_bipush C (v := 10) dX9_splits_70 (by decide) ?_
      refine mk_icmp_ge C 111 dX9_splits_72 (by decide) (fun c3 => ?_) (fun c3 => ?_)
      · replace hf := (if_pos c3).symm.trans hf
        exact mk_lvsub [0, 1, 2, 3, 4] rfl (wL111 _ _ _ _ _ hf)
      · replace hf := (if_neg c3).symm.trans hf
        refine mk_iload_n C 3 dX9_splits_75 rfl ?_
        refine mk_iload_n C 2 dX9_splits_76 rfl ?_
        refine mk_iload C 5 dX9_splits_77 rfl ?_
        obtain ⟨r4, h5, hf⟩ := b1_some hf
        refine mk_callSi C (c_X_has l D cI cJ X Y v2 v5 r4 h5) mw_1174 mw_1175 mw_10 mw_1176 mkn_X9_has rfl ⟨Nat.le_of_ble_eq_true rfl, Nat.le_of_ble_eq_true rfl⟩ (mk_Fr.nil _) (Nat.le_of_ble_eq_true rfl) dX9_splits_79 rfl ?_
        refine mk_if_eq C 102 dX9_splits_82 (by decide) (fun c6 => ?_) (fun c6 => ?_)
        · replace hf := (if_pos c6).symm.trans hf
          refine mk_iconst C (v := 0) dX9_splits_102 (by decide) ?_
          refine mk_ior C dX9_splits_103 ?_
          refine mk_istore_n C (lv' := [(3, .int (v3 ||| 0)), (0, .ref (aX 0)), (1, .int v1), (2, .int v2), (4, .int v4), (5, .int v5)]) dX9_splits_104 (by decide) rfl ?_
          refine mk_iinc C (v := (v5 + 1)) (lv' := [(5, .int (v5 + 1)), (3, .int (v3 ||| 0)), (0, .ref (aX 0)), (1, .int v1), (2, .int v2), (4, .int v4)]) 5 dX9_splits_105 rfl rfl (by decide) rfl ?_
          refine mk_goto C 68 dX9_splits_108 (by decide) ?_
          exact mk_lvsub [2, 3, 4, 1, 5, 0] rfl (ih _ _ _ _ _ _ hf)
        · replace hf := (if_neg c6).symm.trans hf
          refine mk_aload_n C 0 dX9_splits_85 rfl ?_
          refine mk_iload C 5 dX9_splits_86 rfl ?_
          obtain ⟨r7, uX_8, h9, hf⟩ := b2_some hf
          refine mk_callVi C (c_X_takesBit l D cI cJ X Y aX uX uL v5 r7 uX_8 h9) mw_1188 mw_1190 mw_s21 mw_10 mw_1191 mkn_X9_takesBit rfl ⟨Nat.le_of_ble_eq_true rfl, Nat.le_of_ble_eq_true rfl⟩ 0 rfl rfl rfl (mk_Fr.all _ _) (Nat.le_of_ble_eq_true rfl) dX9_splits_88 rfl ?_
          refine mk_iconst C (v := 1) dX9_splits_91 (by decide) ?_
          refine mk_icmp_ne C 102 dX9_splits_92 (by decide) (fun c10 => ?_) (fun c10 => ?_)
          · replace hf := (if_neg c10).symm.trans hf
            refine mk_iconst C (v := 0) dX9_splits_102 (by decide) ?_
            refine mk_ior C dX9_splits_103 ?_
            refine mk_istore_n C (lv' := [(3, .int (v3 ||| 0)), (0, .ref (aX 0)), (1, .int v1), (2, .int v2), (4, .int v4), (5, .int v5)]) dX9_splits_104 (by decide) rfl ?_
            refine mk_iinc C (v := (v5 + 1)) (lv' := [(5, .int (v5 + 1)), (3, .int (v3 ||| 0)), (0, .ref (aX 0)), (1, .int v1), (2, .int v2), (4, .int v4)]) 5 dX9_splits_105 rfl rfl (by decide) rfl ?_
            refine mk_goto C 68 dX9_splits_108 (by decide) ?_
            exact mk_lvsub [2, 3, 4, 1, 5, 0] rfl (ih _ _ _ _ _ _ hf)
          · replace hf := (if_pos c10).symm.trans hf
            refine mk_iconst C (v := 1) dX9_splits_95 (by decide) ?_
            refine mk_iload C 5 dX9_splits_96 rfl ?_
            refine mk_ishl C dX9_splits_98 ?_
            refine mk_goto C 103 dX9_splits_99 (by decide) ?_
            refine mk_ior C dX9_splits_103 ?_
            refine mk_istore_n C (lv' := [(3, .int (v3 ||| (1 <<< (v5 &&& 31)))), (0, .ref (aX 0)), (1, .int v1), (2, .int v2), (4, .int v4), (5, .int v5)]) dX9_splits_104 (by decide) rfl ?_
            refine mk_iinc C (v := (v5 + 1)) (lv' := [(5, .int (v5 + 1)), (3, .int (v3 ||| (1 <<< (v5 &&& 31)))), (0, .ref (aX 0)), (1, .int v1), (2, .int v2), (4, .int v4)]) 5 dX9_splits_105 rfl rfl (by decide) rfl ?_
            refine mk_goto C 68 dX9_splits_108 (by decide) ?_
            exact mk_lvsub [2, 3, 4, 1, 5, 0] rfl (ih _ _ _ _ _ _ hf)
  show mk_Go p l e (headSpec (mk_ws yX9_splits cX9_splits 6 none) ({ frames := 2, cells := 0, slots := 0, locals := 50 })).room s m args below meth c D A 6 0 0 (MQ below (mk_Q none D (wModel aX cI cJ wX uL) A) args s 0 0 A) 0 (wModel aX cI cJ uX uL) [(0, .ref (aX 0))] []
  unfold f_X_splits at hf
  refine mk_aload_n C 0 dX9_splits_0 rfl ?_
  refine mk_get C mk_inX9 0 rfl rfl 21 (by decide) mw_923 (v := .int (uX 21 0)) rfl dX9_splits_1 ?_
  refine mk_iconst C (v := 1) dX9_splits_4 (by decide) ?_
  refine mk_isub C dX9_splits_5 ?_
  refine mk_istore_n C (lv' := [(1, .int ((uX 21 0) - 1)), (0, .ref (aX 0))]) dX9_splits_6 (by decide) rfl ?_
  refine mk_aload_n C 1 dX9_splits_7 rfl ?_
  refine mk_get C mk_inX9 0 rfl rfl 18 (by decide) mw_920 (v := .ref (aX 19)) rfl dX9_splits_8 ?_
  refine mk_iload_n C 0 dX9_splits_11 rfl ?_
  obtain ⟨g11, hf⟩ := gI_some hf
  refine mk_iald C 5 0 (f := (uX 18)) rfl rfl g11 (j := (((uX 21 0) - 1) : Int32).toNatClampNeg) rfl dX9_splits_12 ?_
  refine mk_istore_n C (lv' := [(2, .int ((uX 18) (((uX 21 0) - 1) : Int32).toNatClampNeg)), (1, .int ((uX 21 0) - 1)), (0, .ref (aX 0))]) dX9_splits_13 (by decide) rfl ?_
  refine mk_iconst C (v := 0) dX9_splits_14 (by decide) ?_
  refine mk_istore_n C (lv' := [(3, .int 0), (2, .int ((uX 18) (((uX 21 0) - 1) : Int32).toNatClampNeg)), (1, .int ((uX 21 0) - 1)), (0, .ref (aX 0))]) dX9_splits_15 (by decide) rfl ?_
  refine mk_aload_n C 3 dX9_splits_16 rfl ?_
  refine mk_get C mk_inX9 0 rfl rfl 19 (by decide) mw_921 (v := .ref (aX 20)) rfl dX9_splits_17 ?_
  refine mk_iload_n C 2 dX9_splits_20 rfl ?_
  refine mk_iald C 6 0 (f := (uX 19)) rfl rfl g11 (j := (((uX 21 0) - 1) : Int32).toNatClampNeg) rfl dX9_splits_21 ?_
  refine mk_aload_n C 3 dX9_splits_22 rfl ?_
  refine mk_get C mk_inX9 0 rfl rfl 20 (by decide) mw_922 (v := .ref (aX 21)) rfl dX9_splits_23 ?_
  refine mk_iload_n C 2 dX9_splits_26 rfl ?_
  refine mk_iald C 7 0 (f := (uX 20)) rfl rfl g11 (j := (((uX 21 0) - 1) : Int32).toNatClampNeg) rfl dX9_splits_27 ?_
  refine mk_aload_n C 3 dX9_splits_28 rfl ?_
  refine mk_get C mk_inX9 0 rfl rfl 19 (by decide) mw_921 (v := .ref (aX 20)) rfl dX9_splits_29 ?_
  refine mk_iload_n C 2 dX9_splits_32 rfl ?_
  refine mk_iald C 6 0 (f := (uX 19)) rfl rfl g11 (j := (((uX 21 0) - 1) : Int32).toNatClampNeg) rfl dX9_splits_33 ?_
  refine mk_isub C dX9_splits_34 ?_
  refine mk_iconst C (v := 2) dX9_splits_35 (by decide) ?_
  refine mk_idiv C dX9_splits_36 (by decide) ?_
  refine mk_iadd C dX9_splits_37 ?_
  refine mk_istore C (lv' := [(4, .int (((uX 19) (((uX 21 0) - 1) : Int32).toNatClampNeg) + ((((uX 20) (((uX 21 0) - 1) : Int32).toNatClampNeg) - ((uX 19) (((uX 21 0) - 1) : Int32).toNatClampNeg)) / 2))), (3, .int 0), (2, .int ((uX 18) (((uX 21 0) - 1) : Int32).toNatClampNeg)), (1, .int ((uX 21 0) - 1)), (0, .ref (aX 0))]) dX9_splits_38 (by decide) rfl ?_
  refine mk_aload_n C 4 dX9_splits_40 rfl ?_
  refine mk_get C mk_inX9 0 rfl rfl 15 (by decide) mw_917 (v := .int (uX 15 0)) rfl dX9_splits_41 ?_
  refine mk_iconst C (v := 3) dX9_splits_44 (by decide) ?_
  refine mk_icmp_ne C 65 dX9_splits_45 (by decide) (fun c12 => ?_) (fun c12 => ?_)
  · replace hf := (if_neg c12).symm.trans hf
    refine mk_iconst C (v := 0) dX9_splits_65 (by decide) ?_
    refine mk_istore C (lv' := [(5, .int 0), (4, .int (((uX 19) (((uX 21 0) - 1) : Int32).toNatClampNeg) + ((((uX 20) (((uX 21 0) - 1) : Int32).toNatClampNeg) - ((uX 19) (((uX 21 0) - 1) : Int32).toNatClampNeg)) / 2))), (3, .int 0), (2, .int ((uX 18) (((uX 21 0) - 1) : Int32).toNatClampNeg)), (1, .int ((uX 21 0) - 1)), (0, .ref (aX 0))]) dX9_splits_66 (by decide) rfl ?_
    exact mk_lvsub [5, 4, 3, 2, 1, 0] rfl (wL68 600 _ _ _ _ _ _ hf)
  · replace hf := (if_pos c12).symm.trans hf
    refine mk_aload_n C 4 dX9_splits_48 rfl ?_
    refine mk_iload_n C 2 dX9_splits_49 rfl ?_
    refine mk_iload C 0 dX9_splits_50 rfl ?_
    refine mk_aload_n C 4 dX9_splits_52 rfl ?_
    refine mk_get C mk_inX9 0 rfl rfl 20 (by decide) mw_922 (v := .ref (aX 21)) rfl dX9_splits_53 ?_
    refine mk_iload_n C 3 dX9_splits_56 rfl ?_
    refine mk_iald C 7 0 (f := (uX 20)) rfl rfl g11 (j := (((uX 21 0) - 1) : Int32).toNatClampNeg) rfl dX9_splits_57 ?_
    obtain ⟨r13, h14, hf⟩ := b1_some hf
    refine mk_callVi C (c_X_between l D cI cJ X Y aX uX uL ((uX 18) (((uX 21 0) - 1) : Int32).toNatClampNeg) (((uX 19) (((uX 21 0) - 1) : Int32).toNatClampNeg) + ((((uX 20) (((uX 21 0) - 1) : Int32).toNatClampNeg) - ((uX 19) (((uX 21 0) - 1) : Int32).toNatClampNeg)) / 2)) ((uX 20) (((uX 21 0) - 1) : Int32).toNatClampNeg) r13 h14) mw_1201 mw_1203 mw_s24 mw_10 mw_1204 mkn_X9_between rfl ⟨Nat.le_of_ble_eq_true rfl, Nat.le_of_ble_eq_true rfl⟩ 0 rfl rfl rfl (mk_Fr.all _ _) (Nat.le_of_ble_eq_true rfl) dX9_splits_58 rfl ?_
    refine mk_istore_n C (lv' := [(3, .int r13), (4, .int (((uX 19) (((uX 21 0) - 1) : Int32).toNatClampNeg) + ((((uX 20) (((uX 21 0) - 1) : Int32).toNatClampNeg) - ((uX 19) (((uX 21 0) - 1) : Int32).toNatClampNeg)) / 2))), (2, .int ((uX 18) (((uX 21 0) - 1) : Int32).toNatClampNeg)), (1, .int ((uX 21 0) - 1)), (0, .ref (aX 0))]) dX9_splits_61 (by decide) rfl ?_
    refine mk_goto C 111 dX9_splits_62 (by decide) ?_
    exact mk_lvsub [4, 3, 2, 0, 1] rfl (wL111 _ _ _ _ _ hf)
set_option maxHeartbeats 40000000 in
set_option maxRecDepth 100000 in
theorem c_X_ends (l : Launch) (D : va_G) (cI cJ : ClassId) (X Y : Nat → Nat) (aX : Nat → Nat) (uX : Nat → Nat → Int32) (uL : Nat → Nat → Int64) (p1 : Int32) (wX : Nat → Nat → Int32) (hf : f_X_ends uX p1 = some wX) : mk_Met l yX9_ends cX9_ends 4 none ({ frames := 1, cells := 0, slots := 0, locals := 23 }) D [(cI, .int), (cJ, .long)] X Y [.ref (aX 0), .int p1] (wModel aX cI cJ uX uL) (wModel aX cI cJ wX uL) none 0 0 := by
  refine mk_start (own := RX9) (by decide) rfl (Nat.le_of_ble_eq_true rfl) ?_
  intro sz p e s m args below meth c A C hr hlk hnm
  replace C : mk_Cx p s m args c cX9_ends 4 RX9 D [(cI, .int), (cJ, .long)] X Y A := C
  have wL105 : ∀ (k26 : Int32 → (Nat → Nat → Int32) → Option ((Nat → Nat → Int32))), (∀ (v2 : Int32) (uX : Nat → Nat → Int32), k26 v2 uX = some wX → mk_Go p l e (headSpec (mk_ws yX9_ends cX9_ends 4 none) ({ frames := 1, cells := 0, slots := 0, locals := 23 })).room s m args below meth c D A 4 0 0 (MQ below (mk_Q none D (wModel aX cI cJ wX uL) A) args s 0 0 A) 26 (wModel aX cI cJ uX uL) [(0, .ref (aX 0)), (1, .int p1), (2, .int v2)] []) → ∀ (v2 : Int32) (t1 : Int32) (uX : Nat → Nat → Int32), f_X_ends_105 p1 k26 v2 t1 uX = some wX → mk_Go p l e (headSpec (mk_ws yX9_ends cX9_ends 4 none) ({ frames := 1, cells := 0, slots := 0, locals := 23 })).room s m args below meth c D A 4 0 0 (MQ below (mk_Q none D (wModel aX cI cJ wX uL) A) args s 0 0 A) 105 (wModel aX cI cJ uX uL) [(0, .ref (aX 0)), (1, .int p1), (2, .int v2)] [.int t1, .ref (aX 0)] := by
    intro k26 hk26 v2 t1 uX hf
    unfold f_X_ends_105 at hf
    refine mk_put C mk_inX9 tyX9 tyX9_ok nmX9 0 rfl rfl 25 (by decide) mw_927 rfl rfl rfl (Nat.le_of_ble_eq_true rfl) (ws' := (wModel aX cI cJ (upF 25 t1 uX) uL)) (st_X_X_25 cI cJ aX uX uL t1) dX9_ends_105 ?_
    refine mk_iinc C (v := (v2 + 1)) (lv' := [(2, .int (v2 + 1)), (0, .ref (aX 0)), (1, .int p1)]) 2 dX9_ends_108 rfl rfl (by decide) rfl ?_
    refine mk_goto C 26 dX9_ends_111 (by decide) ?_
    exact mk_lvsub [1, 2, 0] rfl (hk26 _ _ hf)
  have wL101 : ∀ (k26 : Int32 → (Nat → Nat → Int32) → Option ((Nat → Nat → Int32))), (∀ (v2 : Int32) (uX : Nat → Nat → Int32), k26 v2 uX = some wX → mk_Go p l e (headSpec (mk_ws yX9_ends cX9_ends 4 none) ({ frames := 1, cells := 0, slots := 0, locals := 23 })).room s m args below meth c D A 4 0 0 (MQ below (mk_Q none D (wModel aX cI cJ wX uL) A) args s 0 0 A) 26 (wModel aX cI cJ uX uL) [(0, .ref (aX 0)), (1, .int p1), (2, .int v2)] []) → ∀ (v2 : Int32) (uX : Nat → Nat → Int32), f_X_ends_101 p1 k26 v2 uX = some wX → mk_Go p l e (headSpec (mk_ws yX9_ends cX9_ends 4 none) ({ frames := 1, cells := 0, slots := 0, locals := 23 })).room s m args below meth c D A 4 0 0 (MQ below (mk_Q none D (wModel aX cI cJ wX uL) A) args s 0 0 A) 101 (wModel aX cI cJ uX uL) [(0, .ref (aX 0)), (1, .int p1), (2, .int v2)] [.ref (aX 0)] := by
    intro k26 hk26 v2 uX hf
    unfold f_X_ends_101 at hf
    refine mk_aload_n C 0 dX9_ends_101 rfl ?_
    refine mk_get C mk_inX9 0 rfl rfl 25 (by decide) mw_927 (v := .int (uX 25 0)) rfl dX9_ends_102 ?_
    exact mk_lvsub [0, 1, 2] rfl (wL105 _ hk26 _ _ _ hf)
  have wL26 : ∀ (n : Nat) (v2 : Int32) (uX : Nat → Nat → Int32), f_X_ends_26 p1 n v2 uX = some wX → mk_Go p l e (headSpec (mk_ws yX9_ends cX9_ends 4 none) ({ frames := 1, cells := 0, slots := 0, locals := 23 })).room s m args below meth c D A 4 0 0 (MQ below (mk_Q none D (wModel aX cI cJ wX uL) A) args s 0 0 A) 26 (wModel aX cI cJ uX uL) [(0, .ref (aX 0)), (1, .int p1), (2, .int v2)] [] := by
    intro  n
    induction n with
    | zero => intro v2 uX hf; exact nomatch (show (none : Option ((Nat → Nat → Int32))) = some _ from hf)
    | succ n ih =>
      intro v2 uX hf
      rw [f_X_ends_26] at hf
      refine mk_iload_n C 2 dX9_ends_26 rfl ?_
      refine mk_aload_n C 0 dX9_ends_27 rfl ?_
      refine mk_get C mk_inX9 0 rfl rfl 0 (by decide) mw_902 (v := .ref (aX 1)) rfl dX9_ends_28 ?_
      refine mk_iconst C (v := 4) dX9_ends_31 (by decide) ?_
      refine mk_iald C 1 0 (f := (uX 0)) rfl rfl (mk_vi (by decide)) (j := 4) (by decide) dX9_ends_32 ?_
      refine mk_icmp_ge C 114 dX9_ends_33 (by decide) (fun c1 => ?_) (fun c1 => ?_)
      · replace hf := (if_pos c1).symm.trans hf
        have e0 := Option.some.inj hf
        exact mk_vret C hr hlk (by rw [← e0]) dX9_ends_114
      · replace hf := (if_neg c1).symm.trans hf
        refine mk_aload_n C 0 dX9_ends_36 rfl ?_
        refine mk_get C mk_inX9 0 rfl rfl 15 (by decide) mw_917 (v := .int (uX 15 0)) rfl dX9_ends_37 ?_
        refine mk_iconst C (v := 3) dX9_ends_40 (by decide) ?_
        refine mk_icmp_ne C 114 dX9_ends_41 (by decide) (fun c2 => ?_) (fun c2 => ?_)
        · replace hf := (if_neg c2).symm.trans hf
          have e0 := Option.some.inj hf
          exact mk_vret C hr hlk (by rw [← e0]) dX9_ends_114
        · replace hf := (if_pos c2).symm.trans hf
          refine mk_aload_n C 0 dX9_ends_44 rfl ?_
          refine mk_get C mk_inX9 0 rfl rfl 0 (by decide) mw_902 (v := .ref (aX 1)) rfl dX9_ends_45 ?_
          refine mk_bipush C (v := 7) dX9_ends_48 (by decide) ?_
          refine mk_iload_n C 2 dX9_ends_50 rfl ?_
          refine mk_iadd C dX9_ends_51 ?_
          obtain ⟨g3, hf⟩ := gI_some hf
          refine mk_iald C 1 0 (f := (uX 0)) rfl rfl g3 (j := ((7 + v2) : Int32).toNatClampNeg) rfl dX9_ends_52 ?_
          refine mk_iload_n C 2 dX9_ends_53 rfl ?_
          obtain ⟨r4, h5, hf⟩ := b1_some hf
          refine mk_callSi C (c_X_momentOf l D cI cJ X Y ((uX 0) ((7 + v2) : Int32).toNatClampNeg) v2 r4 h5) mw_1205 mw_1206 mw_10 mw_1207 mkn_X9_momentOf rfl ⟨Nat.le_of_ble_eq_true rfl, Nat.le_of_ble_eq_true rfl⟩ (mk_Fr.nil _) (Nat.le_of_ble_eq_true rfl) dX9_ends_54 rfl ?_
          refine mk_istore_n C (lv' := [(3, .int r4), (0, .ref (aX 0)), (1, .int p1), (2, .int v2)]) dX9_ends_57 (by decide) rfl ?_
          refine mk_aload_n C 1 dX9_ends_58 rfl ?_
          refine mk_iload_n C 3 dX9_ends_59 rfl ?_
          refine mk_aload_n C 1 dX9_ends_60 rfl ?_
          refine mk_get C mk_inX9 0 rfl rfl 17 (by decide) mw_919 (v := .int (uX 17 0)) rfl dX9_ends_61 ?_
          refine mk_icmp_eq C 101 dX9_ends_64 (by decide) (fun c6 => ?_) (fun c6 => ?_)
          · replace hf := (if_pos c6).symm.trans hf
            exact mk_lvsub [1, 2, 3] rfl (wL101 _ ih _ _ hf)
          · replace hf := (if_neg c6).symm.trans hf
            refine mk_aload_n C 1 dX9_ends_67 rfl ?_
            refine mk_get C mk_inX9 0 rfl rfl 0 (by decide) mw_902 (v := .ref (aX 1)) rfl dX9_ends_68 ?_
            refine mk_bipush C (v := 7) dX9_ends_71 (by decide) ?_
            refine mk_iload_n C 3 dX9_ends_73 rfl ?_
            refine mk_iadd C dX9_ends_74 ?_
            refine mk_iald C 1 0 (f := (uX 0)) rfl rfl g3 (j := ((7 + v2) : Int32).toNatClampNeg) rfl dX9_ends_75 ?_
            refine mk_iload_n C 2 dX9_ends_76 rfl ?_
            refine mk_icmp_gt C 101 dX9_ends_77 (by decide) (fun c7 => ?_) (fun c7 => ?_)
            · replace hf := (if_pos c7).symm.trans hf
              exact mk_lvsub [1, 2, 3] rfl (wL101 _ ih _ _ hf)
            · replace hf := (if_neg c7).symm.trans hf
              refine mk_aload_n C 1 dX9_ends_80 rfl ?_
              refine mk_get C mk_inX9 0 rfl rfl 29 (by decide) mw_931 (v := .ref (aX 30)) rfl dX9_ends_81 ?_
              refine mk_iload_n C 3 dX9_ends_84 rfl ?_
              obtain ⟨g8, hf⟩ := gI_some hf
              refine mk_iald C 10 0 (f := (uX 29)) rfl rfl g8 (j := (v2 : Int32).toNatClampNeg) rfl dX9_ends_85 ?_
              refine mk_iconst C (v := (-1)) dX9_ends_86 (by decide) ?_
              refine mk_icmp_ne C 101 dX9_ends_87 (by decide) (fun c9 => ?_) (fun c9 => ?_)
              · replace hf := (if_neg c9).symm.trans hf
                exact mk_lvsub [1, 2, 3] rfl (wL101 _ ih _ _ hf)
              · replace hf := (if_pos c9).symm.trans hf
                refine mk_aload_n C 1 dX9_ends_90 rfl ?_
                refine mk_get C mk_inX9 0 rfl rfl 25 (by decide) mw_927 (v := .int (uX 25 0)) rfl dX9_ends_91 ?_
                refine mk_iload_n C 0 dX9_ends_94 rfl ?_
                refine mk_mmin C mw_1068 mw_569 mw_17 mw_570 ⟨Nat.le_of_ble_eq_true rfl, Nat.le_of_ble_eq_true rfl⟩ ⟨Nat.zero_le _, Nat.zero_le _⟩ dX9_ends_95 ?_
                refine mk_goto C 105 dX9_ends_98 (by decide) ?_
                exact mk_lvsub [1, 2, 3] rfl (wL105 _ ih _ _ _ hf)
  show mk_Go p l e (headSpec (mk_ws yX9_ends cX9_ends 4 none) ({ frames := 1, cells := 0, slots := 0, locals := 23 })).room s m args below meth c D A 4 0 0 (MQ below (mk_Q none D (wModel aX cI cJ wX uL) A) args s 0 0 A) 0 (wModel aX cI cJ uX uL) [(0, .ref (aX 0)), (1, .int p1)] []
  unfold f_X_ends at hf
  refine mk_aload_n C 0 dX9_ends_0 rfl ?_
  refine mk_iconst C (v := 0) dX9_ends_1 (by decide) ?_
  refine mk_put C mk_inX9 tyX9 tyX9_ok nmX9 0 rfl rfl 22 (by decide) mw_924 rfl rfl rfl (Nat.le_of_ble_eq_true rfl) (ws' := (wModel aX cI cJ (upF 22 0 uX) uL)) (st_X_X_22 cI cJ aX uX uL 0) dX9_ends_2 ?_
  refine mk_aload_n C 0 dX9_ends_5 rfl ?_
  refine mk_get C mk_inX9 0 rfl rfl 39 (by decide) mw_941 (v := .int (uX 39 0)) rfl dX9_ends_6 ?_
  refine mk_if_eq C 24 dX9_ends_9 (by decide) (fun c10 => ?_) (fun c10 => ?_)
  · replace hf := (if_pos c10).symm.trans hf
    refine mk_iconst C (v := 0) dX9_ends_24 (by decide) ?_
    refine mk_istore_n C (lv' := [(2, .int 0), (0, .ref (aX 0)), (1, .int p1)]) dX9_ends_25 (by decide) rfl ?_
    exact mk_lvsub [1, 2, 0] rfl (wL26 600 _ _ hf)
  · replace hf := (if_neg c10).symm.trans hf
    refine mk_aload_n C 0 dX9_ends_12 rfl ?_
    refine mk_get C mk_inX9 0 rfl rfl 36 (by decide) mw_938 (v := .ref (aX 37)) rfl dX9_ends_13 ?_
    refine mk_aload_n C 0 dX9_ends_16 rfl ?_
    refine mk_get C mk_inX9 0 rfl rfl 38 (by decide) mw_940 (v := .int (uX 38 0)) rfl dX9_ends_17 ?_
    refine mk_iconst C (v := 1) dX9_ends_20 (by decide) ?_
    refine mk_isub C dX9_ends_21 ?_
    refine mk_iload_n C 1 dX9_ends_22 rfl ?_
    obtain ⟨g11, hf⟩ := gI_some hf
    refine mk_iast C 17 0 (f := (uX 36)) rfl rfl g11 (j := (((uX 38 0) - 1) : Int32).toNatClampNeg) rfl (ws' := (wModel aX cI cJ (upR 36 (upd (uX 36) (((uX 38 0) - 1) : Int32).toNatClampNeg p1) (upF 22 0 uX)) uL)) (st_X_X_36 cI cJ aX (upF 22 0 uX) uL (upd (uX 36) (((uX 38 0) - 1) : Int32).toNatClampNeg p1)) dX9_ends_23 ?_
    refine mk_iconst C (v := 0) dX9_ends_24 (by decide) ?_
    refine mk_istore_n C (lv' := [(2, .int 0), (0, .ref (aX 0)), (1, .int p1)]) dX9_ends_25 (by decide) rfl ?_
    exact mk_lvsub [1, 2, 0] rfl (wL26 600 _ _ hf)
set_option maxHeartbeats 40000000 in
set_option maxRecDepth 100000 in
theorem c_X_goesByGroups (l : Launch) (D : va_G) (cI cJ : ClassId) (X Y : Nat → Nat) (aX : Nat → Nat) (uX : Nat → Nat → Int32) (uL : Nat → Nat → Int64) (p1 : Int32) (wX : Nat → Nat → Int32) (hf : f_X_goesByGroups uX p1 = some wX) : mk_Met l yX9_goesByGroups cX9_goesByGroups 3 none ({ frames := 3, cells := 0, slots := 0, locals := 75 }) D [(cI, .int), (cJ, .long)] X Y [.ref (aX 0), .int p1] (wModel aX cI cJ uX uL) (wModel aX cI cJ wX uL) none 0 0 := by
  refine mk_start (own := RX9) (by decide) rfl (Nat.le_of_ble_eq_true rfl) ?_
  intro sz p e s m args below meth c A C hr hlk hnm
  replace C : mk_Cx p s m args c cX9_goesByGroups 3 RX9 D [(cI, .int), (cJ, .long)] X Y A := C
  have wL150 : ∀ (uX : Nat → Nat → Int32), f_X_goesByGroups_150 p1 uX = some wX → mk_Go p l e (headSpec (mk_ws yX9_goesByGroups cX9_goesByGroups 3 none) ({ frames := 3, cells := 0, slots := 0, locals := 75 })).room s m args below meth c D A 3 0 0 (MQ below (mk_Q none D (wModel aX cI cJ wX uL) A) args s 0 0 A) 150 (wModel aX cI cJ uX uL) [(0, .ref (aX 0)), (1, .int p1)] [] := by
    intro  uX hf
    unfold f_X_goesByGroups_150 at hf
    refine mk_aload_n C 0 dX9_goesByGroups_150 rfl ?_
    refine mk_get C mk_inX9 0 rfl rfl 33 (by decide) mw_935 (v := .ref (aX 34)) rfl dX9_goesByGroups_151 ?_
    refine mk_iload_n C 1 dX9_goesByGroups_154 rfl ?_
    refine mk_aload_n C 0 dX9_goesByGroups_155 rfl ?_
    refine mk_get C mk_inX9 0 rfl rfl 21 (by decide) mw_923 (v := .int (uX 21 0)) rfl dX9_goesByGroups_156 ?_
    obtain ⟨g1, hf⟩ := gI_some hf
    refine mk_iast C 14 0 (f := (uX 33)) rfl rfl g1 (j := (p1 : Int32).toNatClampNeg) rfl (ws' := (wModel aX cI cJ (upR 33 (upd (uX 33) (p1 : Int32).toNatClampNeg (uX 21 0)) uX) uL)) (st_X_X_33 cI cJ aX uX uL (upd (uX 33) (p1 : Int32).toNatClampNeg (uX 21 0))) dX9_goesByGroups_159 ?_
    refine mk_aload_n C 0 dX9_goesByGroups_160 rfl ?_
    refine mk_get C mk_inX9 0 rfl rfl 21 (by decide) mw_923 (v := .int (uX 21 0)) rfl dX9_goesByGroups_161 ?_
    refine mk_if_ne C 172 dX9_goesByGroups_164 (by decide) (fun c2 => ?_) (fun c2 => ?_)
    · replace hf := (if_neg c2).symm.trans hf
      have e0 := Option.some.inj hf
      exact mk_vret C hr hlk (by rw [← e0]) dX9_goesByGroups_172
    · replace hf := (if_pos c2).symm.trans hf
      refine mk_aload_n C 0 dX9_goesByGroups_167 rfl ?_
      refine mk_iload_n C 1 dX9_goesByGroups_168 rfl ?_
      obtain ⟨uX_3, h4, hf⟩ := b1_some hf
      refine mk_callVv C (c_X_ends l D cI cJ X Y aX (upR 33 (upd (uX 33) (p1 : Int32).toNatClampNeg (uX 21 0)) uX) uL p1 uX_3 h4) mw_1212 mw_1214 mw_s26 mw_10 mw_1215 mkn_X9_ends rfl ⟨Nat.le_of_ble_eq_true rfl, Nat.le_of_ble_eq_true rfl⟩ 0 rfl rfl rfl (mk_Fr.all _ _) (Nat.le_of_ble_eq_true rfl) dX9_goesByGroups_169 rfl ?_
      have e0 := Option.some.inj hf
      exact mk_vret C hr hlk (by rw [← e0]) dX9_goesByGroups_172
  have wL145 : ∀ (uX : Nat → Nat → Int32), f_X_goesByGroups_145 p1 uX = some wX → mk_Go p l e (headSpec (mk_ws yX9_goesByGroups cX9_goesByGroups 3 none) ({ frames := 3, cells := 0, slots := 0, locals := 75 })).room s m args below meth c D A 3 0 0 (MQ below (mk_Q none D (wModel aX cI cJ wX uL) A) args s 0 0 A) 145 (wModel aX cI cJ uX uL) [(0, .ref (aX 0)), (1, .int p1)] [] := by
    intro  uX hf
    unfold f_X_goesByGroups_145 at hf
    refine mk_aload_n C 0 dX9_goesByGroups_145 rfl ?_
    refine mk_iconst C (v := 0) dX9_goesByGroups_146 (by decide) ?_
    refine mk_put C mk_inX9 tyX9 tyX9_ok nmX9 0 rfl rfl 23 (by decide) mw_925 rfl rfl rfl (Nat.le_of_ble_eq_true rfl) (ws' := (wModel aX cI cJ (upF 23 0 uX) uL)) (st_X_X_23 cI cJ aX uX uL 0) dX9_goesByGroups_147 ?_
    exact mk_lvsub [0, 1] rfl (wL150 _ hf)
  have wL12 : ∀ (uX : Nat → Nat → Int32), f_X_goesByGroups_12 p1 uX = some wX → mk_Go p l e (headSpec (mk_ws yX9_goesByGroups cX9_goesByGroups 3 none) ({ frames := 3, cells := 0, slots := 0, locals := 75 })).room s m args below meth c D A 3 0 0 (MQ below (mk_Q none D (wModel aX cI cJ wX uL) A) args s 0 0 A) 12 (wModel aX cI cJ uX uL) [(0, .ref (aX 0)), (1, .int p1)] [] := by
    intro  uX hf
    unfold f_X_goesByGroups_12 at hf
    refine mk_aload_n C 0 dX9_goesByGroups_12 rfl ?_
    refine mk_dup C dX9_goesByGroups_13 rfl ?_
    refine mk_get C mk_inX9 0 rfl rfl 21 (by decide) mw_923 (v := .int (uX 21 0)) rfl dX9_goesByGroups_14 ?_
    refine mk_iconst C (v := 1) dX9_goesByGroups_17 (by decide) ?_
    refine mk_isub C dX9_goesByGroups_18 ?_
    refine mk_put C mk_inX9 tyX9 tyX9_ok nmX9 0 rfl rfl 21 (by decide) mw_923 rfl rfl rfl (Nat.le_of_ble_eq_true rfl) (ws' := (wModel aX cI cJ (upF 21 ((uX 21 0) - 1) uX) uL)) (st_X_X_21 cI cJ aX uX uL ((uX 21 0) - 1)) dX9_goesByGroups_19 ?_
    refine mk_aload_n C 0 dX9_goesByGroups_22 rfl ?_
    refine mk_iload_n C 1 dX9_goesByGroups_23 rfl ?_
    refine mk_aload_n C 0 dX9_goesByGroups_24 rfl ?_
    refine mk_get C mk_inX9 0 rfl rfl 18 (by decide) mw_920 (v := .ref (aX 19)) rfl dX9_goesByGroups_25 ?_
    refine mk_aload_n C 0 dX9_goesByGroups_28 rfl ?_
    refine mk_get C mk_inX9 0 rfl rfl 21 (by decide) mw_923 (v := .int ((uX 21 0) - 1)) rfl dX9_goesByGroups_29 ?_
    obtain ⟨g5, hf⟩ := gI_some hf
    refine mk_iald C 5 0 (f := (uX 18)) rfl rfl g5 (j := (((uX 21 0) - 1) : Int32).toNatClampNeg) rfl dX9_goesByGroups_32 ?_
    obtain ⟨r6, uX_7, h8, hf⟩ := b2_some hf
    refine mk_callVi C (c_X_sent l D cI cJ X Y aX (upF 21 ((uX 21 0) - 1) uX) uL p1 ((uX 18) (((uX 21 0) - 1) : Int32).toNatClampNeg) r6 uX_7 h8) mw_1177 mw_1179 mw_s19 mw_10 mw_1180 mkn_X9_sent rfl ⟨Nat.le_of_ble_eq_true rfl, Nat.le_of_ble_eq_true rfl⟩ 0 rfl rfl rfl (mk_Fr.all _ _) (Nat.le_of_ble_eq_true rfl) dX9_goesByGroups_33 rfl ?_
    refine mk_istore_n C (lv' := [(2, .int r6), (0, .ref (aX 0)), (1, .int p1)]) dX9_goesByGroups_36 (by decide) rfl ?_
    refine mk_iload_n C 0 dX9_goesByGroups_37 rfl ?_
    refine mk_iconst C (v := 2) dX9_goesByGroups_38 (by decide) ?_
    refine mk_icmp_ne C 69 dX9_goesByGroups_39 (by decide) (fun c9 => ?_) (fun c9 => ?_)
    · replace hf := (if_neg c9).symm.trans hf
      refine mk_iload_n C 0 dX9_goesByGroups_69 rfl ?_
      refine mk_iconst C (v := 1) dX9_goesByGroups_70 (by decide) ?_
      refine mk_icmp_ne C 87 dX9_goesByGroups_71 (by decide) (fun c10 => ?_) (fun c10 => ?_)
      · replace hf := (if_neg c10).symm.trans hf
        refine mk_aload_n C 1 dX9_goesByGroups_87 rfl ?_
        refine mk_get C mk_inX9 0 rfl rfl 23 (by decide) mw_925 (v := .int (uX_7 23 0)) rfl dX9_goesByGroups_88 ?_
        refine mk_if_eq C 145 dX9_goesByGroups_91 (by decide) (fun c11 => ?_) (fun c11 => ?_)
        · replace hf := (if_pos c11).symm.trans hf
          exact mk_lvsub [1, 2] rfl (wL145 _ hf)
        · replace hf := (if_neg c11).symm.trans hf
          refine mk_aload_n C 1 dX9_goesByGroups_94 rfl ?_
          refine mk_get C mk_inX9 0 rfl rfl 15 (by decide) mw_917 (v := .int (uX_7 15 0)) rfl dX9_goesByGroups_95 ?_
          refine mk_if_eq C 145 dX9_goesByGroups_98 (by decide) (fun c12 => ?_) (fun c12 => ?_)
          · replace hf := (if_pos c12).symm.trans hf
            exact mk_lvsub [1, 2] rfl (wL145 _ hf)
          · replace hf := (if_neg c12).symm.trans hf
            refine mk_aload_n C 1 dX9_goesByGroups_101 rfl ?_
            refine mk_get C mk_inX9 0 rfl rfl 21 (by decide) mw_923 (v := .int (uX_7 21 0)) rfl dX9_goesByGroups_102 ?_
            refine mk_if_le C 145 dX9_goesByGroups_105 (by decide) (fun c13 => ?_) (fun c13 => ?_)
            · replace hf := (if_pos c13).symm.trans hf
              exact mk_lvsub [1, 2] rfl (wL145 _ hf)
            · replace hf := (if_neg c13).symm.trans hf
              refine mk_aload_n C 1 dX9_goesByGroups_108 rfl ?_
              refine mk_get C mk_inX9 0 rfl rfl 24 (by decide) mw_926 (v := .int (uX_7 24 0)) rfl dX9_goesByGroups_109 ?_
              refine mk_aload_n C 1 dX9_goesByGroups_112 rfl ?_
              refine mk_get C mk_inX9 0 rfl rfl 0 (by decide) mw_902 (v := .ref (aX 1)) rfl dX9_goesByGroups_113 ?_
              refine mk_iconst C (v := 2) dX9_goesByGroups_116 (by decide) ?_
              refine mk_iald C 1 0 (f := (uX_7 0)) rfl rfl (mk_vi (by decide)) (j := 2) (by decide) dX9_goesByGroups_117 ?_
              refine mk_icmp_ge C 145 dX9_goesByGroups_118 (by decide) (fun c14 => ?_) (fun c14 => ?_)
              · replace hf := (if_pos c14).symm.trans hf
                exact mk_lvsub [1, 2] rfl (wL145 _ hf)
              · replace hf := (if_neg c14).symm.trans hf
                refine mk_aload_n C 1 dX9_goesByGroups_121 rfl ?_
                obtain ⟨uX_15, h16, hf⟩ := b1_some hf
                refine mk_callVv C (c_X_splits l D cI cJ X Y aX uX_7 uL uX_15 h16) mw_1208 mw_1210 mw_s25 mw_10 mw_1211 mkn_X9_splits rfl ⟨Nat.le_of_ble_eq_true rfl, Nat.le_of_ble_eq_true rfl⟩ 0 rfl rfl rfl (mk_Fr.all _ _) (Nat.le_of_ble_eq_true rfl) dX9_goesByGroups_122 rfl ?_
                refine mk_aload_n C 1 dX9_goesByGroups_125 rfl ?_
                refine mk_dup C dX9_goesByGroups_126 rfl ?_
                refine mk_get C mk_inX9 0 rfl rfl 24 (by decide) mw_926 (v := .int (uX_15 24 0)) rfl dX9_goesByGroups_127 ?_
                refine mk_iconst C (v := 1) dX9_goesByGroups_130 (by decide) ?_
                refine mk_iadd C dX9_goesByGroups_131 ?_
                refine mk_put C mk_inX9 tyX9 tyX9_ok nmX9 0 rfl rfl 24 (by decide) mw_926 rfl rfl rfl (Nat.le_of_ble_eq_true rfl) (ws' := (wModel aX cI cJ (upF 24 ((uX_15 24 0) + 1) uX_15) uL)) (st_X_X_24 cI cJ aX uX_15 uL ((uX_15 24 0) + 1)) dX9_goesByGroups_132 ?_
                refine mk_aload_n C 1 dX9_goesByGroups_135 rfl ?_
                refine mk_get C mk_inX9 0 rfl rfl 34 (by decide) mw_936 (v := .ref (aX 35)) rfl dX9_goesByGroups_136 ?_
                refine mk_iload_n C 2 dX9_goesByGroups_139 rfl ?_
                refine mk_iconst C (v := 1) dX9_goesByGroups_140 (by decide) ?_
                obtain ⟨g17, hf⟩ := gI_some hf
                refine mk_iast C 15 0 (f := (uX_15 34)) rfl rfl g17 (j := (p1 : Int32).toNatClampNeg) rfl (ws' := (wModel aX cI cJ (upR 34 (upd (uX_15 34) (p1 : Int32).toNatClampNeg 1) (upF 24 ((uX_15 24 0) + 1) uX_15)) uL)) (st_X_X_34 cI cJ aX (upF 24 ((uX_15 24 0) + 1) uX_15) uL (upd (uX_15 34) (p1 : Int32).toNatClampNeg 1)) dX9_goesByGroups_141 ?_
                refine mk_goto C 150 dX9_goesByGroups_142 (by decide) ?_
                exact mk_lvsub [1, 2] rfl (wL150 _ hf)
      · replace hf := (if_pos c10).symm.trans hf
        refine mk_aload_n C 1 dX9_goesByGroups_74 rfl ?_
        refine mk_iconst C (v := 0) dX9_goesByGroups_75 (by decide) ?_
        refine mk_put C mk_inX9 tyX9 tyX9_ok nmX9 0 rfl rfl 23 (by decide) mw_925 rfl rfl rfl (Nat.le_of_ble_eq_true rfl) (ws' := (wModel aX cI cJ (upF 23 0 uX_7) uL)) (st_X_X_23 cI cJ aX uX_7 uL 0) dX9_goesByGroups_76 ?_
        refine mk_aload_n C 1 dX9_goesByGroups_79 rfl ?_
        refine mk_iconst C (v := 0) dX9_goesByGroups_80 (by decide) ?_
        refine mk_put C mk_inX9 tyX9 tyX9_ok nmX9 0 rfl rfl 24 (by decide) mw_926 rfl rfl rfl (Nat.le_of_ble_eq_true rfl) (ws' := (wModel aX cI cJ (upF 24 0 (upF 23 0 uX_7)) uL)) (st_X_X_24 cI cJ aX (upF 23 0 uX_7) uL 0) dX9_goesByGroups_81 ?_
        refine mk_goto C 150 dX9_goesByGroups_84 (by decide) ?_
        exact mk_lvsub [1, 2] rfl (wL150 _ hf)
    · replace hf := (if_pos c9).symm.trans hf
      refine mk_aload_n C 1 dX9_goesByGroups_42 rfl ?_
      refine mk_dup C dX9_goesByGroups_43 rfl ?_
      refine mk_get C mk_inX9 0 rfl rfl 21 (by decide) mw_923 (v := .int (uX_7 21 0)) rfl dX9_goesByGroups_44 ?_
      refine mk_iconst C (v := 1) dX9_goesByGroups_47 (by decide) ?_
      refine mk_iadd C dX9_goesByGroups_48 ?_
      refine mk_put C mk_inX9 tyX9 tyX9_ok nmX9 0 rfl rfl 21 (by decide) mw_923 rfl rfl rfl (Nat.le_of_ble_eq_true rfl) (ws' := (wModel aX cI cJ (upF 21 ((uX_7 21 0) + 1) uX_7) uL)) (st_X_X_21 cI cJ aX uX_7 uL ((uX_7 21 0) + 1)) dX9_goesByGroups_49 ?_
      refine mk_aload_n C 1 dX9_goesByGroups_52 rfl ?_
      obtain ⟨uX_18, h19, hf⟩ := b1_some hf
      refine mk_callVv C (c_X_splits l D cI cJ X Y aX (upF 21 ((uX_7 21 0) + 1) uX_7) uL uX_18 h19) mw_1208 mw_1210 mw_s25 mw_10 mw_1211 mkn_X9_splits rfl ⟨Nat.le_of_ble_eq_true rfl, Nat.le_of_ble_eq_true rfl⟩ 0 rfl rfl rfl (mk_Fr.all _ _) (Nat.le_of_ble_eq_true rfl) dX9_goesByGroups_53 rfl ?_
      refine mk_aload_n C 1 dX9_goesByGroups_56 rfl ?_
      refine mk_iconst C (v := 1) dX9_goesByGroups_57 (by decide) ?_
      refine mk_put C mk_inX9 tyX9 tyX9_ok nmX9 0 rfl rfl 23 (by decide) mw_925 rfl rfl rfl (Nat.le_of_ble_eq_true rfl) (ws' := (wModel aX cI cJ (upF 23 1 uX_18) uL)) (st_X_X_23 cI cJ aX uX_18 uL 1) dX9_goesByGroups_58 ?_
      refine mk_aload_n C 1 dX9_goesByGroups_61 rfl ?_
      refine mk_iconst C (v := 0) dX9_goesByGroups_62 (by decide) ?_
      refine mk_put C mk_inX9 tyX9 tyX9_ok nmX9 0 rfl rfl 24 (by decide) mw_926 rfl rfl rfl (Nat.le_of_ble_eq_true rfl) (ws' := (wModel aX cI cJ (upF 24 0 (upF 23 1 uX_18)) uL)) (st_X_X_24 cI cJ aX (upF 23 1 uX_18) uL 0) dX9_goesByGroups_63 ?_
      refine mk_goto C 150 dX9_goesByGroups_66 (by decide) ?_
      exact mk_lvsub [1, 2] rfl (wL150 _ hf)
  show mk_Go p l e (headSpec (mk_ws yX9_goesByGroups cX9_goesByGroups 3 none) ({ frames := 3, cells := 0, slots := 0, locals := 75 })).room s m args below meth c D A 3 0 0 (MQ below (mk_Q none D (wModel aX cI cJ wX uL) A) args s 0 0 A) 0 (wModel aX cI cJ uX uL) [(0, .ref (aX 0)), (1, .int p1)] []
  unfold f_X_goesByGroups at hf
  refine mk_aload_n C 0 dX9_goesByGroups_0 rfl ?_
  refine mk_get C mk_inX9 0 rfl rfl 22 (by decide) mw_924 (v := .int (uX 22 0)) rfl dX9_goesByGroups_1 ?_
  refine mk_if_ne C 12 dX9_goesByGroups_4 (by decide) (fun c20 => ?_) (fun c20 => ?_)
  · replace hf := (if_neg c20).symm.trans hf
    exact mk_lvsub [0, 1] rfl (wL12 _ hf)
  · replace hf := (if_pos c20).symm.trans hf
    refine mk_aload_n C 0 dX9_goesByGroups_7 rfl ?_
    refine mk_iload_n C 1 dX9_goesByGroups_8 rfl ?_
    obtain ⟨uX_21, h22, hf⟩ := b1_some hf
    refine mk_callVv C (c_X_begins l D cI cJ X Y aX uX uL p1 uX_21 h22) mw_1197 mw_1199 mw_s23 mw_10 mw_1200 mkn_X9_begins rfl ⟨Nat.le_of_ble_eq_true rfl, Nat.le_of_ble_eq_true rfl⟩ 0 rfl rfl rfl (mk_Fr.all _ _) (Nat.le_of_ble_eq_true rfl) dX9_goesByGroups_9 rfl ?_
    exact mk_lvsub [0, 1] rfl (wL12 _ hf)
