set_option maxHeartbeats 40000000 in
set_option maxRecDepth 100000 in
theorem c_X_epochs (l : Launch) (D : va_G) (cI cJ : ClassId) (X Y : Nat → Nat) (aX : Nat → Nat) (uX : Nat → Nat → Int32) (uL : Nat → Nat → Int64) (r : Int32) (wX : Nat → Nat → Int32) (hf : f_X_epochs uX = some (r, wX)) : mk_Met l yX9_epochs cX9_epochs 1 (some .int) ({ frames := 6, cells := 0, slots := 0, locals := 141 }) D [(cI, .int), (cJ, .long)] X Y [.ref (aX 0)] (wModel aX cI cJ uX uL) (wModel aX cI cJ wX uL) (some (.int r)) 0 0 := by
  refine mk_start (own := RX9) (by decide) rfl (Nat.le_of_ble_eq_true rfl) ?_
  intro sz p e s m args below meth c A C hr hlk hnm
  replace C : mk_Cx p s m args c cX9_epochs 1 RX9 D [(cI, .int), (cJ, .long)] X Y A := C
  show mk_Go p l e (headSpec (mk_ws yX9_epochs cX9_epochs 1 (some .int)) ({ frames := 6, cells := 0, slots := 0, locals := 141 })).room s m args below meth c D A 1 0 0 (MQ below (mk_Q (some (.int r)) D (wModel aX cI cJ wX uL) A) args s 0 0 A) 0 (wModel aX cI cJ uX uL) [(0, .ref (aX 0))] []
  unfold f_X_epochs at hf
  refine mk_aload_n C 0 dX9_epochs_0 rfl ?_
  obtain ⟨r1, h2, hf⟩ := b1_some hf
  refine mk_callVi C (c_X_is l D cI cJ X Y aX uX uL r1 h2) mw_1153 mw_1155 mw_s14 mw_10 mw_1156 mkn_X9_is rfl ⟨Nat.le_of_ble_eq_true rfl, Nat.le_of_ble_eq_true rfl⟩ 0 rfl rfl rfl (mk_Fr.all _ _) (Nat.le_of_ble_eq_true rfl) dX9_epochs_1 rfl ?_
  refine mk_if_ne C 10 dX9_epochs_4 (by decide) (fun c3 => ?_) (fun c3 => ?_)
  · replace hf := (if_neg c3).symm.trans hf
    refine mk_aload_n C 0 dX9_epochs_10 rfl ?_
    obtain ⟨uX_4, h5, hf⟩ := b1_some hf
    refine mk_callVv C (c_X_runs l D cI cJ X Y aX uX uL uX_4 h5) mw_1158 mw_1160 mw_s15 mw_10 mw_1161 mkn_X9_runs rfl ⟨Nat.le_of_ble_eq_true rfl, Nat.le_of_ble_eq_true rfl⟩ 0 rfl rfl rfl (mk_Fr.all _ _) (Nat.le_of_ble_eq_true rfl) dX9_epochs_11 rfl ?_
    refine mk_aload_n C 0 dX9_epochs_14 rfl ?_
    refine mk_get C mk_inX9 0 rfl rfl 38 (by decide) mw_940 (v := .int (uX_4 38 0)) rfl dX9_epochs_15 ?_
    have e := Option.some.inj hf
    obtain ⟨e0, e1⟩ := Prod.mk.inj e
    exact mk_iret C hr hlk e0 (by rw [← e1]) dX9_epochs_18
  · replace hf := (if_pos c3).symm.trans hf
    refine mk_bipush C (v := (-2)) dX9_epochs_7 (by decide) ?_
    have e := Option.some.inj hf
    obtain ⟨e0, e1⟩ := Prod.mk.inj e
    exact mk_iret C hr hlk e0 (by rw [← e1]) dX9_epochs_9
set_option maxHeartbeats 40000000 in
set_option maxRecDepth 100000 in
theorem c_X_epoch (l : Launch) (D : va_G) (cI cJ : ClassId) (X Y : Nat → Nat) (aX : Nat → Nat) (uX : Nat → Nat → Int32) (uL : Nat → Nat → Int64) (p1 : Int32) (p2 : Int32) (r : Int32) (wX : Nat → Nat → Int32) (hf : f_X_epoch uX p1 p2 = some (r, wX)) : mk_Met l yX9_epoch cX9_epoch 3 (some .int) ({ frames := 6, cells := 0, slots := 0, locals := 141 }) D [(cI, .int), (cJ, .long)] X Y [.ref (aX 0), .int p1, .int p2] (wModel aX cI cJ uX uL) (wModel aX cI cJ wX uL) (some (.int r)) 0 0 := by
  refine mk_start (own := RX9) (by decide) rfl (Nat.le_of_ble_eq_true rfl) ?_
  intro sz p e s m args below meth c A C hr hlk hnm
  replace C : mk_Cx p s m args c cX9_epoch 3 RX9 D [(cI, .int), (cJ, .long)] X Y A := C
  show mk_Go p l e (headSpec (mk_ws yX9_epoch cX9_epoch 3 (some .int)) ({ frames := 6, cells := 0, slots := 0, locals := 141 })).room s m args below meth c D A 3 0 0 (MQ below (mk_Q (some (.int r)) D (wModel aX cI cJ wX uL) A) args s 0 0 A) 0 (wModel aX cI cJ uX uL) [(0, .ref (aX 0)), (1, .int p1), (2, .int p2)] []
  unfold f_X_epoch at hf
  refine mk_aload_n C 0 dX9_epoch_0 rfl ?_
  obtain ⟨r1, h2, hf⟩ := b1_some hf
  refine mk_callVi C (c_X_is l D cI cJ X Y aX uX uL r1 h2) mw_1153 mw_1155 mw_s14 mw_10 mw_1156 mkn_X9_is rfl ⟨Nat.le_of_ble_eq_true rfl, Nat.le_of_ble_eq_true rfl⟩ 0 rfl rfl rfl (mk_Fr.all _ _) (Nat.le_of_ble_eq_true rfl) dX9_epoch_1 rfl ?_
  refine mk_if_eq C 23 dX9_epoch_4 (by decide) (fun c3 => ?_) (fun c3 => ?_)
  · replace hf := (if_pos c3).symm.trans hf
    refine mk_bipush C (v := (-2)) dX9_epoch_23 (by decide) ?_
    have e := Option.some.inj hf
    obtain ⟨e0, e1⟩ := Prod.mk.inj e
    exact mk_iret C hr hlk e0 (by rw [← e1]) dX9_epoch_25
  · replace hf := (if_neg c3).symm.trans hf
    refine mk_iload_n C 1 dX9_epoch_7 rfl ?_
    refine mk_if_lt C 23 dX9_epoch_8 (by decide) (fun c4 => ?_) (fun c4 => ?_)
    · replace hf := (if_pos c4).symm.trans hf
      refine mk_bipush C (v := (-2)) dX9_epoch_23 (by decide) ?_
      have e := Option.some.inj hf
      obtain ⟨e0, e1⟩ := Prod.mk.inj e
      exact mk_iret C hr hlk e0 (by rw [← e1]) dX9_epoch_25
    · replace hf := (if_neg c4).symm.trans hf
      refine mk_iload_n C 2 dX9_epoch_11 rfl ?_
      refine mk_i2l C dX9_epoch_12 ?_
      refine mk_lconst C (v := 0) dX9_epoch_13 (by decide) ?_
      refine mk_ldc2 C (v := 2) mw_1252 dX9_epoch_14 ?_
      obtain ⟨r5, h6, hf⟩ := b1_some hf
      refine mk_callSi C (c_X_in l D cI cJ X Y ((p2 : Int32).toInt64) 0 2 r5 h6) mw_1052 mw_1053 mw_10 mw_1054 mkn_X9_in rfl ⟨Nat.le_of_ble_eq_true rfl, Nat.le_of_ble_eq_true rfl⟩ (mk_Fr.nil _) (Nat.le_of_ble_eq_true rfl) dX9_epoch_17 rfl ?_
      refine mk_if_ne C 26 dX9_epoch_20 (by decide) (fun c7 => ?_) (fun c7 => ?_)
      · replace hf := (if_neg c7).symm.trans hf
        refine mk_aload_n C 0 dX9_epoch_26 rfl ?_
        obtain ⟨uX_8, h9, hf⟩ := b1_some hf
        refine mk_callVv C (c_X_runs l D cI cJ X Y aX uX uL uX_8 h9) mw_1158 mw_1160 mw_s15 mw_10 mw_1161 mkn_X9_runs rfl ⟨Nat.le_of_ble_eq_true rfl, Nat.le_of_ble_eq_true rfl⟩ 0 rfl rfl rfl (mk_Fr.all _ _) (Nat.le_of_ble_eq_true rfl) dX9_epoch_27 rfl ?_
        refine mk_iload_n C 1 dX9_epoch_30 rfl ?_
        refine mk_aload_n C 0 dX9_epoch_31 rfl ?_
        refine mk_get C mk_inX9 0 rfl rfl 38 (by decide) mw_940 (v := .int (uX_8 38 0)) rfl dX9_epoch_32 ?_
        refine mk_icmp_lt C 40 dX9_epoch_35 (by decide) (fun c10 => ?_) (fun c10 => ?_)
        · replace hf := (if_pos c10).symm.trans hf
          refine mk_iload_n C 2 dX9_epoch_40 rfl ?_
          refine mk_if_ne C 53 dX9_epoch_41 (by decide) (fun c11 => ?_) (fun c11 => ?_)
          · replace hf := (if_neg c11).symm.trans hf
            refine mk_iload_n C 2 dX9_epoch_53 rfl ?_
            refine mk_iconst C (v := 1) dX9_epoch_54 (by decide) ?_
            refine mk_icmp_ne C 67 dX9_epoch_55 (by decide) (fun c12 => ?_) (fun c12 => ?_)
            · replace hf := (if_neg c12).symm.trans hf
              refine mk_aload_n C 0 dX9_epoch_67 rfl ?_
              refine mk_get C mk_inX9 0 rfl rfl 37 (by decide) mw_939 (v := .ref (aX 38)) rfl dX9_epoch_68 ?_
              refine mk_iload_n C 1 dX9_epoch_71 rfl ?_
              obtain ⟨g13, hf⟩ := gI_some hf
              refine mk_iald C 18 0 (f := (uX_8 37)) rfl rfl g13 (j := (p1 : Int32).toNatClampNeg) rfl dX9_epoch_72 ?_
              have e := Option.some.inj hf
              obtain ⟨e0, e1⟩ := Prod.mk.inj e
              exact mk_iret C hr hlk e0 (by rw [← e1]) dX9_epoch_73
            · replace hf := (if_pos c12).symm.trans hf
              refine mk_aload_n C 0 dX9_epoch_58 rfl ?_
              refine mk_get C mk_inX9 0 rfl rfl 36 (by decide) mw_938 (v := .ref (aX 37)) rfl dX9_epoch_59 ?_
              refine mk_iload_n C 1 dX9_epoch_62 rfl ?_
              obtain ⟨g14, hf⟩ := gI_some hf
              refine mk_iald C 17 0 (f := (uX_8 36)) rfl rfl g14 (j := (p1 : Int32).toNatClampNeg) rfl dX9_epoch_63 ?_
              refine mk_goto C 73 dX9_epoch_64 (by decide) ?_
              have e := Option.some.inj hf
              obtain ⟨e0, e1⟩ := Prod.mk.inj e
              exact mk_iret C hr hlk e0 (by rw [← e1]) dX9_epoch_73
          · replace hf := (if_pos c11).symm.trans hf
            refine mk_aload_n C 0 dX9_epoch_44 rfl ?_
            refine mk_get C mk_inX9 0 rfl rfl 35 (by decide) mw_937 (v := .ref (aX 36)) rfl dX9_epoch_45 ?_
            refine mk_iload_n C 1 dX9_epoch_48 rfl ?_
            obtain ⟨g15, hf⟩ := gI_some hf
            refine mk_iald C 16 0 (f := (uX_8 35)) rfl rfl g15 (j := (p1 : Int32).toNatClampNeg) rfl dX9_epoch_49 ?_
            refine mk_goto C 73 dX9_epoch_50 (by decide) ?_
            have e := Option.some.inj hf
            obtain ⟨e0, e1⟩ := Prod.mk.inj e
            exact mk_iret C hr hlk e0 (by rw [← e1]) dX9_epoch_73
        · replace hf := (if_neg c10).symm.trans hf
          refine mk_iconst C (v := (-1)) dX9_epoch_38 (by decide) ?_
          have e := Option.some.inj hf
          obtain ⟨e0, e1⟩ := Prod.mk.inj e
          exact mk_iret C hr hlk e0 (by rw [← e1]) dX9_epoch_39
      · replace hf := (if_pos c7).symm.trans hf
        refine mk_bipush C (v := (-2)) dX9_epoch_23 (by decide) ?_
        have e := Option.some.inj hf
        obtain ⟨e0, e1⟩ := Prod.mk.inj e
        exact mk_iret C hr hlk e0 (by rw [← e1]) dX9_epoch_25
set_option maxHeartbeats 40000000 in
set_option maxRecDepth 100000 in
theorem c_X_behind (l : Launch) (D : va_G) (cI cJ : ClassId) (X Y : Nat → Nat) (aX : Nat → Nat) (uX : Nat → Nat → Int32) (uL : Nat → Nat → Int64) (p1 : Int32) (r : Int32) (wX : Nat → Nat → Int32) (hf : f_X_behind uX p1 = some (r, wX)) : mk_Met l yX9_behind cX9_behind 5 (some .int) ({ frames := 6, cells := 0, slots := 0, locals := 141 }) D [(cI, .int), (cJ, .long)] X Y [.ref (aX 0), .int p1] (wModel aX cI cJ uX uL) (wModel aX cI cJ wX uL) (some (.int r)) 0 0 := by
  refine mk_start (own := RX9) (by decide) rfl (Nat.le_of_ble_eq_true rfl) ?_
  intro sz p e s m args below meth c A C hr hlk hnm
  replace C : mk_Cx p s m args c cX9_behind 5 RX9 D [(cI, .int), (cJ, .long)] X Y A := C
  have wL56 : ∀ (n : Nat) (v2 : Int32) (v3 : Int32) (v4 : Int32) (uX : Nat → Nat → Int32), f_X_behind_56 p1 n v2 v3 v4 uX = some (r, wX) → mk_Go p l e (headSpec (mk_ws yX9_behind cX9_behind 5 (some .int)) ({ frames := 6, cells := 0, slots := 0, locals := 141 })).room s m args below meth c D A 5 0 0 (MQ below (mk_Q (some (.int r)) D (wModel aX cI cJ wX uL) A) args s 0 0 A) 56 (wModel aX cI cJ uX uL) [(0, .ref (aX 0)), (1, .int p1), (2, .int v2), (3, .int v3), (4, .int v4)] [] := by
    intro  n
    induction n with
    | zero => intro v2 v3 v4 uX hf; exact nomatch (show (none : Option (Int32 × (Nat → Nat → Int32))) = some _ from hf)
    | succ n ih =>
      intro v2 v3 v4 uX hf
      rw [f_X_behind_56] at hf
      refine mk_iload C 4 dX9_behind_56 rfl ?_
      refine mk_iload_n C 2 dX9_behind_58 rfl ?_
      refine mk_icmp_gt C 98 dX9_behind_59 (by decide) (fun c1 => ?_) (fun c1 => ?_)
      · replace hf := (if_pos c1).symm.trans hf
        refine mk_iload_n C 3 dX9_behind_98 rfl ?_
        have e := Option.some.inj hf
        obtain ⟨e0, e1⟩ := Prod.mk.inj e
        exact mk_iret C hr hlk e0 (by rw [← e1]) dX9_behind_99
      · replace hf := (if_neg c1).symm.trans hf
        refine mk_iload_n C 3 dX9_behind_62 rfl ?_
        refine mk_aload_n C 0 dX9_behind_63 rfl ?_
        refine mk_get C mk_inX9 0 rfl rfl 32 (by decide) mw_934 (v := .ref (aX 33)) rfl dX9_behind_64 ?_
        refine mk_iload C 4 dX9_behind_67 rfl ?_
        obtain ⟨g2, hf⟩ := gI_some hf
        refine mk_iald C 13 0 (f := (uX 32)) rfl rfl g2 (j := (v4 : Int32).toNatClampNeg) rfl dX9_behind_69 ?_
        refine mk_iconst C (v := (-1)) dX9_behind_70 (by decide) ?_
        refine mk_icmp_eq C 89 dX9_behind_71 (by decide) (fun c3 => ?_) (fun c3 => ?_)
        · replace hf := (if_pos c3).symm.trans hf
          refine mk_iconst C (v := 0) dX9_behind_89 (by decide) ?_
          refine mk_iadd C dX9_behind_90 ?_
          refine mk_istore_n C (lv' := [(3, .int (v3 + 0)), (0, .ref (aX 0)), (1, .int p1), (2, .int v2), (4, .int v4)]) dX9_behind_91 (by decide) rfl ?_
          refine mk_iinc C (v := (v4 + 1)) (lv' := [(4, .int (v4 + 1)), (3, .int (v3 + 0)), (0, .ref (aX 0)), (1, .int p1), (2, .int v2)]) 4 dX9_behind_92 rfl rfl (by decide) rfl ?_
          refine mk_goto C 56 dX9_behind_95 (by decide) ?_
          exact mk_lvsub [2, 3, 4, 1, 0] rfl (ih _ _ _ _ hf)
        · replace hf := (if_neg c3).symm.trans hf
          refine mk_aload_n C 0 dX9_behind_74 rfl ?_
          refine mk_get C mk_inX9 0 rfl rfl 32 (by decide) mw_934 (v := .ref (aX 33)) rfl dX9_behind_75 ?_
          refine mk_iload C 4 dX9_behind_78 rfl ?_
          refine mk_iald C 13 0 (f := (uX 32)) rfl rfl g2 (j := (v4 : Int32).toNatClampNeg) rfl dX9_behind_80 ?_
          refine mk_iload_n C 1 dX9_behind_81 rfl ?_
          refine mk_icmp_eq C 89 dX9_behind_82 (by decide) (fun c4 => ?_) (fun c4 => ?_)
          · replace hf := (if_pos c4).symm.trans hf
            refine mk_iconst C (v := 0) dX9_behind_89 (by decide) ?_
            refine mk_iadd C dX9_behind_90 ?_
            refine mk_istore_n C (lv' := [(3, .int (v3 + 0)), (0, .ref (aX 0)), (1, .int p1), (2, .int v2), (4, .int v4)]) dX9_behind_91 (by decide) rfl ?_
            refine mk_iinc C (v := (v4 + 1)) (lv' := [(4, .int (v4 + 1)), (3, .int (v3 + 0)), (0, .ref (aX 0)), (1, .int p1), (2, .int v2)]) 4 dX9_behind_92 rfl rfl (by decide) rfl ?_
            refine mk_goto C 56 dX9_behind_95 (by decide) ?_
            exact mk_lvsub [2, 3, 4, 1, 0] rfl (ih _ _ _ _ hf)
          · replace hf := (if_neg c4).symm.trans hf
            refine mk_iconst C (v := 1) dX9_behind_85 (by decide) ?_
            refine mk_goto C 90 dX9_behind_86 (by decide) ?_
            refine mk_iadd C dX9_behind_90 ?_
            refine mk_istore_n C (lv' := [(3, .int (v3 + 1)), (0, .ref (aX 0)), (1, .int p1), (2, .int v2), (4, .int v4)]) dX9_behind_91 (by decide) rfl ?_
            refine mk_iinc C (v := (v4 + 1)) (lv' := [(4, .int (v4 + 1)), (3, .int (v3 + 1)), (0, .ref (aX 0)), (1, .int p1), (2, .int v2)]) 4 dX9_behind_92 rfl rfl (by decide) rfl ?_
            refine mk_goto C 56 dX9_behind_95 (by decide) ?_
            exact mk_lvsub [2, 3, 4, 1, 0] rfl (ih _ _ _ _ hf)
  show mk_Go p l e (headSpec (mk_ws yX9_behind cX9_behind 5 (some .int)) ({ frames := 6, cells := 0, slots := 0, locals := 141 })).room s m args below meth c D A 5 0 0 (MQ below (mk_Q (some (.int r)) D (wModel aX cI cJ wX uL) A) args s 0 0 A) 0 (wModel aX cI cJ uX uL) [(0, .ref (aX 0)), (1, .int p1)] []
  unfold f_X_behind at hf
  refine mk_aload_n C 0 dX9_behind_0 rfl ?_
  refine mk_iload_n C 1 dX9_behind_1 rfl ?_
  obtain ⟨r5, h6, hf⟩ := b1_some hf
  refine mk_callVi C (c_X_isSender l D cI cJ X Y aX uX uL p1 r5 h6) mw_1132 mw_1134 mw_s11 mw_10 mw_1135 mkn_X9_isSender rfl ⟨Nat.le_of_ble_eq_true rfl, Nat.le_of_ble_eq_true rfl⟩ 0 rfl rfl rfl (mk_Fr.all _ _) (Nat.le_of_ble_eq_true rfl) dX9_behind_2 rfl ?_
  refine mk_if_ne C 11 dX9_behind_5 (by decide) (fun c7 => ?_) (fun c7 => ?_)
  · replace hf := (if_neg c7).symm.trans hf
    refine mk_aload_n C 0 dX9_behind_11 rfl ?_
    obtain ⟨uX_8, h9, hf⟩ := b1_some hf
    refine mk_callVv C (c_X_runs l D cI cJ X Y aX uX uL uX_8 h9) mw_1158 mw_1160 mw_s15 mw_10 mw_1161 mkn_X9_runs rfl ⟨Nat.le_of_ble_eq_true rfl, Nat.le_of_ble_eq_true rfl⟩ 0 rfl rfl rfl (mk_Fr.all _ _) (Nat.le_of_ble_eq_true rfl) dX9_behind_12 rfl ?_
    refine mk_aload_n C 0 dX9_behind_15 rfl ?_
    refine mk_get C mk_inX9 0 rfl rfl 29 (by decide) mw_931 (v := .ref (aX 30)) rfl dX9_behind_16 ?_
    refine mk_iload_n C 1 dX9_behind_19 rfl ?_
    obtain ⟨g10, hf⟩ := gI_some hf
    refine mk_iald C 10 0 (f := (uX_8 29)) rfl rfl g10 (j := (p1 : Int32).toNatClampNeg) rfl dX9_behind_20 ?_
    refine mk_iconst C (v := (-1)) dX9_behind_21 (by decide) ?_
    refine mk_icmp_ne C 36 dX9_behind_22 (by decide) (fun c11 => ?_) (fun c11 => ?_)
    · replace hf := (if_neg c11).symm.trans hf
      refine mk_aload_n C 0 dX9_behind_36 rfl ?_
      refine mk_get C mk_inX9 0 rfl rfl 29 (by decide) mw_931 (v := .ref (aX 30)) rfl dX9_behind_37 ?_
      refine mk_iload_n C 1 dX9_behind_40 rfl ?_
      refine mk_iald C 10 0 (f := (uX_8 29)) rfl rfl g10 (j := (p1 : Int32).toNatClampNeg) rfl dX9_behind_41 ?_
      refine mk_istore_n C (lv' := [(2, .int ((uX_8 29) (p1 : Int32).toNatClampNeg)), (0, .ref (aX 0)), (1, .int p1)]) dX9_behind_42 (by decide) rfl ?_
      refine mk_iconst C (v := 0) dX9_behind_43 (by decide) ?_
      refine mk_istore_n C (lv' := [(3, .int 0), (2, .int ((uX_8 29) (p1 : Int32).toNatClampNeg)), (0, .ref (aX 0)), (1, .int p1)]) dX9_behind_44 (by decide) rfl ?_
      refine mk_aload_n C 2 dX9_behind_45 rfl ?_
      refine mk_get C mk_inX9 0 rfl rfl 0 (by decide) mw_902 (v := .ref (aX 1)) rfl dX9_behind_46 ?_
      refine mk_bipush C (v := 7) dX9_behind_49 (by decide) ?_
      refine mk_iload_n C 3 dX9_behind_51 rfl ?_
      refine mk_iadd C dX9_behind_52 ?_
      obtain ⟨g12, hf⟩ := gI_some hf
      refine mk_iald C 1 0 (f := (uX_8 0)) rfl rfl g12 (j := ((7 + p1) : Int32).toNatClampNeg) rfl dX9_behind_53 ?_
      refine mk_istore C (lv' := [(4, .int ((uX_8 0) ((7 + p1) : Int32).toNatClampNeg)), (3, .int 0), (2, .int ((uX_8 29) (p1 : Int32).toNatClampNeg)), (0, .ref (aX 0)), (1, .int p1)]) dX9_behind_54 (by decide) rfl ?_
      exact mk_lvsub [3, 4, 2, 1, 0] rfl (wL56 600 _ _ _ _ hf)
    · replace hf := (if_pos c11).symm.trans hf
      refine mk_aload_n C 0 dX9_behind_25 rfl ?_
      refine mk_get C mk_inX9 0 rfl rfl 0 (by decide) mw_902 (v := .ref (aX 1)) rfl dX9_behind_26 ?_
      refine mk_iconst C (v := 1) dX9_behind_29 (by decide) ?_
      refine mk_iald C 1 0 (f := (uX_8 0)) rfl rfl (mk_vi (by decide)) (j := 1) (by decide) dX9_behind_30 ?_
      refine mk_iconst C (v := 1) dX9_behind_31 (by decide) ?_
      refine mk_isub C dX9_behind_32 ?_
      refine mk_goto C 42 dX9_behind_33 (by decide) ?_
      refine mk_istore_n C (lv' := [(2, .int (((uX_8 0) 1) - 1)), (0, .ref (aX 0)), (1, .int p1)]) dX9_behind_42 (by decide) rfl ?_
      refine mk_iconst C (v := 0) dX9_behind_43 (by decide) ?_
      refine mk_istore_n C (lv' := [(3, .int 0), (2, .int (((uX_8 0) 1) - 1)), (0, .ref (aX 0)), (1, .int p1)]) dX9_behind_44 (by decide) rfl ?_
      refine mk_aload_n C 2 dX9_behind_45 rfl ?_
      refine mk_get C mk_inX9 0 rfl rfl 0 (by decide) mw_902 (v := .ref (aX 1)) rfl dX9_behind_46 ?_
      refine mk_bipush C (v := 7) dX9_behind_49 (by decide) ?_
      refine mk_iload_n C 3 dX9_behind_51 rfl ?_
      refine mk_iadd C dX9_behind_52 ?_
      obtain ⟨g13, hf⟩ := gI_some hf
      refine mk_iald C 1 0 (f := (uX_8 0)) rfl rfl g13 (j := ((7 + p1) : Int32).toNatClampNeg) rfl dX9_behind_53 ?_
      refine mk_istore C (lv' := [(4, .int ((uX_8 0) ((7 + p1) : Int32).toNatClampNeg)), (3, .int 0), (2, .int (((uX_8 0) 1) - 1)), (0, .ref (aX 0)), (1, .int p1)]) dX9_behind_54 (by decide) rfl ?_
      exact mk_lvsub [3, 4, 2, 1, 0] rfl (wL56 600 _ _ _ _ hf)
  · replace hf := (if_pos c7).symm.trans hf
    refine mk_bipush C (v := (-2)) dX9_behind_8 (by decide) ?_
    have e := Option.some.inj hf
    obtain ⟨e0, e1⟩ := Prod.mk.inj e
    exact mk_iret C hr hlk e0 (by rw [← e1]) dX9_behind_10
set_option maxHeartbeats 40000000 in
set_option maxRecDepth 100000 in
theorem c_X_by (l : Launch) (D : va_G) (cI cJ : ClassId) (X Y : Nat → Nat) (aX : Nat → Nat) (uX : Nat → Nat → Int32) (uL : Nat → Nat → Int64) (p1 : Int32) (p2 : Int32) (r : Int32) (wX : Nat → Nat → Int32) (hf : f_X_by uX p1 p2 = some (r, wX)) : mk_Met l yX9_by cX9_by 3 (some .int) ({ frames := 5, cells := 0, slots := 0, locals := 121 }) D [(cI, .int), (cJ, .long)] X Y [.ref (aX 0), .int p1, .int p2] (wModel aX cI cJ uX uL) (wModel aX cI cJ wX uL) (some (.int r)) 0 0 := by
  refine mk_start (own := RX9) (by decide) rfl (Nat.le_of_ble_eq_true rfl) ?_
  intro sz p e s m args below meth c A C hr hlk hnm
  replace C : mk_Cx p s m args c cX9_by 3 RX9 D [(cI, .int), (cJ, .long)] X Y A := C
  show mk_Go p l e (headSpec (mk_ws yX9_by cX9_by 3 (some .int)) ({ frames := 5, cells := 0, slots := 0, locals := 121 })).room s m args below meth c D A 3 0 0 (MQ below (mk_Q (some (.int r)) D (wModel aX cI cJ wX uL) A) args s 0 0 A) 0 (wModel aX cI cJ uX uL) [(0, .ref (aX 0)), (1, .int p1), (2, .int p2)] []
  unfold f_X_by at hf
  refine mk_aload_n C 0 dX9_by_0 rfl ?_
  obtain ⟨r1, h2, hf⟩ := b1_some hf
  refine mk_callVi C (c_X_is l D cI cJ X Y aX uX uL r1 h2) mw_1153 mw_1155 mw_s14 mw_10 mw_1156 mkn_X9_is rfl ⟨Nat.le_of_ble_eq_true rfl, Nat.le_of_ble_eq_true rfl⟩ 0 rfl rfl rfl (mk_Fr.all _ _) (Nat.le_of_ble_eq_true rfl) dX9_by_1 rfl ?_
  refine mk_if_eq C 31 dX9_by_4 (by decide) (fun c3 => ?_) (fun c3 => ?_)
  · replace hf := (if_pos c3).symm.trans hf
    refine mk_bipush C (v := (-2)) dX9_by_31 (by decide) ?_
    have e := Option.some.inj hf
    obtain ⟨e0, e1⟩ := Prod.mk.inj e
    exact mk_iret C hr hlk e0 (by rw [← e1]) dX9_by_33
  · replace hf := (if_neg c3).symm.trans hf
    refine mk_iload_n C 1 dX9_by_7 rfl ?_
    refine mk_i2l C dX9_by_8 ?_
    refine mk_lconst C (v := 0) dX9_by_9 (by decide) ?_
    refine mk_ldc2 C (v := 3) mw_1289 dX9_by_10 ?_
    obtain ⟨r4, h5, hf⟩ := b1_some hf
    refine mk_callSi C (c_X_in l D cI cJ X Y ((p1 : Int32).toInt64) 0 3 r4 h5) mw_1052 mw_1053 mw_10 mw_1054 mkn_X9_in rfl ⟨Nat.le_of_ble_eq_true rfl, Nat.le_of_ble_eq_true rfl⟩ (mk_Fr.nil _) (Nat.le_of_ble_eq_true rfl) dX9_by_13 rfl ?_
    refine mk_if_eq C 31 dX9_by_16 (by decide) (fun c6 => ?_) (fun c6 => ?_)
    · replace hf := (if_pos c6).symm.trans hf
      refine mk_bipush C (v := (-2)) dX9_by_31 (by decide) ?_
      have e := Option.some.inj hf
      obtain ⟨e0, e1⟩ := Prod.mk.inj e
      exact mk_iret C hr hlk e0 (by rw [← e1]) dX9_by_33
    · replace hf := (if_neg c6).symm.trans hf
      refine mk_iload_n C 2 dX9_by_19 rfl ?_
      refine mk_i2l C dX9_by_20 ?_
      refine mk_lconst C (v := 0) dX9_by_21 (by decide) ?_
      refine mk_ldc2 C (v := 3) mw_1289 dX9_by_22 ?_
      obtain ⟨r7, h8, hf⟩ := b1_some hf
      refine mk_callSi C (c_X_in l D cI cJ X Y ((p2 : Int32).toInt64) 0 3 r7 h8) mw_1052 mw_1053 mw_10 mw_1054 mkn_X9_in rfl ⟨Nat.le_of_ble_eq_true rfl, Nat.le_of_ble_eq_true rfl⟩ (mk_Fr.nil _) (Nat.le_of_ble_eq_true rfl) dX9_by_25 rfl ?_
      refine mk_if_ne C 34 dX9_by_28 (by decide) (fun c9 => ?_) (fun c9 => ?_)
      · replace hf := (if_neg c9).symm.trans hf
        refine mk_aload_n C 0 dX9_by_34 rfl ?_
        refine mk_iload_n C 1 dX9_by_35 rfl ?_
        refine mk_iconst C (v := (-1)) dX9_by_36 (by decide) ?_
        refine mk_iconst C (v := (-1)) dX9_by_37 (by decide) ?_
        obtain ⟨uX_10, h11, hf⟩ := b1_some hf
        refine mk_callVv C (c_X_runsBy l D cI cJ X Y aX uX uL p1 (-1) (-1) uX_10 h11) mw_1162 mw_1164 mw_s16 mw_10 mw_1165 mkn_X9_runsBy rfl ⟨Nat.le_of_ble_eq_true rfl, Nat.le_of_ble_eq_true rfl⟩ 0 rfl rfl rfl (mk_Fr.all _ _) (Nat.le_of_ble_eq_true rfl) dX9_by_38 rfl ?_
        refine mk_iload_n C 2 dX9_by_41 rfl ?_
        refine mk_if_ne C 52 dX9_by_42 (by decide) (fun c12 => ?_) (fun c12 => ?_)
        · replace hf := (if_neg c12).symm.trans hf
          refine mk_iload_n C 2 dX9_by_52 rfl ?_
          refine mk_iconst C (v := 1) dX9_by_53 (by decide) ?_
          refine mk_icmp_ne C 64 dX9_by_54 (by decide) (fun c13 => ?_) (fun c13 => ?_)
          · replace hf := (if_neg c13).symm.trans hf
            refine mk_iload_n C 2 dX9_by_64 rfl ?_
            refine mk_iconst C (v := 2) dX9_by_65 (by decide) ?_
            refine mk_icmp_ne C 76 dX9_by_66 (by decide) (fun c14 => ?_) (fun c14 => ?_)
            · replace hf := (if_neg c14).symm.trans hf
              refine mk_aload_n C 0 dX9_by_76 rfl ?_
              obtain ⟨r15, h16, hf⟩ := b1_some hf
              refine mk_callVi C (c_X_skipsAll l D cI cJ X Y aX uX_10 uL r15 h16) mw_1265 mw_1267 mw_s29 mw_10 mw_1268 mkn_X9_skipsAll rfl ⟨Nat.le_of_ble_eq_true rfl, Nat.le_of_ble_eq_true rfl⟩ 0 rfl rfl rfl (mk_Fr.all _ _) (Nat.le_of_ble_eq_true rfl) dX9_by_77 rfl ?_
              have e := Option.some.inj hf
              obtain ⟨e0, e1⟩ := Prod.mk.inj e
              exact mk_iret C hr hlk e0 (by rw [← e1]) dX9_by_80
            · replace hf := (if_pos c14).symm.trans hf
              refine mk_aload_n C 0 dX9_by_69 rfl ?_
              obtain ⟨r17, h18, hf⟩ := b1_some hf
              refine mk_callVi C (c_X_collisions l D cI cJ X Y aX uX_10 uL r17 h18) mw_1257 mw_1259 mw_s28 mw_10 mw_1260 mkn_X9_collisions rfl ⟨Nat.le_of_ble_eq_true rfl, Nat.le_of_ble_eq_true rfl⟩ 0 rfl rfl rfl (mk_Fr.all _ _) (Nat.le_of_ble_eq_true rfl) dX9_by_70 rfl ?_
              refine mk_goto C 80 dX9_by_73 (by decide) ?_
              have e := Option.some.inj hf
              obtain ⟨e0, e1⟩ := Prod.mk.inj e
              exact mk_iret C hr hlk e0 (by rw [← e1]) dX9_by_80
          · replace hf := (if_pos c13).symm.trans hf
            refine mk_aload_n C 0 dX9_by_57 rfl ?_
            refine mk_get C mk_inX9 0 rfl rfl 40 (by decide) mw_942 (v := .int (uX_10 40 0)) rfl dX9_by_58 ?_
            refine mk_goto C 80 dX9_by_61 (by decide) ?_
            have e := Option.some.inj hf
            obtain ⟨e0, e1⟩ := Prod.mk.inj e
            exact mk_iret C hr hlk e0 (by rw [← e1]) dX9_by_80
        · replace hf := (if_pos c12).symm.trans hf
          refine mk_aload_n C 0 dX9_by_45 rfl ?_
          obtain ⟨r19, h20, hf⟩ := b1_some hf
          refine mk_callVi C (c_X_lastOf l D cI cJ X Y aX uX_10 uL r19 h20) mw_1244 mw_1246 mw_s27 mw_10 mw_1247 mkn_X9_lastOf rfl ⟨Nat.le_of_ble_eq_true rfl, Nat.le_of_ble_eq_true rfl⟩ 0 rfl rfl rfl (mk_Fr.all _ _) (Nat.le_of_ble_eq_true rfl) dX9_by_46 rfl ?_
          refine mk_goto C 80 dX9_by_49 (by decide) ?_
          have e := Option.some.inj hf
          obtain ⟨e0, e1⟩ := Prod.mk.inj e
          exact mk_iret C hr hlk e0 (by rw [← e1]) dX9_by_80
      · replace hf := (if_pos c9).symm.trans hf
        refine mk_bipush C (v := (-2)) dX9_by_31 (by decide) ?_
        have e := Option.some.inj hf
        obtain ⟨e0, e1⟩ := Prod.mk.inj e
        exact mk_iret C hr hlk e0 (by rw [← e1]) dX9_by_33
set_option maxHeartbeats 40000000 in
set_option maxRecDepth 100000 in
theorem c_X_moreWithout (l : Launch) (D : va_G) (cI cJ : ClassId) (X Y : Nat → Nat) (aX : Nat → Nat) (uX : Nat → Nat → Int32) (uL : Nat → Nat → Int64) (p1 : Int32) (r : Int32) (wX : Nat → Nat → Int32) (hf : f_X_moreWithout uX p1 = some (r, wX)) : mk_Met l yX9_moreWithout cX9_moreWithout 3 (some .int) ({ frames := 6, cells := 0, slots := 0, locals := 141 }) D [(cI, .int), (cJ, .long)] X Y [.ref (aX 0), .int p1] (wModel aX cI cJ uX uL) (wModel aX cI cJ wX uL) (some (.int r)) 0 0 := by
  refine mk_start (own := RX9) (by decide) rfl (Nat.le_of_ble_eq_true rfl) ?_
  intro sz p e s m args below meth c A C hr hlk hnm
  replace C : mk_Cx p s m args c cX9_moreWithout 3 RX9 D [(cI, .int), (cJ, .long)] X Y A := C
  show mk_Go p l e (headSpec (mk_ws yX9_moreWithout cX9_moreWithout 3 (some .int)) ({ frames := 6, cells := 0, slots := 0, locals := 141 })).room s m args below meth c D A 3 0 0 (MQ below (mk_Q (some (.int r)) D (wModel aX cI cJ wX uL) A) args s 0 0 A) 0 (wModel aX cI cJ uX uL) [(0, .ref (aX 0)), (1, .int p1)] []
  unfold f_X_moreWithout at hf
  refine mk_aload_n C 0 dX9_moreWithout_0 rfl ?_
  obtain ⟨uX_1, h2, hf⟩ := b1_some hf
  refine mk_callVv C (c_X_runs l D cI cJ X Y aX uX uL uX_1 h2) mw_1158 mw_1160 mw_s15 mw_10 mw_1161 mkn_X9_runs rfl ⟨Nat.le_of_ble_eq_true rfl, Nat.le_of_ble_eq_true rfl⟩ 0 rfl rfl rfl (mk_Fr.all _ _) (Nat.le_of_ble_eq_true rfl) dX9_moreWithout_1 rfl ?_
  refine mk_aload_n C 0 dX9_moreWithout_4 rfl ?_
  refine mk_get C mk_inX9 0 rfl rfl 40 (by decide) mw_942 (v := .int (uX_1 40 0)) rfl dX9_moreWithout_5 ?_
  refine mk_istore_n C (lv' := [(2, .int (uX_1 40 0)), (0, .ref (aX 0)), (1, .int p1)]) dX9_moreWithout_8 (by decide) rfl ?_
  refine mk_aload_n C 1 dX9_moreWithout_9 rfl ?_
  refine mk_aload_n C 1 dX9_moreWithout_10 rfl ?_
  refine mk_get C mk_inX9 0 rfl rfl 0 (by decide) mw_902 (v := .ref (aX 1)) rfl dX9_moreWithout_11 ?_
  refine mk_iconst C (v := 0) dX9_moreWithout_14 (by decide) ?_
  refine mk_iald C 1 0 (f := (uX_1 0)) rfl rfl (mk_vi (by decide)) (j := 0) (by decide) dX9_moreWithout_15 ?_
  refine mk_iload_n C 2 dX9_moreWithout_16 rfl ?_
  refine mk_iconst C (v := (-1)) dX9_moreWithout_17 (by decide) ?_
  obtain ⟨uX_3, h4, hf⟩ := b1_some hf
  refine mk_callVv C (c_X_runsBy l D cI cJ X Y aX uX_1 uL ((uX_1 0) 0) p1 (-1) uX_3 h4) mw_1162 mw_1164 mw_s16 mw_10 mw_1165 mkn_X9_runsBy rfl ⟨Nat.le_of_ble_eq_true rfl, Nat.le_of_ble_eq_true rfl⟩ 0 rfl rfl rfl (mk_Fr.all _ _) (Nat.le_of_ble_eq_true rfl) dX9_moreWithout_18 rfl ?_
  refine mk_aload_n C 1 dX9_moreWithout_21 rfl ?_
  refine mk_get C mk_inX9 0 rfl rfl 40 (by decide) mw_942 (v := .int (uX_3 40 0)) rfl dX9_moreWithout_22 ?_
  refine mk_iload_n C 0 dX9_moreWithout_25 rfl ?_
  refine mk_isub C dX9_moreWithout_26 ?_
  have e := Option.some.inj hf
  obtain ⟨e0, e1⟩ := Prod.mk.inj e
  exact mk_iret C hr hlk e0 (by rw [← e1]) dX9_moreWithout_27
set_option maxHeartbeats 40000000 in
set_option maxRecDepth 100000 in
theorem c_X_without (l : Launch) (D : va_G) (cI cJ : ClassId) (X Y : Nat → Nat) (aX : Nat → Nat) (uX : Nat → Nat → Int32) (uL : Nat → Nat → Int64) (p1 : Int32) (r : Int32) (wX : Nat → Nat → Int32) (hf : f_X_without uX p1 = some (r, wX)) : mk_Met l yX9_without cX9_without 2 (some .int) ({ frames := 7, cells := 0, slots := 0, locals := 163 }) D [(cI, .int), (cJ, .long)] X Y [.ref (aX 0), .int p1] (wModel aX cI cJ uX uL) (wModel aX cI cJ wX uL) (some (.int r)) 0 0 := by
  refine mk_start (own := RX9) (by decide) rfl (Nat.le_of_ble_eq_true rfl) ?_
  intro sz p e s m args below meth c A C hr hlk hnm
  replace C : mk_Cx p s m args c cX9_without 2 RX9 D [(cI, .int), (cJ, .long)] X Y A := C
  show mk_Go p l e (headSpec (mk_ws yX9_without cX9_without 2 (some .int)) ({ frames := 7, cells := 0, slots := 0, locals := 163 })).room s m args below meth c D A 2 0 0 (MQ below (mk_Q (some (.int r)) D (wModel aX cI cJ wX uL) A) args s 0 0 A) 0 (wModel aX cI cJ uX uL) [(0, .ref (aX 0)), (1, .int p1)] []
  unfold f_X_without at hf
  refine mk_iload_n C 1 dX9_without_0 rfl ?_
  refine mk_i2l C dX9_without_1 ?_
  refine mk_lconst C (v := 0) dX9_without_2 (by decide) ?_
  refine mk_aload_n C 0 dX9_without_3 rfl ?_
  refine mk_get C mk_inX9 0 rfl rfl 0 (by decide) mw_902 (v := .ref (aX 1)) rfl dX9_without_4 ?_
  refine mk_iconst C (v := 5) dX9_without_7 (by decide) ?_
  refine mk_iald C 1 0 (f := (uX 0)) rfl rfl (mk_vi (by decide)) (j := 5) (by decide) dX9_without_8 ?_
  refine mk_iconst C (v := 1) dX9_without_9 (by decide) ?_
  refine mk_isub C dX9_without_10 ?_
  refine mk_i2l C dX9_without_11 ?_
  obtain ⟨r1, h2, hf⟩ := b1_some hf
  refine mk_callSi C (c_X_in l D cI cJ X Y ((p1 : Int32).toInt64) 0 (((((uX 0) 5) - 1) : Int32).toInt64) r1 h2) mw_1052 mw_1053 mw_10 mw_1054 mkn_X9_in rfl ⟨Nat.le_of_ble_eq_true rfl, Nat.le_of_ble_eq_true rfl⟩ (mk_Fr.nil _) (Nat.le_of_ble_eq_true rfl) dX9_without_12 rfl ?_
  refine mk_if_eq C 26 dX9_without_15 (by decide) (fun c3 => ?_) (fun c3 => ?_)
  · replace hf := (if_pos c3).symm.trans hf
    refine mk_bipush C (v := (-99)) dX9_without_26 (by decide) ?_
    have e := Option.some.inj hf
    obtain ⟨e0, e1⟩ := Prod.mk.inj e
    exact mk_iret C hr hlk e0 (by rw [← e1]) dX9_without_28
  · replace hf := (if_neg c3).symm.trans hf
    refine mk_aload_n C 0 dX9_without_18 rfl ?_
    refine mk_iload_n C 1 dX9_without_19 rfl ?_
    obtain ⟨r4, uX_5, h6, hf⟩ := b2_some hf
    refine mk_callVi C (c_X_moreWithout l D cI cJ X Y aX uX uL p1 r4 uX_5 h6) mw_1294 mw_1296 mw_s30 mw_10 mw_1297 mkn_X9_moreWithout rfl ⟨Nat.le_of_ble_eq_true rfl, Nat.le_of_ble_eq_true rfl⟩ 0 rfl rfl rfl (mk_Fr.all _ _) (Nat.le_of_ble_eq_true rfl) dX9_without_20 rfl ?_
    refine mk_goto C 28 dX9_without_23 (by decide) ?_
    have e := Option.some.inj hf
    obtain ⟨e0, e1⟩ := Prod.mk.inj e
    exact mk_iret C hr hlk e0 (by rw [← e1]) dX9_without_28
set_option maxHeartbeats 40000000 in
set_option maxRecDepth 100000 in
theorem c_X_alone (l : Launch) (D : va_G) (cI cJ : ClassId) (X Y : Nat → Nat) (aX : Nat → Nat) (uX : Nat → Nat → Int32) (uL : Nat → Nat → Int64) (p1 : Int32) (r : Int32) (wX : Nat → Nat → Int32) (hf : f_X_alone uX p1 = some (r, wX)) : mk_Met l yX9_alone cX9_alone 2 (some .int) ({ frames := 5, cells := 0, slots := 0, locals := 121 }) D [(cI, .int), (cJ, .long)] X Y [.ref (aX 0), .int p1] (wModel aX cI cJ uX uL) (wModel aX cI cJ wX uL) (some (.int r)) 0 0 := by
  refine mk_start (own := RX9) (by decide) rfl (Nat.le_of_ble_eq_true rfl) ?_
  intro sz p e s m args below meth c A C hr hlk hnm
  replace C : mk_Cx p s m args c cX9_alone 2 RX9 D [(cI, .int), (cJ, .long)] X Y A := C
  show mk_Go p l e (headSpec (mk_ws yX9_alone cX9_alone 2 (some .int)) ({ frames := 5, cells := 0, slots := 0, locals := 121 })).room s m args below meth c D A 2 0 0 (MQ below (mk_Q (some (.int r)) D (wModel aX cI cJ wX uL) A) args s 0 0 A) 0 (wModel aX cI cJ uX uL) [(0, .ref (aX 0)), (1, .int p1)] []
  unfold f_X_alone at hf
  refine mk_aload_n C 0 dX9_alone_0 rfl ?_
  refine mk_iload_n C 1 dX9_alone_1 rfl ?_
  obtain ⟨r1, h2, hf⟩ := b1_some hf
  refine mk_callVi C (c_X_isSender l D cI cJ X Y aX uX uL p1 r1 h2) mw_1132 mw_1134 mw_s11 mw_10 mw_1135 mkn_X9_isSender rfl ⟨Nat.le_of_ble_eq_true rfl, Nat.le_of_ble_eq_true rfl⟩ 0 rfl rfl rfl (mk_Fr.all _ _) (Nat.le_of_ble_eq_true rfl) dX9_alone_2 rfl ?_
  refine mk_if_ne C 11 dX9_alone_5 (by decide) (fun c3 => ?_) (fun c3 => ?_)
  · replace hf := (if_neg c3).symm.trans hf
    refine mk_aload_n C 0 dX9_alone_11 rfl ?_
    refine mk_aload_n C 0 dX9_alone_12 rfl ?_
    refine mk_get C mk_inX9 0 rfl rfl 0 (by decide) mw_902 (v := .ref (aX 1)) rfl dX9_alone_13 ?_
    refine mk_iconst C (v := 0) dX9_alone_16 (by decide) ?_
    refine mk_iald C 1 0 (f := (uX 0)) rfl rfl (mk_vi (by decide)) (j := 0) (by decide) dX9_alone_17 ?_
    refine mk_iconst C (v := (-1)) dX9_alone_18 (by decide) ?_
    refine mk_iload_n C 1 dX9_alone_19 rfl ?_
    obtain ⟨uX_4, h5, hf⟩ := b1_some hf
    refine mk_callVv C (c_X_runsBy l D cI cJ X Y aX uX uL ((uX 0) 0) (-1) p1 uX_4 h5) mw_1162 mw_1164 mw_s16 mw_10 mw_1165 mkn_X9_runsBy rfl ⟨Nat.le_of_ble_eq_true rfl, Nat.le_of_ble_eq_true rfl⟩ 0 rfl rfl rfl (mk_Fr.all _ _) (Nat.le_of_ble_eq_true rfl) dX9_alone_20 rfl ?_
    refine mk_aload_n C 0 dX9_alone_23 rfl ?_
    refine mk_get C mk_inX9 0 rfl rfl 40 (by decide) mw_942 (v := .int (uX_4 40 0)) rfl dX9_alone_24 ?_
    have e := Option.some.inj hf
    obtain ⟨e0, e1⟩ := Prod.mk.inj e
    exact mk_iret C hr hlk e0 (by rw [← e1]) dX9_alone_27
  · replace hf := (if_pos c3).symm.trans hf
    refine mk_bipush C (v := (-2)) dX9_alone_8 (by decide) ?_
    have e := Option.some.inj hf
    obtain ⟨e0, e1⟩ := Prod.mk.inj e
    exact mk_iret C hr hlk e0 (by rw [← e1]) dX9_alone_10
set_option maxHeartbeats 40000000 in
set_option maxRecDepth 100000 in
theorem c_X_worst (l : Launch) (D : va_G) (cI cJ : ClassId) (X Y : Nat → Nat) (aX : Nat → Nat) (uX : Nat → Nat → Int32) (uL : Nat → Nat → Int64) (r : Int32) (wX : Nat → Nat → Int32) (hf : f_X_worst uX = some (r, wX)) : mk_Met l yX9_worst cX9_worst 5 (some .int) ({ frames := 7, cells := 0, slots := 0, locals := 163 }) D [(cI, .int), (cJ, .long)] X Y [.ref (aX 0)] (wModel aX cI cJ uX uL) (wModel aX cI cJ wX uL) (some (.int r)) 0 0 := by
  refine mk_start (own := RX9) (by decide) rfl (Nat.le_of_ble_eq_true rfl) ?_
  intro sz p e s m args below meth c A C hr hlk hnm
  replace C : mk_Cx p s m args c cX9_worst 5 RX9 D [(cI, .int), (cJ, .long)] X Y A := C
  have wL16 : ∀ (n : Nat) (v1 : Int32) (v2 : Int32) (v3 : Int32) (uX : Nat → Nat → Int32), f_X_worst_16 n v1 v2 v3 uX = some (r, wX) → mk_Go p l e (headSpec (mk_ws yX9_worst cX9_worst 5 (some .int)) ({ frames := 7, cells := 0, slots := 0, locals := 163 })).room s m args below meth c D A 5 0 0 (MQ below (mk_Q (some (.int r)) D (wModel aX cI cJ wX uL) A) args s 0 0 A) 16 (wModel aX cI cJ uX uL) [(0, .ref (aX 0)), (1, .int v1), (2, .int v2), (3, .int v3)] [] := by
    intro  n
    induction n with
    | zero => intro v1 v2 v3 uX hf; exact nomatch (show (none : Option (Int32 × (Nat → Nat → Int32))) = some _ from hf)
    | succ n ih =>
      intro v1 v2 v3 uX hf
      rw [f_X_worst_16] at hf
      refine mk_iload_n C 3 dX9_worst_16 rfl ?_
      refine mk_aload_n C 0 dX9_worst_17 rfl ?_
      refine mk_get C mk_inX9 0 rfl rfl 0 (by decide) mw_902 (v := .ref (aX 1)) rfl dX9_worst_18 ?_
      refine mk_iconst C (v := 5) dX9_worst_21 (by decide) ?_
      refine mk_iald C 1 0 (f := (uX 0)) rfl rfl (mk_vi (by decide)) (j := 5) (by decide) dX9_worst_22 ?_
      refine mk_icmp_ge C 50 dX9_worst_23 (by decide) (fun c1 => ?_) (fun c1 => ?_)
      · replace hf := (if_pos c1).symm.trans hf
        refine mk_iload_n C 1 dX9_worst_50 rfl ?_
        have e := Option.some.inj hf
        obtain ⟨e0, e1⟩ := Prod.mk.inj e
        exact mk_iret C hr hlk e0 (by rw [← e1]) dX9_worst_51
      · replace hf := (if_neg c1).symm.trans hf
        refine mk_aload_n C 0 dX9_worst_26 rfl ?_
        refine mk_iload_n C 3 dX9_worst_27 rfl ?_
        obtain ⟨r2, uX_3, h4, hf⟩ := b2_some hf
        refine mk_callVi C (c_X_moreWithout l D cI cJ X Y aX uX uL v3 r2 uX_3 h4) mw_1294 mw_1296 mw_s30 mw_10 mw_1297 mkn_X9_moreWithout rfl ⟨Nat.le_of_ble_eq_true rfl, Nat.le_of_ble_eq_true rfl⟩ 0 rfl rfl rfl (mk_Fr.all _ _) (Nat.le_of_ble_eq_true rfl) dX9_worst_28 rfl ?_
        refine mk_istore C (lv' := [(4, .int r2), (0, .ref (aX 0)), (1, .int v1), (2, .int v2), (3, .int v3)]) dX9_worst_31 (by decide) rfl ?_
        refine mk_iload C 0 dX9_worst_33 rfl ?_
        refine mk_iload_n C 3 dX9_worst_35 rfl ?_
        refine mk_icmp_le C 44 dX9_worst_36 (by decide) (fun c5 => ?_) (fun c5 => ?_)
        · replace hf := (if_pos c5).symm.trans hf
          refine mk_iinc C (v := (v3 + 1)) (lv' := [(3, .int (v3 + 1)), (4, .int r2), (0, .ref (aX 0)), (1, .int v1), (2, .int v2)]) 4 dX9_worst_44 rfl rfl (by decide) rfl ?_
          refine mk_goto C 16 dX9_worst_47 (by decide) ?_
          exact mk_lvsub [2, 3, 4, 0] rfl (ih _ _ _ _ hf)
        · replace hf := (if_neg c5).symm.trans hf
          refine mk_iload C 0 dX9_worst_39 rfl ?_
          refine mk_istore_n C (lv' := [(2, .int r2), (4, .int r2), (0, .ref (aX 0)), (1, .int v1), (3, .int v3)]) dX9_worst_41 (by decide) rfl ?_
          refine mk_iload_n C 4 dX9_worst_42 rfl ?_
          refine mk_istore_n C (lv' := [(1, .int v3), (2, .int r2), (4, .int r2), (0, .ref (aX 0)), (3, .int v3)]) dX9_worst_43 (by decide) rfl ?_
          refine mk_iinc C (v := (v3 + 1)) (lv' := [(3, .int (v3 + 1)), (1, .int v3), (2, .int r2), (4, .int r2), (0, .ref (aX 0))]) 4 dX9_worst_44 rfl rfl (by decide) rfl ?_
          refine mk_goto C 16 dX9_worst_47 (by decide) ?_
          exact mk_lvsub [4, 1, 2, 0] rfl (ih _ _ _ _ hf)
  show mk_Go p l e (headSpec (mk_ws yX9_worst cX9_worst 5 (some .int)) ({ frames := 7, cells := 0, slots := 0, locals := 163 })).room s m args below meth c D A 5 0 0 (MQ below (mk_Q (some (.int r)) D (wModel aX cI cJ wX uL) A) args s 0 0 A) 0 (wModel aX cI cJ uX uL) [(0, .ref (aX 0))] []
  unfold f_X_worst at hf
  refine mk_aload_n C 0 dX9_worst_0 rfl ?_
  obtain ⟨r6, h7, hf⟩ := b1_some hf
  refine mk_callVi C (c_X_is l D cI cJ X Y aX uX uL r6 h7) mw_1153 mw_1155 mw_s14 mw_10 mw_1156 mkn_X9_is rfl ⟨Nat.le_of_ble_eq_true rfl, Nat.le_of_ble_eq_true rfl⟩ 0 rfl rfl rfl (mk_Fr.all _ _) (Nat.le_of_ble_eq_true rfl) dX9_worst_1 rfl ?_
  refine mk_if_ne C 10 dX9_worst_4 (by decide) (fun c8 => ?_) (fun c8 => ?_)
  · replace hf := (if_neg c8).symm.trans hf
    refine mk_iconst C (v := (-1)) dX9_worst_10 (by decide) ?_
    refine mk_istore_n C (lv' := [(1, .int (-1)), (0, .ref (aX 0))]) dX9_worst_11 (by decide) rfl ?_
    refine mk_iconst C (v := 0) dX9_worst_12 (by decide) ?_
    refine mk_istore_n C (lv' := [(2, .int 0), (1, .int (-1)), (0, .ref (aX 0))]) dX9_worst_13 (by decide) rfl ?_
    refine mk_iconst C (v := 0) dX9_worst_14 (by decide) ?_
    refine mk_istore_n C (lv' := [(3, .int 0), (2, .int 0), (1, .int (-1)), (0, .ref (aX 0))]) dX9_worst_15 (by decide) rfl ?_
    exact mk_lvsub [3, 2, 1, 0] rfl (wL16 600 _ _ _ _ hf)
  · replace hf := (if_pos c8).symm.trans hf
    refine mk_bipush C (v := (-2)) dX9_worst_7 (by decide) ?_
    have e := Option.some.inj hf
    obtain ⟨e0, e1⟩ := Prod.mk.inj e
    exact mk_iret C hr hlk e0 (by rw [← e1]) dX9_worst_9
set_option maxHeartbeats 40000000 in
set_option maxRecDepth 100000 in
theorem c_X_is_ (l : Launch) (D : va_G) (cI cJ : ClassId) (X Y : Nat → Nat) (aX : Nat → Nat) (uX : Nat → Nat → Int32) (uL : Nat → Nat → Int64) (p1 : Int64) (p3 : Int64) (wL : Nat → Nat → Int64) (hf : f_X_is_ uL p1 p3 = some wL) : mk_Met l yX9_is_ cX9_is_ 7 none ({ frames := 101, cells := 0, slots := 0, locals := 2423 }) D [(cI, .int), (cJ, .long)] X Y [.ref (aX 0), .long p1, .long p3] (wModel aX cI cJ uX uL) (wModel aX cI cJ uX wL) none 0 0 := by
  refine mk_start (own := RX9) (by decide) rfl (Nat.le_of_ble_eq_true rfl) ?_
  intro sz p e s m args below meth c A C hr hlk hnm
  replace C : mk_Cx p s m args c cX9_is_ 7 RX9 D [(cI, .int), (cJ, .long)] X Y A := C
  show mk_Go p l e (headSpec (mk_ws yX9_is_ cX9_is_ 7 none) ({ frames := 101, cells := 0, slots := 0, locals := 2423 })).room s m args below meth c D A 7 0 0 (MQ below (mk_Q none D (wModel aX cI cJ uX wL) A) args s 0 0 A) 0 (wModel aX cI cJ uX uL) [(0, .ref (aX 0)), (1, .long p1), (3, .long p3)] []
  unfold f_X_is_ at hf
  refine mk_lload_n C 1 dX9_is__0 rfl ?_
  refine mk_lload_n C 1 dX9_is__1 rfl ?_
  refine mk_lneg C dX9_is__2 ?_
  refine mk_mmaxl C mw_1328 mw_1329 mw_17 mw_1330 ⟨Nat.le_of_ble_eq_true rfl, Nat.le_of_ble_eq_true rfl⟩ ⟨Nat.zero_le _, Nat.zero_le _⟩ dX9_is__3 ?_
  refine mk_lload_n C 2 dX9_is__6 rfl ?_
  obtain ⟨r1, h2, hf⟩ := b1_some hf
  refine mk_callSl C (c_X_common l D cI cJ X Y 100 (if (-p1) < p1 then p1 else (-p1)) p3 r1 h2) mw_1331 mw_1332 mw_10 mw_1333 mkn_X9_common rfl ⟨Nat.le_of_ble_eq_true rfl, Nat.le_of_ble_eq_true rfl⟩ (mk_Fr.nil _) (Nat.le_of_ble_eq_true rfl) dX9_is__7 rfl ?_
  refine mk_lstore C (lv' := [(5, .long r1), (0, .ref (aX 0)), (1, .long p1), (3, .long p3)]) dX9_is__10 (by decide) rfl ?_
  refine mk_aload_n C 1 dX9_is__12 rfl ?_
  refine mk_lload_n C 2 dX9_is__13 rfl ?_
  refine mk_lload C 0 dX9_is__14 rfl ?_
  obtain ⟨g3, hf⟩ := gNL_some hf
  refine mk_ldiv C dX9_is__16 g3 ?_
  refine mk_put C mk_inX9 tyX9 tyX9_ok nmX9 0 rfl rfl 41 (by decide) mw_943 rfl rfl rfl (Nat.le_of_ble_eq_true rfl) (ws' := (wModel aX cI cJ uX (upF 41 (p1 / r1) uL))) (st_X_X_41 cI cJ aX uX uL (p1 / r1)) dX9_is__17 ?_
  refine mk_aload_n C 1 dX9_is__20 rfl ?_
  refine mk_lload_n C 3 dX9_is__21 rfl ?_
  refine mk_lload C 0 dX9_is__22 rfl ?_
  refine mk_ldiv C dX9_is__24 g3 ?_
  refine mk_put C mk_inX9 tyX9 tyX9_ok nmX9 0 rfl rfl 42 (by decide) mw_944 rfl rfl rfl (Nat.le_of_ble_eq_true rfl) (ws' := (wModel aX cI cJ uX (upF 42 (p3 / r1) (upF 41 (p1 / r1) uL)))) (st_X_X_42 cI cJ aX uX (upF 41 (p1 / r1) uL) (p3 / r1)) dX9_is__25 ?_
  have e0 := Option.some.inj hf
  exact mk_vret C hr hlk (by rw [← e0]) dX9_is__28
set_option maxHeartbeats 40000000 in
set_option maxRecDepth 100000 in
theorem c_X_adds (l : Launch) (D : va_G) (cI cJ : ClassId) (X Y : Nat → Nat) (aX : Nat → Nat) (uX : Nat → Nat → Int32) (uL : Nat → Nat → Int64) (p1 : Int64) (p3 : Int64) (wL : Nat → Nat → Int64) (hf : f_X_adds uL p1 p3 = some wL) : mk_Met l yX9_adds cX9_adds 7 none ({ frames := 102, cells := 0, slots := 0, locals := 2449 }) D [(cI, .int), (cJ, .long)] X Y [.ref (aX 0), .long p1, .long p3] (wModel aX cI cJ uX uL) (wModel aX cI cJ uX wL) none 0 0 := by
  refine mk_start (own := RX9) (by decide) rfl (Nat.le_of_ble_eq_true rfl) ?_
  intro sz p e s m args below meth c A C hr hlk hnm
  replace C : mk_Cx p s m args c cX9_adds 7 RX9 D [(cI, .int), (cJ, .long)] X Y A := C
  show mk_Go p l e (headSpec (mk_ws yX9_adds cX9_adds 7 none) ({ frames := 102, cells := 0, slots := 0, locals := 2449 })).room s m args below meth c D A 7 0 0 (MQ below (mk_Q none D (wModel aX cI cJ uX wL) A) args s 0 0 A) 0 (wModel aX cI cJ uX uL) [(0, .ref (aX 0)), (1, .long p1), (3, .long p3)] []
  unfold f_X_adds at hf
  refine mk_aload_n C 0 dX9_adds_0 rfl ?_
  refine mk_get C mk_inX9 0 rfl rfl 42 (by decide) mw_944 (v := .long (uL 42 0)) rfl dX9_adds_1 ?_
  refine mk_lload_n C 2 dX9_adds_4 rfl ?_
  obtain ⟨r1, h2, hf⟩ := b1_some hf
  refine mk_callSl C (c_X_common l D cI cJ X Y 100 (uL 42 0) p3 r1 h2) mw_1331 mw_1332 mw_10 mw_1333 mkn_X9_common rfl ⟨Nat.le_of_ble_eq_true rfl, Nat.le_of_ble_eq_true rfl⟩ (mk_Fr.nil _) (Nat.le_of_ble_eq_true rfl) dX9_adds_5 rfl ?_
  refine mk_lstore C (lv' := [(5, .long r1), (0, .ref (aX 0)), (1, .long p1), (3, .long p3)]) dX9_adds_8 (by decide) rfl ?_
  refine mk_aload_n C 1 dX9_adds_10 rfl ?_
  refine mk_aload_n C 1 dX9_adds_11 rfl ?_
  refine mk_get C mk_inX9 0 rfl rfl 41 (by decide) mw_943 (v := .long (uL 41 0)) rfl dX9_adds_12 ?_
  refine mk_lload_n C 3 dX9_adds_15 rfl ?_
  refine mk_lload C 0 dX9_adds_16 rfl ?_
  obtain ⟨g3, hf⟩ := gNL_some hf
  refine mk_ldiv C dX9_adds_18 g3 ?_
  refine mk_lmul C dX9_adds_19 ?_
  refine mk_lload_n C 2 dX9_adds_20 rfl ?_
  refine mk_aload_n C 1 dX9_adds_21 rfl ?_
  refine mk_get C mk_inX9 0 rfl rfl 42 (by decide) mw_944 (v := .long (uL 42 0)) rfl dX9_adds_22 ?_
  refine mk_lload C 0 dX9_adds_25 rfl ?_
  refine mk_ldiv C dX9_adds_27 g3 ?_
  refine mk_lmul C dX9_adds_28 ?_
  refine mk_ladd C dX9_adds_29 ?_
  refine mk_aload_n C 1 dX9_adds_30 rfl ?_
  refine mk_get C mk_inX9 0 rfl rfl 42 (by decide) mw_944 (v := .long (uL 42 0)) rfl dX9_adds_31 ?_
  refine mk_lload C 0 dX9_adds_34 rfl ?_
  refine mk_ldiv C dX9_adds_36 g3 ?_
  refine mk_lload_n C 3 dX9_adds_37 rfl ?_
  refine mk_lmul C dX9_adds_38 ?_
  obtain ⟨uL_4, h5, hf⟩ := b1_some hf
  refine mk_callVv C (c_X_is_ l D cI cJ X Y aX uX uL (((uL 41 0) * (p3 / r1)) + (p1 * ((uL 42 0) / r1))) (((uL 42 0) / r1) * p3) uL_4 h5) mw_1324 mw_1326 mw_s32 mw_10 mw_1327 mkn_X9_is_ rfl ⟨Nat.le_of_ble_eq_true rfl, Nat.le_of_ble_eq_true rfl⟩ 0 rfl rfl rfl (mk_Fr.all _ _) (Nat.le_of_ble_eq_true rfl) dX9_adds_39 rfl ?_
  have e0 := Option.some.inj hf
  exact mk_vret C hr hlk (by rw [← e0]) dX9_adds_42
set_option maxHeartbeats 40000000 in
set_option maxRecDepth 100000 in
theorem c_X_times (l : Launch) (D : va_G) (cI cJ : ClassId) (X Y : Nat → Nat) (aX : Nat → Nat) (uX : Nat → Nat → Int32) (uL : Nat → Nat → Int64) (p1 : Int64) (p3 : Int64) (wL : Nat → Nat → Int64) (hf : f_X_times uL p1 p3 = some wL) : mk_Met l yX9_times cX9_times 9 none ({ frames := 102, cells := 0, slots := 0, locals := 2449 }) D [(cI, .int), (cJ, .long)] X Y [.ref (aX 0), .long p1, .long p3] (wModel aX cI cJ uX uL) (wModel aX cI cJ uX wL) none 0 0 := by
  refine mk_start (own := RX9) (by decide) rfl (Nat.le_of_ble_eq_true rfl) ?_
  intro sz p e s m args below meth c A C hr hlk hnm
  replace C : mk_Cx p s m args c cX9_times 9 RX9 D [(cI, .int), (cJ, .long)] X Y A := C
  show mk_Go p l e (headSpec (mk_ws yX9_times cX9_times 9 none) ({ frames := 102, cells := 0, slots := 0, locals := 2449 })).room s m args below meth c D A 9 0 0 (MQ below (mk_Q none D (wModel aX cI cJ uX wL) A) args s 0 0 A) 0 (wModel aX cI cJ uX uL) [(0, .ref (aX 0)), (1, .long p1), (3, .long p3)] []
  unfold f_X_times at hf
  refine mk_lload_n C 1 dX9_times_0 rfl ?_
  refine mk_lload_n C 1 dX9_times_1 rfl ?_
  refine mk_lneg C dX9_times_2 ?_
  refine mk_mmaxl C mw_1328 mw_1329 mw_17 mw_1330 ⟨Nat.le_of_ble_eq_true rfl, Nat.le_of_ble_eq_true rfl⟩ ⟨Nat.zero_le _, Nat.zero_le _⟩ dX9_times_3 ?_
  refine mk_aload_n C 0 dX9_times_6 rfl ?_
  refine mk_get C mk_inX9 0 rfl rfl 42 (by decide) mw_944 (v := .long (uL 42 0)) rfl dX9_times_7 ?_
  obtain ⟨r1, h2, hf⟩ := b1_some hf
  refine mk_callSl C (c_X_common l D cI cJ X Y 100 (if (-p1) < p1 then p1 else (-p1)) (uL 42 0) r1 h2) mw_1331 mw_1332 mw_10 mw_1333 mkn_X9_common rfl ⟨Nat.le_of_ble_eq_true rfl, Nat.le_of_ble_eq_true rfl⟩ (mk_Fr.nil _) (Nat.le_of_ble_eq_true rfl) dX9_times_10 rfl ?_
  refine mk_lstore C (lv' := [(5, .long r1), (0, .ref (aX 0)), (1, .long p1), (3, .long p3)]) dX9_times_13 (by decide) rfl ?_
  refine mk_aload_n C 1 dX9_times_15 rfl ?_
  refine mk_get C mk_inX9 0 rfl rfl 41 (by decide) mw_943 (v := .long (uL 41 0)) rfl dX9_times_16 ?_
  refine mk_aload_n C 1 dX9_times_19 rfl ?_
  refine mk_get C mk_inX9 0 rfl rfl 41 (by decide) mw_943 (v := .long (uL 41 0)) rfl dX9_times_20 ?_
  refine mk_lneg C dX9_times_23 ?_
  refine mk_mmaxl C mw_1328 mw_1329 mw_17 mw_1330 ⟨Nat.le_of_ble_eq_true rfl, Nat.le_of_ble_eq_true rfl⟩ ⟨Nat.zero_le _, Nat.zero_le _⟩ dX9_times_24 ?_
  refine mk_lload_n C 3 dX9_times_27 rfl ?_
  obtain ⟨r3, h4, hf⟩ := b1_some hf
  refine mk_callSl C (c_X_common l D cI cJ X Y 100 (if (-(uL 41 0)) < (uL 41 0) then (uL 41 0) else (-(uL 41 0))) p3 r3 h4) mw_1331 mw_1332 mw_10 mw_1333 mkn_X9_common rfl ⟨Nat.le_of_ble_eq_true rfl, Nat.le_of_ble_eq_true rfl⟩ (mk_Fr.nil _) (Nat.le_of_ble_eq_true rfl) dX9_times_28 rfl ?_
  refine mk_lstore C (lv' := [(7, .long r3), (5, .long r1), (0, .ref (aX 0)), (1, .long p1), (3, .long p3)]) dX9_times_31 (by decide) rfl ?_
  refine mk_aload_n C 2 dX9_times_33 rfl ?_
  refine mk_aload_n C 2 dX9_times_34 rfl ?_
  refine mk_get C mk_inX9 0 rfl rfl 41 (by decide) mw_943 (v := .long (uL 41 0)) rfl dX9_times_35 ?_
  refine mk_lload C 0 dX9_times_38 rfl ?_
  obtain ⟨g5, hf⟩ := gNL_some hf
  refine mk_ldiv C dX9_times_40 g5 ?_
  refine mk_lload_n C 3 dX9_times_41 rfl ?_
  refine mk_lload C 1 dX9_times_42 rfl ?_
  obtain ⟨g6, hf⟩ := gNL_some hf
  refine mk_ldiv C dX9_times_44 g6 ?_
  refine mk_lmul C dX9_times_45 ?_
  refine mk_aload_n C 2 dX9_times_46 rfl ?_
  refine mk_get C mk_inX9 0 rfl rfl 42 (by decide) mw_944 (v := .long (uL 42 0)) rfl dX9_times_47 ?_
  refine mk_lload C 1 dX9_times_50 rfl ?_
  refine mk_ldiv C dX9_times_52 g6 ?_
  refine mk_lload_n C 4 dX9_times_53 rfl ?_
  refine mk_lload C 0 dX9_times_54 rfl ?_
  refine mk_ldiv C dX9_times_56 g5 ?_
  refine mk_lmul C dX9_times_57 ?_
  obtain ⟨uL_7, h8, hf⟩ := b1_some hf
  refine mk_callVv C (c_X_is_ l D cI cJ X Y aX uX uL (((uL 41 0) / r3) * (p1 / r1)) (((uL 42 0) / r1) * (p3 / r3)) uL_7 h8) mw_1324 mw_1326 mw_s32 mw_10 mw_1327 mkn_X9_is_ rfl ⟨Nat.le_of_ble_eq_true rfl, Nat.le_of_ble_eq_true rfl⟩ 0 rfl rfl rfl (mk_Fr.all _ _) (Nat.le_of_ble_eq_true rfl) dX9_times_58 rfl ?_
  have e0 := Option.some.inj hf
  exact mk_vret C hr hlk (by rw [← e0]) dX9_times_61
set_option maxHeartbeats 40000000 in
set_option maxRecDepth 100000 in
theorem c_X_choose (l : Launch) (D : va_G) (cI cJ : ClassId) (X Y : Nat → Nat) (p0 : Int32) (p1 : Int32) (r : Int64) (hf : f_X_choose p0 p1 = some r) : mk_Met l yX9_choose cX9_choose 5 (some .long) ({ frames := 0, cells := 0, slots := 0, locals := 0 }) D [(cI, .int), (cJ, .long)] X Y [.int p0, .int p1] ([] : va_W) ([] : va_W) (some (.long r)) 0 0 := by
  refine mk_start (own := RX9) (by decide) rfl (Nat.le_of_ble_eq_true rfl) ?_
  intro sz p e s m args below meth c A C hr hlk hnm
  replace C : mk_Cx p s m args c cX9_choose 5 RX9 D [(cI, .int), (cJ, .long)] X Y A := C
  have wL5 : ∀ (n : Nat) (v2 : Int64) (v4 : Int32), f_X_choose_5 p0 p1 n v2 v4 = some r → mk_Go p l e (headSpec (mk_ws yX9_choose cX9_choose 5 (some .long)) ({ frames := 0, cells := 0, slots := 0, locals := 0 })).room s m args below meth c D A 5 0 0 (MQ below (mk_Q (some (.long r)) D ([] : va_W) A) args s 0 0 A) 5 ([] : va_W) [(0, .int p0), (1, .int p1), (2, .long v2), (4, .int v4)] [] := by
    intro  n
    induction n with
    | zero => intro v2 v4 hf; exact nomatch (show (none : Option (Int64)) = some _ from hf)
    | succ n ih =>
      intro v2 v4 hf
      rw [f_X_choose_5] at hf
      refine mk_iload C 3 dX9_choose_5 rfl ?_
      refine mk_iload_n C 1 dX9_choose_7 rfl ?_
      refine mk_icmp_gt C 31 dX9_choose_8 (by decide) (fun c1 => ?_) (fun c1 => ?_)
      · replace hf := (if_pos c1).symm.trans hf
        refine mk_lload_n C 2 dX9_choose_31 rfl ?_
        have e0 := Option.some.inj hf
        exact mk_lret C hr hlk e0 rfl dX9_choose_32
      · replace hf := (if_neg c1).symm.trans hf
        refine mk_lload_n C 2 dX9_choose_11 rfl ?_
        refine mk_iload_n C 0 dX9_choose_12 rfl ?_
        refine mk_iload_n C 1 dX9_choose_13 rfl ?_
        refine mk_isub C dX9_choose_14 ?_
        refine mk_iload C 3 dX9_choose_15 rfl ?_
        refine mk_iadd C dX9_choose_17 ?_
        refine mk_i2l C dX9_choose_18 ?_
        refine mk_lmul C dX9_choose_19 ?_
        refine mk_iload C 3 dX9_choose_20 rfl ?_
        refine mk_i2l C dX9_choose_22 ?_
        obtain ⟨g2, hf⟩ := gNL_some hf
        refine mk_ldiv C dX9_choose_23 g2 ?_
        refine mk_lstore_n C (lv' := [(2, .long ((v2 * (((p0 - p1) + v4) : Int32).toInt64) / (v4 : Int32).toInt64)), (0, .int p0), (1, .int p1), (4, .int v4)]) dX9_choose_24 (by decide) rfl ?_
        refine mk_iinc C (v := (v4 + 1)) (lv' := [(4, .int (v4 + 1)), (2, .long ((v2 * (((p0 - p1) + v4) : Int32).toInt64) / (v4 : Int32).toInt64)), (0, .int p0), (1, .int p1)]) 3 dX9_choose_25 rfl rfl (by decide) rfl ?_
        refine mk_goto C 5 dX9_choose_28 (by decide) ?_
        exact mk_lvsub [2, 3, 1, 0] rfl (ih _ _ hf)
  show mk_Go p l e (headSpec (mk_ws yX9_choose cX9_choose 5 (some .long)) ({ frames := 0, cells := 0, slots := 0, locals := 0 })).room s m args below meth c D A 5 0 0 (MQ below (mk_Q (some (.long r)) D ([] : va_W) A) args s 0 0 A) 0 ([] : va_W) [(0, .int p0), (1, .int p1)] []
  unfold f_X_choose at hf
  refine mk_lconst C (v := 1) dX9_choose_0 (by decide) ?_
  refine mk_lstore_n C (lv' := [(2, .long 1), (0, .int p0), (1, .int p1)]) dX9_choose_1 (by decide) rfl ?_
  refine mk_iconst C (v := 1) dX9_choose_2 (by decide) ?_
  refine mk_istore C (lv' := [(4, .int 1), (2, .long 1), (0, .int p0), (1, .int p1)]) dX9_choose_3 (by decide) rfl ?_
  exact mk_lvsub [2, 3, 1, 0] rfl (wL5 600 _ _ hf)
set_option maxHeartbeats 40000000 in
set_option maxRecDepth 100000 in
theorem c_X_power (l : Launch) (D : va_G) (cI cJ : ClassId) (X Y : Nat → Nat) (p0 : Int64) (p2 : Int32) (r : Int64) (hf : f_X_power p0 p2 = some r) : mk_Met l yX9_power cX9_power 6 (some .long) ({ frames := 0, cells := 0, slots := 0, locals := 0 }) D [(cI, .int), (cJ, .long)] X Y [.long p0, .int p2] ([] : va_W) ([] : va_W) (some (.long r)) 0 0 := by
  refine mk_start (own := RX9) (by decide) rfl (Nat.le_of_ble_eq_true rfl) ?_
  intro sz p e s m args below meth c A C hr hlk hnm
  replace C : mk_Cx p s m args c cX9_power 6 RX9 D [(cI, .int), (cJ, .long)] X Y A := C
  have wL5 : ∀ (n : Nat) (v3 : Int64) (v5 : Int32), f_X_power_5 p0 p2 n v3 v5 = some r → mk_Go p l e (headSpec (mk_ws yX9_power cX9_power 6 (some .long)) ({ frames := 0, cells := 0, slots := 0, locals := 0 })).room s m args below meth c D A 6 0 0 (MQ below (mk_Q (some (.long r)) D ([] : va_W) A) args s 0 0 A) 5 ([] : va_W) [(0, .long p0), (2, .int p2), (3, .long v3), (5, .int v5)] [] := by
    intro  n
    induction n with
    | zero => intro v3 v5 hf; exact nomatch (show (none : Option (Int64)) = some _ from hf)
    | succ n ih =>
      intro v3 v5 hf
      rw [f_X_power_5] at hf
      refine mk_iload C 3 dX9_power_5 rfl ?_
      refine mk_iload_n C 1 dX9_power_7 rfl ?_
      refine mk_icmp_ge C 21 dX9_power_8 (by decide) (fun c1 => ?_) (fun c1 => ?_)
      · replace hf := (if_pos c1).symm.trans hf
        refine mk_lload_n C 2 dX9_power_21 rfl ?_
        have e0 := Option.some.inj hf
        exact mk_lret C hr hlk e0 rfl dX9_power_22
      · replace hf := (if_neg c1).symm.trans hf
        refine mk_lload_n C 2 dX9_power_11 rfl ?_
        refine mk_lload_n C 0 dX9_power_12 rfl ?_
        refine mk_lmul C dX9_power_13 ?_
        refine mk_lstore_n C (lv' := [(3, .long (v3 * p0)), (0, .long p0), (2, .int p2), (5, .int v5)]) dX9_power_14 (by decide) rfl ?_
        refine mk_iinc C (v := (v5 + 1)) (lv' := [(5, .int (v5 + 1)), (3, .long (v3 * p0)), (0, .long p0), (2, .int p2)]) 3 dX9_power_15 rfl rfl (by decide) rfl ?_
        refine mk_goto C 5 dX9_power_18 (by decide) ?_
        exact mk_lvsub [2, 3, 1, 0] rfl (ih _ _ hf)
  show mk_Go p l e (headSpec (mk_ws yX9_power cX9_power 6 (some .long)) ({ frames := 0, cells := 0, slots := 0, locals := 0 })).room s m args below meth c D A 6 0 0 (MQ below (mk_Q (some (.long r)) D ([] : va_W) A) args s 0 0 A) 0 ([] : va_W) [(0, .long p0), (2, .int p2)] []
  unfold f_X_power at hf
  refine mk_lconst C (v := 1) dX9_power_0 (by decide) ?_
  refine mk_lstore_n C (lv' := [(3, .long 1), (0, .long p0), (2, .int p2)]) dX9_power_1 (by decide) rfl ?_
  refine mk_iconst C (v := 0) dX9_power_2 (by decide) ?_
  refine mk_istore C (lv' := [(5, .int 0), (3, .long 1), (0, .long p0), (2, .int p2)]) dX9_power_3 (by decide) rfl ?_
  exact mk_lvsub [2, 3, 1, 0] rfl (wL5 600 _ _ hf)
set_option maxHeartbeats 40000000 in
set_option maxRecDepth 100000 in
theorem c_X_means (l : Launch) (D : va_G) (cI cJ : ClassId) (X Y : Nat → Nat) (aX : Nat → Nat) (uX : Nat → Nat → Int32) (uL : Nat → Nat → Int64) (p1 : Int32) (p2 : Int32) (p3 : Int64) (p5 : Int64) (wL : Nat → Nat → Int64) (hf : f_X_means uL p1 p2 p3 p5 = some wL) : mk_Met l yX9_means cX9_means 25 none ({ frames := 103, cells := 0, slots := 0, locals := 2477 }) D [(cI, .int), (cJ, .long)] X Y [.ref (aX 0), .int p1, .int p2, .long p3, .long p5] (wModel aX cI cJ uX uL) (wModel aX cI cJ uX wL) none 0 0 := by
  refine mk_start (own := RX9) (by decide) rfl (Nat.le_of_ble_eq_true rfl) ?_
  intro sz p e s m args below meth c A C hr hlk hnm
  replace C : mk_Cx p s m args c cX9_means 25 RX9 D [(cI, .int), (cJ, .long)] X Y A := C
  have wL95 : ∀ (k3 : Int32 → (Nat → Nat → Int64) → Option ((Nat → Nat → Int64))), (∀ (v7 : Int32) (uL : Nat → Nat → Int64), k3 v7 uL = some wL → mk_Go p l e (headSpec (mk_ws yX9_means cX9_means 25 none) ({ frames := 103, cells := 0, slots := 0, locals := 2477 })).room s m args below meth c D A 25 0 0 (MQ below (mk_Q none D (wModel aX cI cJ uX wL) A) args s 0 0 A) 3 (wModel aX cI cJ uX uL) [(0, .ref (aX 0)), (1, .int p1), (2, .int p2), (3, .long p3), (5, .long p5), (7, .int v7)] []) → ∀ (n : Nat) (v7 : Int32) (v8 : Int64) (v10 : Int64) (v12 : Int64) (v16 : Int64) (v18 : Int64) (v20 : Int32) (uL : Nat → Nat → Int64), f_X_means_95 p1 p2 p3 p5 k3 n v7 v8 v10 v12 v16 v18 v20 uL = some wL → mk_Go p l e (headSpec (mk_ws yX9_means cX9_means 25 none) ({ frames := 103, cells := 0, slots := 0, locals := 2477 })).room s m args below meth c D A 25 0 0 (MQ below (mk_Q none D (wModel aX cI cJ uX wL) A) args s 0 0 A) 95 (wModel aX cI cJ uX uL) [(0, .ref (aX 0)), (1, .int p1), (2, .int p2), (3, .long p3), (5, .long p5), (7, .int v7), (8, .long v8), (10, .long v10), (12, .long v12), (16, .long v16), (18, .long v18), (20, .int v20)] [] := by
    intro k3 hk3 n
    induction n with
    | zero => intro v7 v8 v10 v12 v16 v18 v20 uL hf; exact nomatch (show (none : Option ((Nat → Nat → Int64))) = some _ from hf)
    | succ n ih =>
      intro v7 v8 v10 v12 v16 v18 v20 uL hf
      rw [f_X_means_95] at hf
      refine mk_iload C 11 dX9_means_95 rfl ?_
      refine mk_iload C 5 dX9_means_97 rfl ?_
      refine mk_icmp_ge C 223 dX9_means_99 (by decide) (fun c1 => ?_) (fun c1 => ?_)
      · replace hf := (if_pos c1).symm.trans hf
        refine mk_aload_n C 0 dX9_means_223 rfl ?_
        refine mk_lload C 9 dX9_means_224 rfl ?_
        refine mk_lload C 10 dX9_means_226 rfl ?_
        obtain ⟨uL_2, h3, hf⟩ := b1_some hf
        refine mk_callVv C (c_X_is_ l D cI cJ X Y aX uX uL v16 v18 uL_2 h3) mw_1324 mw_1326 mw_s32 mw_10 mw_1327 mkn_X9_is_ rfl ⟨Nat.le_of_ble_eq_true rfl, Nat.le_of_ble_eq_true rfl⟩ 0 rfl rfl rfl (mk_Fr.all _ _) (Nat.le_of_ble_eq_true rfl) dX9_means_228 rfl ?_
        refine mk_aload_n C 0 dX9_means_231 rfl ?_
        refine mk_lload C 6 dX9_means_232 rfl ?_
        refine mk_lload C 6 dX9_means_234 rfl ?_
        refine mk_lload C 7 dX9_means_236 rfl ?_
        refine mk_lsub C dX9_means_238 ?_
        refine mk_lload C 8 dX9_means_239 rfl ?_
        refine mk_lsub C dX9_means_241 ?_
        obtain ⟨uL_4, h5, hf⟩ := b1_some hf
        refine mk_callVv C (c_X_times l D cI cJ X Y aX uX uL_2 v8 ((v8 - v10) - v12) uL_4 h5) mw_1338 mw_1340 mw_s34 mw_10 mw_1341 mkn_X9_times rfl ⟨Nat.le_of_ble_eq_true rfl, Nat.le_of_ble_eq_true rfl⟩ 0 rfl rfl rfl (mk_Fr.all _ _) (Nat.le_of_ble_eq_true rfl) dX9_means_242 rfl ?_
        refine mk_aload_n C 0 dX9_means_245 rfl ?_
        refine mk_get C mk_inX9 0 rfl rfl 43 (by decide) mw_945 (v := .ref (aX 44)) rfl dX9_means_246 ?_
        refine mk_iload C 5 dX9_means_249 rfl ?_
        refine mk_aload_n C 0 dX9_means_251 rfl ?_
        refine mk_get C mk_inX9 0 rfl rfl 41 (by decide) mw_943 (v := .long (uL_4 41 0)) rfl dX9_means_252 ?_
        obtain ⟨g6, hf⟩ := gI_some hf
        refine mk_last C 19 1 (f := (uL_4 43)) rfl rfl g6 (j := (v7 : Int32).toNatClampNeg) rfl (ws' := (wModel aX cI cJ uX (upR 43 (vp_updL (uL_4 43) (v7 : Int32).toNatClampNeg (uL_4 41 0)) uL_4))) (st_X_X_43 cI cJ aX uX uL_4 (vp_updL (uL_4 43) (v7 : Int32).toNatClampNeg (uL_4 41 0))) dX9_means_255 ?_
        refine mk_aload_n C 0 dX9_means_256 rfl ?_
        refine mk_get C mk_inX9 0 rfl rfl 44 (by decide) mw_946 (v := .ref (aX 45)) rfl dX9_means_257 ?_
        refine mk_iload C 5 dX9_means_260 rfl ?_
        refine mk_aload_n C 0 dX9_means_262 rfl ?_
        refine mk_get C mk_inX9 0 rfl rfl 42 (by decide) mw_944 (v := .long (uL_4 42 0)) rfl dX9_means_263 ?_
        refine mk_last C 20 1 (f := (uL_4 44)) rfl rfl g6 (j := (v7 : Int32).toNatClampNeg) rfl (ws' := (wModel aX cI cJ uX (upR 44 (vp_updL (uL_4 44) (v7 : Int32).toNatClampNeg (uL_4 42 0)) (upR 43 (vp_updL (uL_4 43) (v7 : Int32).toNatClampNeg (uL_4 41 0)) uL_4)))) (st_X_X_44 cI cJ aX uX (upR 43 (vp_updL (uL_4 43) (v7 : Int32).toNatClampNeg (uL_4 41 0)) uL_4) (vp_updL (uL_4 44) (v7 : Int32).toNatClampNeg (uL_4 42 0))) dX9_means_266 ?_
        refine mk_iinc C (v := (v7 + 1)) (lv' := [(7, .int (v7 + 1)), (0, .ref (aX 0)), (1, .int p1), (2, .int p2), (3, .long p3), (5, .long p5), (8, .long v8), (10, .long v10), (12, .long v12), (16, .long v16), (18, .long v18), (20, .int v20)]) 5 dX9_means_267 rfl rfl (by decide) rfl ?_
        refine mk_goto C 3 dX9_means_270 (by decide) ?_
        exact mk_lvsub [1, 2, 3, 4, 5, 0] rfl (hk3 _ _ hf)
      · replace hf := (if_neg c1).symm.trans hf
        refine mk_aload_n C 0 dX9_means_102 rfl ?_
        refine mk_iload C 5 dX9_means_103 rfl ?_
        refine mk_iload C 11 dX9_means_105 rfl ?_
        obtain ⟨r7, h8, hf⟩ := b1_some hf
        refine mk_callSl C (c_X_choose l D cI cJ X Y v7 v20 r7 h8) mw_1321 mw_1322 mw_10 mw_1323 mkn_X9_choose rfl ⟨Nat.le_of_ble_eq_true rfl, Nat.le_of_ble_eq_true rfl⟩ (mk_Fr.nil _) (Nat.le_of_ble_eq_true rfl) dX9_means_107 rfl ?_
        refine mk_lload_n C 3 dX9_means_110 rfl ?_
        refine mk_iload C 11 dX9_means_111 rfl ?_
        obtain ⟨r9, h10, hf⟩ := b1_some hf
        refine mk_callSl C (c_X_power l D cI cJ X Y p3 v20 r9 h10) mw_1318 mw_1319 mw_10 mw_1320 mkn_X9_power rfl ⟨Nat.le_of_ble_eq_true rfl, Nat.le_of_ble_eq_true rfl⟩ (mk_Fr.nil _) (Nat.le_of_ble_eq_true rfl) dX9_means_113 rfl ?_
        refine mk_lmul C dX9_means_116 ?_
        refine mk_lload C 4 dX9_means_117 rfl ?_
        refine mk_lload_n C 3 dX9_means_119 rfl ?_
        refine mk_lsub C dX9_means_120 ?_
        refine mk_iload C 5 dX9_means_121 rfl ?_
        refine mk_iload C 11 dX9_means_123 rfl ?_
        refine mk_isub C dX9_means_125 ?_
        obtain ⟨r11, h12, hf⟩ := b1_some hf
        refine mk_callSl C (c_X_power l D cI cJ X Y (p5 - p3) (v7 - v20) r11 h12) mw_1318 mw_1319 mw_10 mw_1320 mkn_X9_power rfl ⟨Nat.le_of_ble_eq_true rfl, Nat.le_of_ble_eq_true rfl⟩ (mk_Fr.nil _) (Nat.le_of_ble_eq_true rfl) dX9_means_126 rfl ?_
        refine mk_lmul C dX9_means_129 ?_
        refine mk_lload C 6 dX9_means_130 rfl ?_
        obtain ⟨uL_13, h14, hf⟩ := b1_some hf
        refine mk_callVv C (c_X_is_ l D cI cJ X Y aX uX uL ((r7 * r9) * r11) v8 uL_13 h14) mw_1324 mw_1326 mw_s32 mw_10 mw_1327 mkn_X9_is_ rfl ⟨Nat.le_of_ble_eq_true rfl, Nat.le_of_ble_eq_true rfl⟩ 0 rfl rfl rfl (mk_Fr.all _ _) (Nat.le_of_ble_eq_true rfl) dX9_means_132 rfl ?_
        refine mk_aload_n C 0 dX9_means_135 rfl ?_
        refine mk_get C mk_inX9 0 rfl rfl 41 (by decide) mw_943 (v := .long (uL_13 41 0)) rfl dX9_means_136 ?_
        refine mk_lstore C (lv' := [(21, .long (uL_13 41 0)), (0, .ref (aX 0)), (1, .int p1), (2, .int p2), (3, .long p3), (5, .long p5), (7, .int v7), (8, .long v8), (10, .long v10), (12, .long v12), (16, .long v16), (18, .long v18), (20, .int v20)]) dX9_means_139 (by decide) rfl ?_
        refine mk_aload_n C 1 dX9_means_141 rfl ?_
        refine mk_get C mk_inX9 0 rfl rfl 42 (by decide) mw_944 (v := .long (uL_13 42 0)) rfl dX9_means_142 ?_
        refine mk_lstore C (lv' := [(23, .long (uL_13 42 0)), (21, .long (uL_13 41 0)), (0, .ref (aX 0)), (1, .int p1), (2, .int p2), (3, .long p3), (5, .long p5), (7, .int v7), (8, .long v8), (10, .long v10), (12, .long v12), (16, .long v16), (18, .long v18), (20, .int v20)]) dX9_means_145 (by decide) rfl ?_
        refine mk_aload_n C 2 dX9_means_147 rfl ?_
        refine mk_aload_n C 2 dX9_means_148 rfl ?_
        refine mk_get C mk_inX9 0 rfl rfl 43 (by decide) mw_945 (v := .ref (aX 44)) rfl dX9_means_149 ?_
        refine mk_iload C 13 dX9_means_152 rfl ?_
        obtain ⟨g15, hf⟩ := gI_some hf
        refine mk_lald C 19 1 (f := (uL_13 43)) rfl rfl g15 (j := (v20 : Int32).toNatClampNeg) rfl dX9_means_154 ?_
        refine mk_aload_n C 2 dX9_means_155 rfl ?_
        refine mk_get C mk_inX9 0 rfl rfl 44 (by decide) mw_946 (v := .ref (aX 45)) rfl dX9_means_156 ?_
        refine mk_iload C 13 dX9_means_159 rfl ?_
        refine mk_lald C 20 1 (f := (uL_13 44)) rfl rfl g15 (j := (v20 : Int32).toNatClampNeg) rfl dX9_means_161 ?_
        obtain ⟨uL_16, h17, hf⟩ := b1_some hf
        refine mk_callVv C (c_X_is_ l D cI cJ X Y aX uX uL_13 ((uL_13 43) (v20 : Int32).toNatClampNeg) ((uL_13 44) (v20 : Int32).toNatClampNeg) uL_16 h17) mw_1324 mw_1326 mw_s32 mw_10 mw_1327 mkn_X9_is_ rfl ⟨Nat.le_of_ble_eq_true rfl, Nat.le_of_ble_eq_true rfl⟩ 0 rfl rfl rfl (mk_Fr.all _ _) (Nat.le_of_ble_eq_true rfl) dX9_means_162 rfl ?_
        refine mk_aload_n C 2 dX9_means_165 rfl ?_
        refine mk_aload_n C 2 dX9_means_166 rfl ?_
        refine mk_get C mk_inX9 0 rfl rfl 43 (by decide) mw_945 (v := .ref (aX 44)) rfl dX9_means_167 ?_
        refine mk_iload C 7 dX9_means_170 rfl ?_
        refine mk_iload C 13 dX9_means_172 rfl ?_
        refine mk_isub C dX9_means_174 ?_
        obtain ⟨g18, hf⟩ := gI_some hf
        refine mk_lald C 19 1 (f := (uL_16 43)) rfl rfl g18 (j := ((v7 - v20) : Int32).toNatClampNeg) rfl dX9_means_175 ?_
        refine mk_aload_n C 2 dX9_means_176 rfl ?_
        refine mk_get C mk_inX9 0 rfl rfl 44 (by decide) mw_946 (v := .ref (aX 45)) rfl dX9_means_177 ?_
        refine mk_iload C 7 dX9_means_180 rfl ?_
        refine mk_iload C 13 dX9_means_182 rfl ?_
        refine mk_isub C dX9_means_184 ?_
        refine mk_lald C 20 1 (f := (uL_16 44)) rfl rfl g18 (j := ((v7 - v20) : Int32).toNatClampNeg) rfl dX9_means_185 ?_
        obtain ⟨uL_19, h20, hf⟩ := b1_some hf
        refine mk_callVv C (c_X_adds l D cI cJ X Y aX uX uL_16 ((uL_16 43) ((v7 - v20) : Int32).toNatClampNeg) ((uL_16 44) ((v7 - v20) : Int32).toNatClampNeg) uL_19 h20) mw_1334 mw_1336 mw_s33 mw_10 mw_1337 mkn_X9_adds rfl ⟨Nat.le_of_ble_eq_true rfl, Nat.le_of_ble_eq_true rfl⟩ 0 rfl rfl rfl (mk_Fr.all _ _) (Nat.le_of_ble_eq_true rfl) dX9_means_186 rfl ?_
        refine mk_aload_n C 2 dX9_means_189 rfl ?_
        refine mk_lload C 1 dX9_means_190 rfl ?_
        refine mk_lload C 0 dX9_means_192 rfl ?_
        obtain ⟨uL_21, h22, hf⟩ := b1_some hf
        refine mk_callVv C (c_X_times l D cI cJ X Y aX uX uL_19 (uL_13 41 0) (uL_13 42 0) uL_21 h22) mw_1338 mw_1340 mw_s34 mw_10 mw_1341 mkn_X9_times rfl ⟨Nat.le_of_ble_eq_true rfl, Nat.le_of_ble_eq_true rfl⟩ 0 rfl rfl rfl (mk_Fr.all _ _) (Nat.le_of_ble_eq_true rfl) dX9_means_194 rfl ?_
        refine mk_aload_n C 2 dX9_means_197 rfl ?_
        refine mk_lload C 11 dX9_means_198 rfl ?_
        refine mk_lload C 12 dX9_means_200 rfl ?_
        obtain ⟨uL_23, h24, hf⟩ := b1_some hf
        refine mk_callVv C (c_X_adds l D cI cJ X Y aX uX uL_21 v16 v18 uL_23 h24) mw_1334 mw_1336 mw_s33 mw_10 mw_1337 mkn_X9_adds rfl ⟨Nat.le_of_ble_eq_true rfl, Nat.le_of_ble_eq_true rfl⟩ 0 rfl rfl rfl (mk_Fr.all _ _) (Nat.le_of_ble_eq_true rfl) dX9_means_202 rfl ?_
        refine mk_aload_n C 2 dX9_means_205 rfl ?_
        refine mk_get C mk_inX9 0 rfl rfl 41 (by decide) mw_943 (v := .long (uL_23 41 0)) rfl dX9_means_206 ?_
        refine mk_lstore C (lv' := [(16, .long (uL_23 41 0)), (23, .long (uL_13 42 0)), (21, .long (uL_13 41 0)), (0, .ref (aX 0)), (1, .int p1), (2, .int p2), (3, .long p3), (5, .long p5), (7, .int v7), (8, .long v8), (10, .long v10), (12, .long v12), (18, .long v18), (20, .int v20)]) dX9_means_209 (by decide) rfl ?_
        refine mk_aload_n C 3 dX9_means_211 rfl ?_
        refine mk_get C mk_inX9 0 rfl rfl 42 (by decide) mw_944 (v := .long (uL_23 42 0)) rfl dX9_means_212 ?_
        refine mk_lstore C (lv' := [(18, .long (uL_23 42 0)), (16, .long (uL_23 41 0)), (23, .long (uL_13 42 0)), (21, .long (uL_13 41 0)), (0, .ref (aX 0)), (1, .int p1), (2, .int p2), (3, .long p3), (5, .long p5), (7, .int v7), (8, .long v8), (10, .long v10), (12, .long v12), (20, .int v20)]) dX9_means_215 (by decide) rfl ?_
        refine mk_iinc C (v := (v20 + 1)) (lv' := [(20, .int (v20 + 1)), (18, .long (uL_23 42 0)), (16, .long (uL_23 41 0)), (23, .long (uL_13 42 0)), (21, .long (uL_13 41 0)), (0, .ref (aX 0)), (1, .int p1), (2, .int p2), (3, .long p3), (5, .long p5), (7, .int v7), (8, .long v8), (10, .long v10), (12, .long v12)]) 13 dX9_means_217 rfl rfl (by decide) rfl ?_
        refine mk_goto C 95 dX9_means_220 (by decide) ?_
        exact mk_lvsub [5, 6, 7, 8, 9, 10, 11, 12, 13, 2, 1, 0] rfl (ih _ _ _ _ _ _ _ _ hf)
  have wL3 : ∀ (n : Nat) (v7 : Int32) (uL : Nat → Nat → Int64), f_X_means_3 p1 p2 p3 p5 n v7 uL = some wL → mk_Go p l e (headSpec (mk_ws yX9_means cX9_means 25 none) ({ frames := 103, cells := 0, slots := 0, locals := 2477 })).room s m args below meth c D A 25 0 0 (MQ below (mk_Q none D (wModel aX cI cJ uX wL) A) args s 0 0 A) 3 (wModel aX cI cJ uX uL) [(0, .ref (aX 0)), (1, .int p1), (2, .int p2), (3, .long p3), (5, .long p5), (7, .int v7)] [] := by
    intro  n
    induction n with
    | zero => intro v7 uL hf; exact nomatch (show (none : Option ((Nat → Nat → Int64))) = some _ from hf)
    | succ n ih =>
      intro v7 uL hf
      rw [f_X_means_3] at hf
      refine mk_iload C 5 dX9_means_3 rfl ?_
      refine mk_iload_n C 2 dX9_means_5 rfl ?_
      refine mk_icmp_gt C 273 dX9_means_6 (by decide) (fun c25 => ?_) (fun c25 => ?_)
      · replace hf := (if_pos c25).symm.trans hf
        have e0 := Option.some.inj hf
        exact mk_vret C hr hlk (by rw [← e0]) dX9_means_273
      · replace hf := (if_neg c25).symm.trans hf
        refine mk_iload C 5 dX9_means_9 rfl ?_
        refine mk_iconst C (v := 2) dX9_means_11 (by decide) ?_
        refine mk_icmp_ge C 34 dX9_means_12 (by decide) (fun c26 => ?_) (fun c26 => ?_)
        · replace hf := (if_pos c26).symm.trans hf
          refine mk_lload C 4 dX9_means_34 rfl ?_
          refine mk_iload C 5 dX9_means_36 rfl ?_
          obtain ⟨r27, h28, hf⟩ := b1_some hf
          refine mk_callSl C (c_X_power l D cI cJ X Y p5 v7 r27 h28) mw_1318 mw_1319 mw_10 mw_1320 mkn_X9_power rfl ⟨Nat.le_of_ble_eq_true rfl, Nat.le_of_ble_eq_true rfl⟩ (mk_Fr.nil _) (Nat.le_of_ble_eq_true rfl) dX9_means_38 rfl ?_
          refine mk_lstore C (lv' := [(8, .long r27), (0, .ref (aX 0)), (1, .int p1), (2, .int p2), (3, .long p3), (5, .long p5), (7, .int v7)]) dX9_means_41 (by decide) rfl ?_
          refine mk_lload_n C 4 dX9_means_43 rfl ?_
          refine mk_iload C 6 dX9_means_44 rfl ?_
          obtain ⟨r29, h30, hf⟩ := b1_some hf
          refine mk_callSl C (c_X_power l D cI cJ X Y p3 v7 r29 h30) mw_1318 mw_1319 mw_10 mw_1320 mkn_X9_power rfl ⟨Nat.le_of_ble_eq_true rfl, Nat.le_of_ble_eq_true rfl⟩ (mk_Fr.nil _) (Nat.le_of_ble_eq_true rfl) dX9_means_46 rfl ?_
          refine mk_lstore C (lv' := [(10, .long r29), (8, .long r27), (0, .ref (aX 0)), (1, .int p1), (2, .int p2), (3, .long p3), (5, .long p5), (7, .int v7)]) dX9_means_49 (by decide) rfl ?_
          refine mk_lload C 6 dX9_means_51 rfl ?_
          refine mk_lload_n C 5 dX9_means_53 rfl ?_
          refine mk_lsub C dX9_means_54 ?_
          refine mk_iload C 7 dX9_means_55 rfl ?_
          obtain ⟨r31, h32, hf⟩ := b1_some hf
          refine mk_callSl C (c_X_power l D cI cJ X Y (p5 - p3) v7 r31 h32) mw_1318 mw_1319 mw_10 mw_1320 mkn_X9_power rfl ⟨Nat.le_of_ble_eq_true rfl, Nat.le_of_ble_eq_true rfl⟩ (mk_Fr.nil _) (Nat.le_of_ble_eq_true rfl) dX9_means_57 rfl ?_
          refine mk_lstore C (lv' := [(12, .long r31), (10, .long r29), (8, .long r27), (0, .ref (aX 0)), (1, .int p1), (2, .int p2), (3, .long p3), (5, .long p5), (7, .int v7)]) dX9_means_60 (by decide) rfl ?_
          refine mk_lload C 2 dX9_means_62 rfl ?_
          refine mk_lload C 1 dX9_means_64 rfl ?_
          refine mk_ladd C dX9_means_66 ?_
          refine mk_lload C 0 dX9_means_67 rfl ?_
          refine mk_ladd C dX9_means_69 ?_
          refine mk_iload_n C 4 dX9_means_70 rfl ?_
          refine mk_iconst C (v := 1) dX9_means_71 (by decide) ?_
          refine mk_icmp_ne C 80 dX9_means_72 (by decide) (fun c33 => ?_) (fun c33 => ?_)
          · replace hf := (if_neg c33).symm.trans hf
            refine mk_lconst C (v := 0) dX9_means_80 (by decide) ?_
            refine mk_lsub C dX9_means_81 ?_
            refine mk_lstore C (lv' := [(14, .long (((r27 + r29) + r31) - 0)), (12, .long r31), (10, .long r29), (8, .long r27), (0, .ref (aX 0)), (1, .int p1), (2, .int p2), (3, .long p3), (5, .long p5), (7, .int v7)]) dX9_means_82 (by decide) rfl ?_
            refine mk_lload C 0 dX9_means_84 rfl ?_
            refine mk_lstore C (lv' := [(16, .long (((r27 + r29) + r31) - 0)), (14, .long (((r27 + r29) + r31) - 0)), (12, .long r31), (10, .long r29), (8, .long r27), (0, .ref (aX 0)), (1, .int p1), (2, .int p2), (3, .long p3), (5, .long p5), (7, .int v7)]) dX9_means_86 (by decide) rfl ?_
            refine mk_lload C 4 dX9_means_88 rfl ?_
            refine mk_lstore C (lv' := [(18, .long r27), (16, .long (((r27 + r29) + r31) - 0)), (14, .long (((r27 + r29) + r31) - 0)), (12, .long r31), (10, .long r29), (8, .long r27), (0, .ref (aX 0)), (1, .int p1), (2, .int p2), (3, .long p3), (5, .long p5), (7, .int v7)]) dX9_means_90 (by decide) rfl ?_
            refine mk_iconst C (v := 1) dX9_means_92 (by decide) ?_
            refine mk_istore C (lv' := [(20, .int 1), (18, .long r27), (16, .long (((r27 + r29) + r31) - 0)), (14, .long (((r27 + r29) + r31) - 0)), (12, .long r31), (10, .long r29), (8, .long r27), (0, .ref (aX 0)), (1, .int p1), (2, .int p2), (3, .long p3), (5, .long p5), (7, .int v7)]) dX9_means_93 (by decide) rfl ?_
            exact mk_lvsub [7, 8, 9, 10, 11, 12, 6, 5, 4, 2, 1, 0] rfl (wL95 _ ih 600 _ _ _ _ _ _ _ _ hf)
          · replace hf := (if_pos c33).symm.trans hf
            refine mk_lload C 0 dX9_means_75 rfl ?_
            refine mk_goto C 81 dX9_means_77 (by decide) ?_
            refine mk_lsub C dX9_means_81 ?_
            refine mk_lstore C (lv' := [(14, .long (((r27 + r29) + r31) - r31)), (12, .long r31), (10, .long r29), (8, .long r27), (0, .ref (aX 0)), (1, .int p1), (2, .int p2), (3, .long p3), (5, .long p5), (7, .int v7)]) dX9_means_82 (by decide) rfl ?_
            refine mk_lload C 0 dX9_means_84 rfl ?_
            refine mk_lstore C (lv' := [(16, .long (((r27 + r29) + r31) - r31)), (14, .long (((r27 + r29) + r31) - r31)), (12, .long r31), (10, .long r29), (8, .long r27), (0, .ref (aX 0)), (1, .int p1), (2, .int p2), (3, .long p3), (5, .long p5), (7, .int v7)]) dX9_means_86 (by decide) rfl ?_
            refine mk_lload C 4 dX9_means_88 rfl ?_
            refine mk_lstore C (lv' := [(18, .long r27), (16, .long (((r27 + r29) + r31) - r31)), (14, .long (((r27 + r29) + r31) - r31)), (12, .long r31), (10, .long r29), (8, .long r27), (0, .ref (aX 0)), (1, .int p1), (2, .int p2), (3, .long p3), (5, .long p5), (7, .int v7)]) dX9_means_90 (by decide) rfl ?_
            refine mk_iconst C (v := 1) dX9_means_92 (by decide) ?_
            refine mk_istore C (lv' := [(20, .int 1), (18, .long r27), (16, .long (((r27 + r29) + r31) - r31)), (14, .long (((r27 + r29) + r31) - r31)), (12, .long r31), (10, .long r29), (8, .long r27), (0, .ref (aX 0)), (1, .int p1), (2, .int p2), (3, .long p3), (5, .long p5), (7, .int v7)]) dX9_means_93 (by decide) rfl ?_
            exact mk_lvsub [7, 8, 9, 10, 11, 12, 6, 5, 4, 2, 1, 0] rfl (wL95 _ ih 600 _ _ _ _ _ _ _ _ hf)
        · replace hf := (if_neg c26).symm.trans hf
          refine mk_aload_n C 0 dX9_means_15 rfl ?_
          refine mk_get C mk_inX9 0 rfl rfl 43 (by decide) mw_945 (v := .ref (aX 44)) rfl dX9_means_16 ?_
          refine mk_iload C 5 dX9_means_19 rfl ?_
          refine mk_lconst C (v := 1) dX9_means_21 (by decide) ?_
          obtain ⟨g34, hf⟩ := gI_some hf
          refine mk_last C 19 1 (f := (uL 43)) rfl rfl g34 (j := (v7 : Int32).toNatClampNeg) rfl (ws' := (wModel aX cI cJ uX (upR 43 (vp_updL (uL 43) (v7 : Int32).toNatClampNeg 1) uL))) (st_X_X_43 cI cJ aX uX uL (vp_updL (uL 43) (v7 : Int32).toNatClampNeg 1)) dX9_means_22 ?_
          refine mk_aload_n C 0 dX9_means_23 rfl ?_
          refine mk_get C mk_inX9 0 rfl rfl 44 (by decide) mw_946 (v := .ref (aX 45)) rfl dX9_means_24 ?_
          refine mk_iload C 5 dX9_means_27 rfl ?_
          refine mk_lconst C (v := 1) dX9_means_29 (by decide) ?_
          refine mk_last C 20 1 (f := (uL 44)) rfl rfl g34 (j := (v7 : Int32).toNatClampNeg) rfl (ws' := (wModel aX cI cJ uX (upR 44 (vp_updL (uL 44) (v7 : Int32).toNatClampNeg 1) (upR 43 (vp_updL (uL 43) (v7 : Int32).toNatClampNeg 1) uL)))) (st_X_X_44 cI cJ aX uX (upR 43 (vp_updL (uL 43) (v7 : Int32).toNatClampNeg 1) uL) (vp_updL (uL 44) (v7 : Int32).toNatClampNeg 1)) dX9_means_30 ?_
          refine mk_goto C 267 dX9_means_31 (by decide) ?_
          refine mk_iinc C (v := (v7 + 1)) (lv' := [(7, .int (v7 + 1)), (0, .ref (aX 0)), (1, .int p1), (2, .int p2), (3, .long p3), (5, .long p5)]) 5 dX9_means_267 rfl rfl (by decide) rfl ?_
          refine mk_goto C 3 dX9_means_270 (by decide) ?_
          exact mk_lvsub [1, 2, 3, 4, 5, 0] rfl (ih _ _ hf)
  show mk_Go p l e (headSpec (mk_ws yX9_means cX9_means 25 none) ({ frames := 103, cells := 0, slots := 0, locals := 2477 })).room s m args below meth c D A 25 0 0 (MQ below (mk_Q none D (wModel aX cI cJ uX wL) A) args s 0 0 A) 0 (wModel aX cI cJ uX uL) [(0, .ref (aX 0)), (1, .int p1), (2, .int p2), (3, .long p3), (5, .long p5)] []
  unfold f_X_means at hf
  refine mk_iconst C (v := 0) dX9_means_0 (by decide) ?_
  refine mk_istore C (lv' := [(7, .int 0), (0, .ref (aX 0)), (1, .int p1), (2, .int p2), (3, .long p3), (5, .long p5)]) dX9_means_1 (by decide) rfl ?_
  exact mk_lvsub [1, 2, 3, 4, 5, 0] rfl (wL3 600 _ _ hf)
set_option maxHeartbeats 40000000 in
set_option maxRecDepth 100000 in
theorem c_X_isMean (l : Launch) (D : va_G) (cI cJ : ClassId) (X Y : Nat → Nat) (p0 : Int32) (p1 : Int32) (p2 : Int32) (p3 : Int32) (r : Int32) (hf : f_X_isMean p0 p1 p2 p3 = some r) : mk_Met l yX9_isMean cX9_isMean 4 (some .boolean) ({ frames := 1, cells := 0, slots := 0, locals := 25 }) D [(cI, .int), (cJ, .long)] X Y [.int p0, .int p1, .int p2, .int p3] ([] : va_W) ([] : va_W) (some (.int r)) 0 0 := by
  refine mk_start (own := RX9) (by decide) rfl (Nat.le_of_ble_eq_true rfl) ?_
  intro sz p e s m args below meth c A C hr hlk hnm
  replace C : mk_Cx p s m args c cX9_isMean 4 RX9 D [(cI, .int), (cJ, .long)] X Y A := C
  show mk_Go p l e (headSpec (mk_ws yX9_isMean cX9_isMean 4 (some .boolean)) ({ frames := 1, cells := 0, slots := 0, locals := 25 })).room s m args below meth c D A 4 0 0 (MQ below (mk_Q (some (.int r)) D ([] : va_W) A) args s 0 0 A) 0 ([] : va_W) [(0, .int p0), (1, .int p1), (2, .int p2), (3, .int p3)] []
  unfold f_X_isMean at hf
  refine mk_iload_n C 0 dX9_isMean_0 rfl ?_
  refine mk_i2l C dX9_isMean_1 ?_
  refine mk_lconst C (v := 0) dX9_isMean_2 (by decide) ?_
  refine mk_lconst C (v := 1) dX9_isMean_3 (by decide) ?_
  obtain ⟨r1, h2, hf⟩ := b1_some hf
  refine mk_callSi C (c_X_in l D cI cJ X Y ((p0 : Int32).toInt64) 0 1 r1 h2) mw_1052 mw_1053 mw_10 mw_1054 mkn_X9_in rfl ⟨Nat.le_of_ble_eq_true rfl, Nat.le_of_ble_eq_true rfl⟩ (mk_Fr.nil _) (Nat.le_of_ble_eq_true rfl) dX9_isMean_4 rfl ?_
  refine mk_if_eq C 35 dX9_isMean_7 (by decide) (fun c3 => ?_) (fun c3 => ?_)
  · replace hf := (if_pos c3).symm.trans hf
    refine mk_iconst C (v := 0) dX9_isMean_35 (by decide) ?_
    have e0 := Option.some.inj hf
    exact mk_zret C hr hlk rfl e0 rfl dX9_isMean_36
  · replace hf := (if_neg c3).symm.trans hf
    refine mk_iload_n C 1 dX9_isMean_10 rfl ?_
    refine mk_i2l C dX9_isMean_11 ?_
    refine mk_lconst C (v := 0) dX9_isMean_12 (by decide) ?_
    refine mk_iload_n C 2 dX9_isMean_13 rfl ?_
    refine mk_i2l C dX9_isMean_14 ?_
    obtain ⟨r4, h5, hf⟩ := b1_some hf
    refine mk_callSi C (c_X_in l D cI cJ X Y ((p1 : Int32).toInt64) 0 ((p2 : Int32).toInt64) r4 h5) mw_1052 mw_1053 mw_10 mw_1054 mkn_X9_in rfl ⟨Nat.le_of_ble_eq_true rfl, Nat.le_of_ble_eq_true rfl⟩ (mk_Fr.nil _) (Nat.le_of_ble_eq_true rfl) dX9_isMean_15 rfl ?_
    refine mk_if_eq C 35 dX9_isMean_18 (by decide) (fun c6 => ?_) (fun c6 => ?_)
    · replace hf := (if_pos c6).symm.trans hf
      refine mk_iconst C (v := 0) dX9_isMean_35 (by decide) ?_
      have e0 := Option.some.inj hf
      exact mk_zret C hr hlk rfl e0 rfl dX9_isMean_36
    · replace hf := (if_neg c6).symm.trans hf
      refine mk_iload_n C 3 dX9_isMean_21 rfl ?_
      refine mk_i2l C dX9_isMean_22 ?_
      refine mk_lconst C (v := 0) dX9_isMean_23 (by decide) ?_
      refine mk_lconst C (v := 1) dX9_isMean_24 (by decide) ?_
      obtain ⟨r7, h8, hf⟩ := b1_some hf
      refine mk_callSi C (c_X_in l D cI cJ X Y ((p3 : Int32).toInt64) 0 1 r7 h8) mw_1052 mw_1053 mw_10 mw_1054 mkn_X9_in rfl ⟨Nat.le_of_ble_eq_true rfl, Nat.le_of_ble_eq_true rfl⟩ (mk_Fr.nil _) (Nat.le_of_ble_eq_true rfl) dX9_isMean_25 rfl ?_
      refine mk_if_eq C 35 dX9_isMean_28 (by decide) (fun c9 => ?_) (fun c9 => ?_)
      · replace hf := (if_pos c9).symm.trans hf
        refine mk_iconst C (v := 0) dX9_isMean_35 (by decide) ?_
        have e0 := Option.some.inj hf
        exact mk_zret C hr hlk rfl e0 rfl dX9_isMean_36
      · replace hf := (if_neg c9).symm.trans hf
        refine mk_iconst C (v := 1) dX9_isMean_31 (by decide) ?_
        refine mk_goto C 36 dX9_isMean_32 (by decide) ?_
        have e0 := Option.some.inj hf
        exact mk_zret C hr hlk rfl e0 rfl dX9_isMean_36
