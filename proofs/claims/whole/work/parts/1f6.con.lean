set_option maxHeartbeats 40000000 in
set_option maxRecDepth 100000 in
theorem c_X_mean (l : Launch) (D : va_G) (cI cJ : ClassId) (X Y : Nat → Nat) (aX : Nat → Nat) (uX : Nat → Nat → Int32) (uL : Nat → Nat → Int64) (p1 : Int32) (p2 : Int32) (p3 : Int32) (r : Int64) (wL : Nat → Nat → Int64) (hf : f_X_mean uL p1 p2 p3 = some (r, wL)) : mk_Met l yX9_mean cX9_mean 4 (some .long) ({ frames := 104, cells := 0, slots := 0, locals := 2521 }) D [(cI, .int), (cJ, .long)] X Y [.ref (aX 0), .int p1, .int p2, .int p3] (wModel aX cI cJ uX uL) (wModel aX cI cJ uX wL) (some (.long r)) 0 0 := by
  refine mk_start (own := RX9) (by decide) rfl (Nat.le_of_ble_eq_true rfl) ?_
  intro sz p e s m args below meth c A C hr hlk hnm
  replace C : mk_Cx p s m args c cX9_mean 4 RX9 D [(cI, .int), (cJ, .long)] X Y A := C
  show mk_Go p l e (headSpec (mk_ws yX9_mean cX9_mean 4 (some .long)) ({ frames := 104, cells := 0, slots := 0, locals := 2521 })).room s m args below meth c D A 4 0 0 (MQ below (mk_Q (some (.long r)) D (wModel aX cI cJ uX wL) A) args s 0 0 A) 0 (wModel aX cI cJ uX uL) [(0, .ref (aX 0)), (1, .int p1), (2, .int p2), (3, .int p3)] []
  unfold f_X_mean at hf
  refine mk_iload_n C 1 dX9_mean_0 rfl ?_
  refine mk_iload_n C 2 dX9_mean_1 rfl ?_
  refine mk_bipush C (v := 8) dX9_mean_2 (by decide) ?_
  refine mk_iload_n C 3 dX9_mean_4 rfl ?_
  obtain ⟨r1, h2, hf⟩ := b1_some hf
  refine mk_callSi C (c_X_isMean l D cI cJ X Y p1 p2 8 p3 r1 h2) mw_1310 mw_1311 mw_10 mw_1312 mkn_X9_isMean rfl ⟨Nat.le_of_ble_eq_true rfl, Nat.le_of_ble_eq_true rfl⟩ (mk_Fr.nil _) (Nat.le_of_ble_eq_true rfl) dX9_mean_5 rfl ?_
  refine mk_if_ne C 15 dX9_mean_8 (by decide) (fun c3 => ?_) (fun c3 => ?_)
  · replace hf := (if_neg c3).symm.trans hf
    refine mk_aload_n C 0 dX9_mean_15 rfl ?_
    refine mk_iload_n C 1 dX9_mean_16 rfl ?_
    refine mk_iload_n C 2 dX9_mean_17 rfl ?_
    refine mk_lconst C (v := 1) dX9_mean_18 (by decide) ?_
    refine mk_ldc2 C (v := 2) mw_1252 dX9_mean_19 ?_
    obtain ⟨uL_4, h5, hf⟩ := b1_some hf
    refine mk_callVv C (c_X_means l D cI cJ X Y aX uX uL p1 p2 1 2 uL_4 h5) mw_1314 mw_1316 mw_s31 mw_10 mw_1317 mkn_X9_means rfl ⟨Nat.le_of_ble_eq_true rfl, Nat.le_of_ble_eq_true rfl⟩ 0 rfl rfl rfl (mk_Fr.all _ _) (Nat.le_of_ble_eq_true rfl) dX9_mean_22 rfl ?_
    refine mk_iload_n C 3 dX9_mean_25 rfl ?_
    refine mk_if_ne C 38 dX9_mean_26 (by decide) (fun c6 => ?_) (fun c6 => ?_)
    · replace hf := (if_neg c6).symm.trans hf
      refine mk_aload_n C 0 dX9_mean_38 rfl ?_
      refine mk_get C mk_inX9 0 rfl rfl 44 (by decide) mw_946 (v := .ref (aX 45)) rfl dX9_mean_39 ?_
      refine mk_iload_n C 2 dX9_mean_42 rfl ?_
      obtain ⟨g7, hf⟩ := gI_some hf
      refine mk_lald C 20 1 (f := (uL_4 44)) rfl rfl g7 (j := (p2 : Int32).toNatClampNeg) rfl dX9_mean_43 ?_
      have e := Option.some.inj hf
      obtain ⟨e0, e1⟩ := Prod.mk.inj e
      exact mk_lret C hr hlk e0 (by rw [← e1]) dX9_mean_44
    · replace hf := (if_pos c6).symm.trans hf
      refine mk_aload_n C 0 dX9_mean_29 rfl ?_
      refine mk_get C mk_inX9 0 rfl rfl 43 (by decide) mw_945 (v := .ref (aX 44)) rfl dX9_mean_30 ?_
      refine mk_iload_n C 2 dX9_mean_33 rfl ?_
      obtain ⟨g8, hf⟩ := gI_some hf
      refine mk_lald C 19 1 (f := (uL_4 43)) rfl rfl g8 (j := (p2 : Int32).toNatClampNeg) rfl dX9_mean_34 ?_
      refine mk_goto C 44 dX9_mean_35 (by decide) ?_
      have e := Option.some.inj hf
      obtain ⟨e0, e1⟩ := Prod.mk.inj e
      exact mk_lret C hr hlk e0 (by rw [← e1]) dX9_mean_44
  · replace hf := (if_pos c3).symm.trans hf
    refine mk_ldc2 C (v := (-2)) mw_1313 dX9_mean_11 ?_
    have e := Option.some.inj hf
    obtain ⟨e0, e1⟩ := Prod.mk.inj e
    exact mk_lret C hr hlk e0 (by rw [← e1]) dX9_mean_14
set_option maxHeartbeats 40000000 in
set_option maxRecDepth 100000 in
theorem c_X_leaning (l : Launch) (D : va_G) (cI cJ : ClassId) (X Y : Nat → Nat) (aX : Nat → Nat) (uX : Nat → Nat → Int32) (uL : Nat → Nat → Int64) (p1 : Int32) (p2 : Int32) (p3 : Int32) (p4 : Int32) (p5 : Int32) (r : Int64) (wL : Nat → Nat → Int64) (hf : f_X_leaning uL p1 p2 p3 p4 p5 = some (r, wL)) : mk_Met l yX9_leaning cX9_leaning 6 (some .long) ({ frames := 104, cells := 0, slots := 0, locals := 2521 }) D [(cI, .int), (cJ, .long)] X Y [.ref (aX 0), .int p1, .int p2, .int p3, .int p4, .int p5] (wModel aX cI cJ uX uL) (wModel aX cI cJ uX wL) (some (.long r)) 0 0 := by
  refine mk_start (own := RX9) (by decide) rfl (Nat.le_of_ble_eq_true rfl) ?_
  intro sz p e s m args below meth c A C hr hlk hnm
  replace C : mk_Cx p s m args c cX9_leaning 6 RX9 D [(cI, .int), (cJ, .long)] X Y A := C
  show mk_Go p l e (headSpec (mk_ws yX9_leaning cX9_leaning 6 (some .long)) ({ frames := 104, cells := 0, slots := 0, locals := 2521 })).room s m args below meth c D A 6 0 0 (MQ below (mk_Q (some (.long r)) D (wModel aX cI cJ uX wL) A) args s 0 0 A) 0 (wModel aX cI cJ uX uL) [(0, .ref (aX 0)), (1, .int p1), (2, .int p2), (3, .int p3), (4, .int p4), (5, .int p5)] []
  unfold f_X_leaning at hf
  refine mk_iload_n C 1 dX9_leaning_0 rfl ?_
  refine mk_iload_n C 2 dX9_leaning_1 rfl ?_
  refine mk_iconst C (v := 5) dX9_leaning_2 (by decide) ?_
  refine mk_iload C 5 dX9_leaning_3 rfl ?_
  obtain ⟨r1, h2, hf⟩ := b1_some hf
  refine mk_callSi C (c_X_isMean l D cI cJ X Y p1 p2 5 p5 r1 h2) mw_1310 mw_1311 mw_10 mw_1312 mkn_X9_isMean rfl ⟨Nat.le_of_ble_eq_true rfl, Nat.le_of_ble_eq_true rfl⟩ (mk_Fr.nil _) (Nat.le_of_ble_eq_true rfl) dX9_leaning_5 rfl ?_
  refine mk_if_eq C 39 dX9_leaning_8 (by decide) (fun c3 => ?_) (fun c3 => ?_)
  · replace hf := (if_pos c3).symm.trans hf
    refine mk_ldc2 C (v := (-2)) mw_1313 dX9_leaning_39 ?_
    have e := Option.some.inj hf
    obtain ⟨e0, e1⟩ := Prod.mk.inj e
    exact mk_lret C hr hlk e0 (by rw [← e1]) dX9_leaning_42
  · replace hf := (if_neg c3).symm.trans hf
    refine mk_iload_n C 3 dX9_leaning_11 rfl ?_
    refine mk_i2l C dX9_leaning_12 ?_
    refine mk_lconst C (v := 1) dX9_leaning_13 (by decide) ?_
    refine mk_ldc2 C (v := 4) mw_1157 dX9_leaning_14 ?_
    obtain ⟨r4, h5, hf⟩ := b1_some hf
    refine mk_callSi C (c_X_in l D cI cJ X Y ((p3 : Int32).toInt64) 1 4 r4 h5) mw_1052 mw_1053 mw_10 mw_1054 mkn_X9_in rfl ⟨Nat.le_of_ble_eq_true rfl, Nat.le_of_ble_eq_true rfl⟩ (mk_Fr.nil _) (Nat.le_of_ble_eq_true rfl) dX9_leaning_17 rfl ?_
    refine mk_if_eq C 39 dX9_leaning_20 (by decide) (fun c6 => ?_) (fun c6 => ?_)
    · replace hf := (if_pos c6).symm.trans hf
      refine mk_ldc2 C (v := (-2)) mw_1313 dX9_leaning_39 ?_
      have e := Option.some.inj hf
      obtain ⟨e0, e1⟩ := Prod.mk.inj e
      exact mk_lret C hr hlk e0 (by rw [← e1]) dX9_leaning_42
    · replace hf := (if_neg c6).symm.trans hf
      refine mk_iload C 4 dX9_leaning_23 rfl ?_
      refine mk_i2l C dX9_leaning_25 ?_
      refine mk_iload_n C 3 dX9_leaning_26 rfl ?_
      refine mk_iconst C (v := 1) dX9_leaning_27 (by decide) ?_
      refine mk_iadd C dX9_leaning_28 ?_
      refine mk_i2l C dX9_leaning_29 ?_
      refine mk_ldc2 C (v := 5) mw_1346 dX9_leaning_30 ?_
      obtain ⟨r7, h8, hf⟩ := b1_some hf
      refine mk_callSi C (c_X_in l D cI cJ X Y ((p4 : Int32).toInt64) (((p3 + 1) : Int32).toInt64) 5 r7 h8) mw_1052 mw_1053 mw_10 mw_1054 mkn_X9_in rfl ⟨Nat.le_of_ble_eq_true rfl, Nat.le_of_ble_eq_true rfl⟩ (mk_Fr.nil _) (Nat.le_of_ble_eq_true rfl) dX9_leaning_33 rfl ?_
      refine mk_if_ne C 43 dX9_leaning_36 (by decide) (fun c9 => ?_) (fun c9 => ?_)
      · replace hf := (if_neg c9).symm.trans hf
        refine mk_aload_n C 0 dX9_leaning_43 rfl ?_
        refine mk_iload_n C 1 dX9_leaning_44 rfl ?_
        refine mk_iload_n C 2 dX9_leaning_45 rfl ?_
        refine mk_iload_n C 3 dX9_leaning_46 rfl ?_
        refine mk_i2l C dX9_leaning_47 ?_
        refine mk_iload C 4 dX9_leaning_48 rfl ?_
        refine mk_i2l C dX9_leaning_50 ?_
        obtain ⟨uL_10, h11, hf⟩ := b1_some hf
        refine mk_callVv C (c_X_means l D cI cJ X Y aX uX uL p1 p2 ((p3 : Int32).toInt64) ((p4 : Int32).toInt64) uL_10 h11) mw_1314 mw_1316 mw_s31 mw_10 mw_1317 mkn_X9_means rfl ⟨Nat.le_of_ble_eq_true rfl, Nat.le_of_ble_eq_true rfl⟩ 0 rfl rfl rfl (mk_Fr.all _ _) (Nat.le_of_ble_eq_true rfl) dX9_leaning_51 rfl ?_
        refine mk_iload C 5 dX9_leaning_54 rfl ?_
        refine mk_if_ne C 68 dX9_leaning_56 (by decide) (fun c12 => ?_) (fun c12 => ?_)
        · replace hf := (if_neg c12).symm.trans hf
          refine mk_aload_n C 0 dX9_leaning_68 rfl ?_
          refine mk_get C mk_inX9 0 rfl rfl 44 (by decide) mw_946 (v := .ref (aX 45)) rfl dX9_leaning_69 ?_
          refine mk_iload_n C 2 dX9_leaning_72 rfl ?_
          obtain ⟨g13, hf⟩ := gI_some hf
          refine mk_lald C 20 1 (f := (uL_10 44)) rfl rfl g13 (j := (p2 : Int32).toNatClampNeg) rfl dX9_leaning_73 ?_
          have e := Option.some.inj hf
          obtain ⟨e0, e1⟩ := Prod.mk.inj e
          exact mk_lret C hr hlk e0 (by rw [← e1]) dX9_leaning_74
        · replace hf := (if_pos c12).symm.trans hf
          refine mk_aload_n C 0 dX9_leaning_59 rfl ?_
          refine mk_get C mk_inX9 0 rfl rfl 43 (by decide) mw_945 (v := .ref (aX 44)) rfl dX9_leaning_60 ?_
          refine mk_iload_n C 2 dX9_leaning_63 rfl ?_
          obtain ⟨g14, hf⟩ := gI_some hf
          refine mk_lald C 19 1 (f := (uL_10 43)) rfl rfl g14 (j := (p2 : Int32).toNatClampNeg) rfl dX9_leaning_64 ?_
          refine mk_goto C 74 dX9_leaning_65 (by decide) ?_
          have e := Option.some.inj hf
          obtain ⟨e0, e1⟩ := Prod.mk.inj e
          exact mk_lret C hr hlk e0 (by rw [← e1]) dX9_leaning_74
      · replace hf := (if_pos c9).symm.trans hf
        refine mk_ldc2 C (v := (-2)) mw_1313 dX9_leaning_39 ?_
        have e := Option.some.inj hf
        obtain ⟨e0, e1⟩ := Prod.mk.inj e
        exact mk_lret C hr hlk e0 (by rw [← e1]) dX9_leaning_42
set_option maxHeartbeats 40000000 in
set_option maxRecDepth 100000 in
theorem c_X_chanceOf (l : Launch) (D : va_G) (cI cJ : ClassId) (X Y : Nat → Nat) (aX : Nat → Nat) (uX : Nat → Nat → Int32) (uL : Nat → Nat → Int64) (p1 : Int32) (p2 : Int32) (p3 : Int32) (wL : Nat → Nat → Int64) (hf : f_X_chanceOf uL p1 p2 p3 = some wL) : mk_Met l yX9_chanceOf cX9_chanceOf 12 none ({ frames := 103, cells := 0, slots := 0, locals := 2477 }) D [(cI, .int), (cJ, .long)] X Y [.ref (aX 0), .int p1, .int p2, .int p3] (wModel aX cI cJ uX uL) (wModel aX cI cJ uX wL) none 0 0 := by
  refine mk_start (own := RX9) (by decide) rfl (Nat.le_of_ble_eq_true rfl) ?_
  intro sz p e s m args below meth c A C hr hlk hnm
  replace C : mk_Cx p s m args c cX9_chanceOf 12 RX9 D [(cI, .int), (cJ, .long)] X Y A := C
  have wL35 : ∀ (k9 : Int64 → Int64 → Int32 → (Nat → Nat → Int64) → Option ((Nat → Nat → Int64))), (∀ (v4 : Int64) (v6 : Int64) (v8 : Int32) (uL : Nat → Nat → Int64), k9 v4 v6 v8 uL = some wL → mk_Go p l e (headSpec (mk_ws yX9_chanceOf cX9_chanceOf 12 none) ({ frames := 103, cells := 0, slots := 0, locals := 2477 })).room s m args below meth c D A 12 0 0 (MQ below (mk_Q none D (wModel aX cI cJ uX wL) A) args s 0 0 A) 9 (wModel aX cI cJ uX uL) [(0, .ref (aX 0)), (1, .int p1), (2, .int p2), (3, .int p3), (4, .long v4), (6, .long v6), (8, .int v8)] []) → ∀ (n : Nat) (v4 : Int64) (v6 : Int64) (v8 : Int32) (v9 : Int32) (v10 : Int32) (uL : Nat → Nat → Int64), f_X_chanceOf_35 p1 p2 p3 k9 n v4 v6 v8 v9 v10 uL = some wL → mk_Go p l e (headSpec (mk_ws yX9_chanceOf cX9_chanceOf 12 none) ({ frames := 103, cells := 0, slots := 0, locals := 2477 })).room s m args below meth c D A 12 0 0 (MQ below (mk_Q none D (wModel aX cI cJ uX wL) A) args s 0 0 A) 35 (wModel aX cI cJ uX uL) [(0, .ref (aX 0)), (1, .int p1), (2, .int p2), (3, .int p3), (4, .long v4), (6, .long v6), (8, .int v8), (9, .int v9), (10, .int v10)] [] := by
    intro k9 hk9 n
    induction n with
    | zero => intro v4 v6 v8 v9 v10 uL hf; exact nomatch (show (none : Option ((Nat → Nat → Int64))) = some _ from hf)
    | succ n ih =>
      intro v4 v6 v8 v9 v10 uL hf
      rw [f_X_chanceOf_35] at hf
      refine mk_iload C 8 dX9_chanceOf_35 rfl ?_
      refine mk_iload_n C 3 dX9_chanceOf_37 rfl ?_
      refine mk_iload C 7 dX9_chanceOf_38 rfl ?_
      refine mk_iadd C dX9_chanceOf_40 ?_
      refine mk_icmp_ge C 177 dX9_chanceOf_41 (by decide) (fun c1 => ?_) (fun c1 => ?_)
      · replace hf := (if_pos c1).symm.trans hf
        refine mk_iinc C (v := (v8 + 1)) (lv' := [(8, .int (v8 + 1)), (0, .ref (aX 0)), (1, .int p1), (2, .int p2), (3, .int p3), (4, .long v4), (6, .long v6), (9, .int v9), (10, .int v10)]) 6 dX9_chanceOf_177 rfl rfl (by decide) rfl ?_
        refine mk_goto C 9 dX9_chanceOf_180 (by decide) ?_
        exact mk_lvsub [1, 2, 3, 4, 5, 6, 0] rfl (hk9 _ _ _ _ hf)
      · replace hf := (if_neg c1).symm.trans hf
        refine mk_iload_n C 3 dX9_chanceOf_44 rfl ?_
        refine mk_iconst C (v := 1) dX9_chanceOf_45 (by decide) ?_
        refine mk_isub C dX9_chanceOf_46 ?_
        refine mk_iload C 7 dX9_chanceOf_47 rfl ?_
        refine mk_iadd C dX9_chanceOf_49 ?_
        refine mk_iload C 8 dX9_chanceOf_50 rfl ?_
        refine mk_isub C dX9_chanceOf_52 ?_
        refine mk_istore C (lv' := [(11, .int (((p3 - 1) + v9) - v10)), (0, .ref (aX 0)), (1, .int p1), (2, .int p2), (3, .int p3), (4, .long v4), (6, .long v6), (8, .int v8), (9, .int v9), (10, .int v10)]) dX9_chanceOf_53 (by decide) rfl ?_
        refine mk_iload C 0 dX9_chanceOf_55 rfl ?_
        refine mk_iconst C (v := 1) dX9_chanceOf_57 (by decide) ?_
        refine mk_icmp_lt C 171 dX9_chanceOf_58 (by decide) (fun c2 => ?_) (fun c2 => ?_)
        · replace hf := (if_pos c2).symm.trans hf
          refine mk_iinc C (v := (v10 + 1)) (lv' := [(10, .int (v10 + 1)), (11, .int (((p3 - 1) + v9) - v10)), (0, .ref (aX 0)), (1, .int p1), (2, .int p2), (3, .int p3), (4, .long v4), (6, .long v6), (8, .int v8), (9, .int v9)]) 9 dX9_chanceOf_171 rfl rfl (by decide) rfl ?_
          refine mk_goto C 35 dX9_chanceOf_174 (by decide) ?_
          exact mk_lvsub [2, 3, 4, 5, 6, 7, 8, 9, 0] rfl (ih _ _ _ _ _ _ hf)
        · replace hf := (if_neg c2).symm.trans hf
          refine mk_iload C 0 dX9_chanceOf_61 rfl ?_
          refine mk_iload_n C 4 dX9_chanceOf_63 rfl ?_
          refine mk_icmp_lt C 70 dX9_chanceOf_64 (by decide) (fun c3 => ?_) (fun c3 => ?_)
          · replace hf := (if_pos c3).symm.trans hf
            refine mk_aload_n C 1 dX9_chanceOf_70 rfl ?_
            refine mk_aload_n C 1 dX9_chanceOf_71 rfl ?_
            refine mk_get C mk_inX9 0 rfl rfl 45 (by decide) mw_947 (v := .ref (aX 46)) rfl dX9_chanceOf_72 ?_
            refine mk_bipush C (v := 13) dX9_chanceOf_75 (by decide) ?_
            refine mk_iload C 7 dX9_chanceOf_77 rfl ?_
            refine mk_imul C dX9_chanceOf_79 ?_
            refine mk_iload C 9 dX9_chanceOf_80 rfl ?_
            refine mk_iadd C dX9_chanceOf_82 ?_
            obtain ⟨g4, hf⟩ := gI_some hf
            refine mk_lald C 21 1 (f := (uL 45)) rfl rfl g4 (j := (((13 * v8) + v10) : Int32).toNatClampNeg) rfl dX9_chanceOf_83 ?_
            refine mk_aload_n C 1 dX9_chanceOf_84 rfl ?_
            refine mk_get C mk_inX9 0 rfl rfl 46 (by decide) mw_948 (v := .ref (aX 47)) rfl dX9_chanceOf_85 ?_
            refine mk_bipush C (v := 13) dX9_chanceOf_88 (by decide) ?_
            refine mk_iload C 7 dX9_chanceOf_90 rfl ?_
            refine mk_imul C dX9_chanceOf_92 ?_
            refine mk_iload C 9 dX9_chanceOf_93 rfl ?_
            refine mk_iadd C dX9_chanceOf_95 ?_
            refine mk_lald C 22 1 (f := (uL 46)) rfl rfl g4 (j := (((13 * v8) + v10) : Int32).toNatClampNeg) rfl dX9_chanceOf_96 ?_
            obtain ⟨uL_5, h6, hf⟩ := b1_some hf
            refine mk_callVv C (c_X_is_ l D cI cJ X Y aX uX uL ((uL 45) (((13 * v8) + v10) : Int32).toNatClampNeg) ((uL 46) (((13 * v8) + v10) : Int32).toNatClampNeg) uL_5 h6) mw_1324 mw_1326 mw_s32 mw_10 mw_1327 mkn_X9_is_ rfl ⟨Nat.le_of_ble_eq_true rfl, Nat.le_of_ble_eq_true rfl⟩ 0 rfl rfl rfl (mk_Fr.all _ _) (Nat.le_of_ble_eq_true rfl) dX9_chanceOf_97 rfl ?_
            refine mk_aload_n C 1 dX9_chanceOf_100 rfl ?_
            refine mk_aload_n C 1 dX9_chanceOf_101 rfl ?_
            refine mk_get C mk_inX9 0 rfl rfl 45 (by decide) mw_947 (v := .ref (aX 46)) rfl dX9_chanceOf_102 ?_
            refine mk_bipush C (v := 13) dX9_chanceOf_105 (by decide) ?_
            refine mk_iload_n C 3 dX9_chanceOf_107 rfl ?_
            refine mk_iload C 7 dX9_chanceOf_108 rfl ?_
            refine mk_isub C dX9_chanceOf_110 ?_
            refine mk_imul C dX9_chanceOf_111 ?_
            refine mk_iload C 0 dX9_chanceOf_112 rfl ?_
            refine mk_iadd C dX9_chanceOf_114 ?_
            obtain ⟨g7, hf⟩ := gI_some hf
            refine mk_lald C 21 1 (f := (uL_5 45)) rfl rfl g7 (j := (((13 * (p2 - v8)) + (((p3 - 1) + v9) - v10)) : Int32).toNatClampNeg) rfl dX9_chanceOf_115 ?_
            refine mk_aload_n C 1 dX9_chanceOf_116 rfl ?_
            refine mk_get C mk_inX9 0 rfl rfl 46 (by decide) mw_948 (v := .ref (aX 47)) rfl dX9_chanceOf_117 ?_
            refine mk_bipush C (v := 13) dX9_chanceOf_120 (by decide) ?_
            refine mk_iload_n C 3 dX9_chanceOf_122 rfl ?_
            refine mk_iload C 7 dX9_chanceOf_123 rfl ?_
            refine mk_isub C dX9_chanceOf_125 ?_
            refine mk_imul C dX9_chanceOf_126 ?_
            refine mk_iload C 0 dX9_chanceOf_127 rfl ?_
            refine mk_iadd C dX9_chanceOf_129 ?_
            refine mk_lald C 22 1 (f := (uL_5 46)) rfl rfl g7 (j := (((13 * (p2 - v8)) + (((p3 - 1) + v9) - v10)) : Int32).toNatClampNeg) rfl dX9_chanceOf_130 ?_
            obtain ⟨uL_8, h9, hf⟩ := b1_some hf
            refine mk_callVv C (c_X_times l D cI cJ X Y aX uX uL_5 ((uL_5 45) (((13 * (p2 - v8)) + (((p3 - 1) + v9) - v10)) : Int32).toNatClampNeg) ((uL_5 46) (((13 * (p2 - v8)) + (((p3 - 1) + v9) - v10)) : Int32).toNatClampNeg) uL_8 h9) mw_1338 mw_1340 mw_s34 mw_10 mw_1341 mkn_X9_times rfl ⟨Nat.le_of_ble_eq_true rfl, Nat.le_of_ble_eq_true rfl⟩ 0 rfl rfl rfl (mk_Fr.all _ _) (Nat.le_of_ble_eq_true rfl) dX9_chanceOf_131 rfl ?_
            refine mk_aload_n C 1 dX9_chanceOf_134 rfl ?_
            refine mk_iload_n C 3 dX9_chanceOf_135 rfl ?_
            refine mk_iload C 7 dX9_chanceOf_136 rfl ?_
            obtain ⟨r10, h11, hf⟩ := b1_some hf
            refine mk_callSl C (c_X_choose l D cI cJ X Y p2 v8 r10 h11) mw_1321 mw_1322 mw_10 mw_1323 mkn_X9_choose rfl ⟨Nat.le_of_ble_eq_true rfl, Nat.le_of_ble_eq_true rfl⟩ (mk_Fr.nil _) (Nat.le_of_ble_eq_true rfl) dX9_chanceOf_138 rfl ?_
            refine mk_ldc2 C (v := 2) mw_1252 dX9_chanceOf_141 ?_
            refine mk_iload_n C 3 dX9_chanceOf_144 rfl ?_
            obtain ⟨r12, h13, hf⟩ := b1_some hf
            refine mk_callSl C (c_X_power l D cI cJ X Y 2 p2 r12 h13) mw_1318 mw_1319 mw_10 mw_1320 mkn_X9_power rfl ⟨Nat.le_of_ble_eq_true rfl, Nat.le_of_ble_eq_true rfl⟩ (mk_Fr.nil _) (Nat.le_of_ble_eq_true rfl) dX9_chanceOf_145 rfl ?_
            obtain ⟨uL_14, h15, hf⟩ := b1_some hf
            refine mk_callVv C (c_X_times l D cI cJ X Y aX uX uL_8 r10 r12 uL_14 h15) mw_1338 mw_1340 mw_s34 mw_10 mw_1341 mkn_X9_times rfl ⟨Nat.le_of_ble_eq_true rfl, Nat.le_of_ble_eq_true rfl⟩ 0 rfl rfl rfl (mk_Fr.all _ _) (Nat.le_of_ble_eq_true rfl) dX9_chanceOf_148 rfl ?_
            refine mk_aload_n C 1 dX9_chanceOf_151 rfl ?_
            refine mk_lload C 5 dX9_chanceOf_152 rfl ?_
            refine mk_lload C 6 dX9_chanceOf_154 rfl ?_
            obtain ⟨uL_16, h17, hf⟩ := b1_some hf
            refine mk_callVv C (c_X_adds l D cI cJ X Y aX uX uL_14 v4 v6 uL_16 h17) mw_1334 mw_1336 mw_s33 mw_10 mw_1337 mkn_X9_adds rfl ⟨Nat.le_of_ble_eq_true rfl, Nat.le_of_ble_eq_true rfl⟩ 0 rfl rfl rfl (mk_Fr.all _ _) (Nat.le_of_ble_eq_true rfl) dX9_chanceOf_156 rfl ?_
            refine mk_aload_n C 1 dX9_chanceOf_159 rfl ?_
            refine mk_get C mk_inX9 0 rfl rfl 41 (by decide) mw_943 (v := .long (uL_16 41 0)) rfl dX9_chanceOf_160 ?_
            refine mk_lstore C (lv' := [(4, .long (uL_16 41 0)), (11, .int (((p3 - 1) + v9) - v10)), (0, .ref (aX 0)), (1, .int p1), (2, .int p2), (3, .int p3), (6, .long v6), (8, .int v8), (9, .int v9), (10, .int v10)]) dX9_chanceOf_163 (by decide) rfl ?_
            refine mk_aload_n C 2 dX9_chanceOf_165 rfl ?_
            refine mk_get C mk_inX9 0 rfl rfl 42 (by decide) mw_944 (v := .long (uL_16 42 0)) rfl dX9_chanceOf_166 ?_
            refine mk_lstore C (lv' := [(6, .long (uL_16 42 0)), (4, .long (uL_16 41 0)), (11, .int (((p3 - 1) + v9) - v10)), (0, .ref (aX 0)), (1, .int p1), (2, .int p2), (3, .int p3), (8, .int v8), (9, .int v9), (10, .int v10)]) dX9_chanceOf_169 (by decide) rfl ?_
            refine mk_iinc C (v := (v10 + 1)) (lv' := [(10, .int (v10 + 1)), (6, .long (uL_16 42 0)), (4, .long (uL_16 41 0)), (11, .int (((p3 - 1) + v9) - v10)), (0, .ref (aX 0)), (1, .int p1), (2, .int p2), (3, .int p3), (8, .int v8), (9, .int v9)]) 9 dX9_chanceOf_171 rfl rfl (by decide) rfl ?_
            refine mk_goto C 35 dX9_chanceOf_174 (by decide) ?_
            exact mk_lvsub [4, 5, 6, 7, 2, 1, 8, 9, 0] rfl (ih _ _ _ _ _ _ hf)
          · replace hf := (if_neg c3).symm.trans hf
            refine mk_goto C 171 dX9_chanceOf_67 (by decide) ?_
            refine mk_iinc C (v := (v10 + 1)) (lv' := [(10, .int (v10 + 1)), (11, .int (((p3 - 1) + v9) - v10)), (0, .ref (aX 0)), (1, .int p1), (2, .int p2), (3, .int p3), (4, .long v4), (6, .long v6), (8, .int v8), (9, .int v9)]) 9 dX9_chanceOf_171 rfl rfl (by decide) rfl ?_
            refine mk_goto C 35 dX9_chanceOf_174 (by decide) ?_
            exact mk_lvsub [2, 3, 4, 5, 6, 7, 8, 9, 0] rfl (ih _ _ _ _ _ _ hf)
  have wL9 : ∀ (n : Nat) (v4 : Int64) (v6 : Int64) (v8 : Int32) (uL : Nat → Nat → Int64), f_X_chanceOf_9 p1 p2 p3 n v4 v6 v8 uL = some wL → mk_Go p l e (headSpec (mk_ws yX9_chanceOf cX9_chanceOf 12 none) ({ frames := 103, cells := 0, slots := 0, locals := 2477 })).room s m args below meth c D A 12 0 0 (MQ below (mk_Q none D (wModel aX cI cJ uX wL) A) args s 0 0 A) 9 (wModel aX cI cJ uX uL) [(0, .ref (aX 0)), (1, .int p1), (2, .int p2), (3, .int p3), (4, .long v4), (6, .long v6), (8, .int v8)] [] := by
    intro  n
    induction n with
    | zero => intro v4 v6 v8 uL hf; exact nomatch (show (none : Option ((Nat → Nat → Int64))) = some _ from hf)
    | succ n ih =>
      intro v4 v6 v8 uL hf
      rw [f_X_chanceOf_9] at hf
      refine mk_iload C 6 dX9_chanceOf_9 rfl ?_
      refine mk_iload_n C 2 dX9_chanceOf_11 rfl ?_
      refine mk_icmp_gt C 183 dX9_chanceOf_12 (by decide) (fun c18 => ?_) (fun c18 => ?_)
      · replace hf := (if_pos c18).symm.trans hf
        refine mk_aload_n C 0 dX9_chanceOf_183 rfl ?_
        refine mk_lload C 4 dX9_chanceOf_184 rfl ?_
        refine mk_lload C 5 dX9_chanceOf_186 rfl ?_
        obtain ⟨uL_19, h20, hf⟩ := b1_some hf
        refine mk_callVv C (c_X_is_ l D cI cJ X Y aX uX uL v4 v6 uL_19 h20) mw_1324 mw_1326 mw_s32 mw_10 mw_1327 mkn_X9_is_ rfl ⟨Nat.le_of_ble_eq_true rfl, Nat.le_of_ble_eq_true rfl⟩ 0 rfl rfl rfl (mk_Fr.all _ _) (Nat.le_of_ble_eq_true rfl) dX9_chanceOf_188 rfl ?_
        have e0 := Option.some.inj hf
        exact mk_vret C hr hlk (by rw [← e0]) dX9_chanceOf_191
      · replace hf := (if_neg c18).symm.trans hf
        refine mk_iload_n C 1 dX9_chanceOf_15 rfl ?_
        refine mk_iconst C (v := 1) dX9_chanceOf_16 (by decide) ?_
        refine mk_icmp_ne C 29 dX9_chanceOf_17 (by decide) (fun c21 => ?_) (fun c21 => ?_)
        · replace hf := (if_neg c21).symm.trans hf
          refine mk_iconst C (v := 0) dX9_chanceOf_29 (by decide) ?_
          refine mk_istore C (lv' := [(9, .int 0), (0, .ref (aX 0)), (1, .int p1), (2, .int p2), (3, .int p3), (4, .long v4), (6, .long v6), (8, .int v8)]) dX9_chanceOf_30 (by decide) rfl ?_
          refine mk_iconst C (v := 1) dX9_chanceOf_32 (by decide) ?_
          refine mk_istore C (lv' := [(10, .int 1), (9, .int 0), (0, .ref (aX 0)), (1, .int p1), (2, .int p2), (3, .int p3), (4, .long v4), (6, .long v6), (8, .int v8)]) dX9_chanceOf_33 (by decide) rfl ?_
          exact mk_lvsub [2, 3, 4, 5, 6, 7, 8, 1, 0] rfl (wL35 _ ih 600 _ _ _ _ _ _ hf)
        · replace hf := (if_pos c21).symm.trans hf
          refine mk_iload C 6 dX9_chanceOf_20 rfl ?_
          refine mk_if_ne C 29 dX9_chanceOf_22 (by decide) (fun c22 => ?_) (fun c22 => ?_)
          · replace hf := (if_neg c22).symm.trans hf
            refine mk_iconst C (v := 0) dX9_chanceOf_29 (by decide) ?_
            refine mk_istore C (lv' := [(9, .int 0), (0, .ref (aX 0)), (1, .int p1), (2, .int p2), (3, .int p3), (4, .long v4), (6, .long v6), (8, .int v8)]) dX9_chanceOf_30 (by decide) rfl ?_
            refine mk_iconst C (v := 1) dX9_chanceOf_32 (by decide) ?_
            refine mk_istore C (lv' := [(10, .int 1), (9, .int 0), (0, .ref (aX 0)), (1, .int p1), (2, .int p2), (3, .int p3), (4, .long v4), (6, .long v6), (8, .int v8)]) dX9_chanceOf_33 (by decide) rfl ?_
            exact mk_lvsub [2, 3, 4, 5, 6, 7, 8, 1, 0] rfl (wL35 _ ih 600 _ _ _ _ _ _ hf)
          · replace hf := (if_pos c22).symm.trans hf
            refine mk_iconst C (v := 1) dX9_chanceOf_25 (by decide) ?_
            refine mk_goto C 30 dX9_chanceOf_26 (by decide) ?_
            refine mk_istore C (lv' := [(9, .int 1), (0, .ref (aX 0)), (1, .int p1), (2, .int p2), (3, .int p3), (4, .long v4), (6, .long v6), (8, .int v8)]) dX9_chanceOf_30 (by decide) rfl ?_
            refine mk_iconst C (v := 1) dX9_chanceOf_32 (by decide) ?_
            refine mk_istore C (lv' := [(10, .int 1), (9, .int 1), (0, .ref (aX 0)), (1, .int p1), (2, .int p2), (3, .int p3), (4, .long v4), (6, .long v6), (8, .int v8)]) dX9_chanceOf_33 (by decide) rfl ?_
            exact mk_lvsub [2, 3, 4, 5, 6, 7, 8, 1, 0] rfl (wL35 _ ih 600 _ _ _ _ _ _ hf)
  show mk_Go p l e (headSpec (mk_ws yX9_chanceOf cX9_chanceOf 12 none) ({ frames := 103, cells := 0, slots := 0, locals := 2477 })).room s m args below meth c D A 12 0 0 (MQ below (mk_Q none D (wModel aX cI cJ uX wL) A) args s 0 0 A) 0 (wModel aX cI cJ uX uL) [(0, .ref (aX 0)), (1, .int p1), (2, .int p2), (3, .int p3)] []
  unfold f_X_chanceOf at hf
  refine mk_lconst C (v := 0) dX9_chanceOf_0 (by decide) ?_
  refine mk_lstore C (lv' := [(4, .long 0), (0, .ref (aX 0)), (1, .int p1), (2, .int p2), (3, .int p3)]) dX9_chanceOf_1 (by decide) rfl ?_
  refine mk_lconst C (v := 1) dX9_chanceOf_3 (by decide) ?_
  refine mk_lstore C (lv' := [(6, .long 1), (4, .long 0), (0, .ref (aX 0)), (1, .int p1), (2, .int p2), (3, .int p3)]) dX9_chanceOf_4 (by decide) rfl ?_
  refine mk_iconst C (v := 0) dX9_chanceOf_6 (by decide) ?_
  refine mk_istore C (lv' := [(8, .int 0), (6, .long 1), (4, .long 0), (0, .ref (aX 0)), (1, .int p1), (2, .int p2), (3, .int p3)]) dX9_chanceOf_7 (by decide) rfl ?_
  exact mk_lvsub [3, 4, 5, 6, 2, 1, 0] rfl (wL9 600 _ _ _ _ hf)
set_option maxHeartbeats 40000000 in
set_option maxRecDepth 100000 in
theorem c_X_chances (l : Launch) (D : va_G) (cI cJ : ClassId) (X Y : Nat → Nat) (aX : Nat → Nat) (uX : Nat → Nat → Int32) (uL : Nat → Nat → Int64) (p1 : Int32) (p2 : Int32) (p3 : Int32) (wL : Nat → Nat → Int64) (hf : f_X_chances uL p1 p2 p3 = some wL) : mk_Met l yX9_chances cX9_chances 6 none ({ frames := 104, cells := 0, slots := 0, locals := 2508 }) D [(cI, .int), (cJ, .long)] X Y [.ref (aX 0), .int p1, .int p2, .int p3] (wModel aX cI cJ uX uL) (wModel aX cI cJ uX wL) none 0 0 := by
  refine mk_start (own := RX9) (by decide) rfl (Nat.le_of_ble_eq_true rfl) ?_
  intro sz p e s m args below meth c A C hr hlk hnm
  replace C : mk_Cx p s m args c cX9_chances 6 RX9 D [(cI, .int), (cJ, .long)] X Y A := C
  have wL52 : ∀ (k3 : Int32 → (Nat → Nat → Int64) → Option ((Nat → Nat → Int64))), (∀ (v4 : Int32) (uL : Nat → Nat → Int64), k3 v4 uL = some wL → mk_Go p l e (headSpec (mk_ws yX9_chances cX9_chances 6 none) ({ frames := 104, cells := 0, slots := 0, locals := 2508 })).room s m args below meth c D A 6 0 0 (MQ below (mk_Q none D (wModel aX cI cJ uX wL) A) args s 0 0 A) 3 (wModel aX cI cJ uX uL) [(0, .ref (aX 0)), (1, .int p1), (2, .int p2), (3, .int p3), (4, .int v4)] []) → ∀ (k12 : Int32 → Int32 → (Nat → Nat → Int64) → Option ((Nat → Nat → Int64))), (∀ (v4 : Int32) (v5 : Int32) (uL : Nat → Nat → Int64), k12 v4 v5 uL = some wL → mk_Go p l e (headSpec (mk_ws yX9_chances cX9_chances 6 none) ({ frames := 104, cells := 0, slots := 0, locals := 2508 })).room s m args below meth c D A 6 0 0 (MQ below (mk_Q none D (wModel aX cI cJ uX wL) A) args s 0 0 A) 12 (wModel aX cI cJ uX uL) [(0, .ref (aX 0)), (1, .int p1), (2, .int p2), (3, .int p3), (4, .int v4), (5, .int v5)] []) → ∀ (v4 : Int32) (v5 : Int32) (uL : Nat → Nat → Int64), f_X_chances_52 p1 p2 p3 k3 k12 v4 v5 uL = some wL → mk_Go p l e (headSpec (mk_ws yX9_chances cX9_chances 6 none) ({ frames := 104, cells := 0, slots := 0, locals := 2508 })).room s m args below meth c D A 6 0 0 (MQ below (mk_Q none D (wModel aX cI cJ uX wL) A) args s 0 0 A) 52 (wModel aX cI cJ uX uL) [(0, .ref (aX 0)), (1, .int p1), (2, .int p2), (3, .int p3), (4, .int v4), (5, .int v5)] [] := by
    intro k3 hk3 k12 hk12 v4 v5 uL hf
    unfold f_X_chances_52 at hf
    refine mk_aload_n C 0 dX9_chances_52 rfl ?_
    refine mk_get C mk_inX9 0 rfl rfl 45 (by decide) mw_947 (v := .ref (aX 46)) rfl dX9_chances_53 ?_
    refine mk_bipush C (v := 13) dX9_chances_56 (by decide) ?_
    refine mk_iload C 5 dX9_chances_58 rfl ?_
    refine mk_imul C dX9_chances_60 ?_
    refine mk_iload C 4 dX9_chances_61 rfl ?_
    refine mk_iadd C dX9_chances_63 ?_
    refine mk_aload_n C 0 dX9_chances_64 rfl ?_
    refine mk_get C mk_inX9 0 rfl rfl 41 (by decide) mw_943 (v := .long (uL 41 0)) rfl dX9_chances_65 ?_
    obtain ⟨g1, hf⟩ := gI_some hf
    refine mk_last C 21 1 (f := (uL 45)) rfl rfl g1 (j := (((13 * v5) + v4) : Int32).toNatClampNeg) rfl (ws' := (wModel aX cI cJ uX (upR 45 (vp_updL (uL 45) (((13 * v5) + v4) : Int32).toNatClampNeg (uL 41 0)) uL))) (st_X_X_45 cI cJ aX uX uL (vp_updL (uL 45) (((13 * v5) + v4) : Int32).toNatClampNeg (uL 41 0))) dX9_chances_68 ?_
    refine mk_aload_n C 0 dX9_chances_69 rfl ?_
    refine mk_get C mk_inX9 0 rfl rfl 46 (by decide) mw_948 (v := .ref (aX 47)) rfl dX9_chances_70 ?_
    refine mk_bipush C (v := 13) dX9_chances_73 (by decide) ?_
    refine mk_iload C 5 dX9_chances_75 rfl ?_
    refine mk_imul C dX9_chances_77 ?_
    refine mk_iload C 4 dX9_chances_78 rfl ?_
    refine mk_iadd C dX9_chances_80 ?_
    refine mk_aload_n C 0 dX9_chances_81 rfl ?_
    refine mk_get C mk_inX9 0 rfl rfl 42 (by decide) mw_944 (v := .long (uL 42 0)) rfl dX9_chances_82 ?_
    refine mk_last C 22 1 (f := (uL 46)) rfl rfl g1 (j := (((13 * v5) + v4) : Int32).toNatClampNeg) rfl (ws' := (wModel aX cI cJ uX (upR 46 (vp_updL (uL 46) (((13 * v5) + v4) : Int32).toNatClampNeg (uL 42 0)) (upR 45 (vp_updL (uL 45) (((13 * v5) + v4) : Int32).toNatClampNeg (uL 41 0)) uL)))) (st_X_X_46 cI cJ aX uX (upR 45 (vp_updL (uL 45) (((13 * v5) + v4) : Int32).toNatClampNeg (uL 41 0)) uL) (vp_updL (uL 46) (((13 * v5) + v4) : Int32).toNatClampNeg (uL 42 0))) dX9_chances_85 ?_
    refine mk_iinc C (v := (v5 + 1)) (lv' := [(5, .int (v5 + 1)), (0, .ref (aX 0)), (1, .int p1), (2, .int p2), (3, .int p3), (4, .int v4)]) 5 dX9_chances_86 rfl rfl (by decide) rfl ?_
    refine mk_goto C 12 dX9_chances_89 (by decide) ?_
    exact mk_lvsub [1, 2, 3, 4, 5, 0] rfl (hk12 _ _ _ hf)
  have wL36 : ∀ (k3 : Int32 → (Nat → Nat → Int64) → Option ((Nat → Nat → Int64))), (∀ (v4 : Int32) (uL : Nat → Nat → Int64), k3 v4 uL = some wL → mk_Go p l e (headSpec (mk_ws yX9_chances cX9_chances 6 none) ({ frames := 104, cells := 0, slots := 0, locals := 2508 })).room s m args below meth c D A 6 0 0 (MQ below (mk_Q none D (wModel aX cI cJ uX wL) A) args s 0 0 A) 3 (wModel aX cI cJ uX uL) [(0, .ref (aX 0)), (1, .int p1), (2, .int p2), (3, .int p3), (4, .int v4)] []) → ∀ (k12 : Int32 → Int32 → (Nat → Nat → Int64) → Option ((Nat → Nat → Int64))), (∀ (v4 : Int32) (v5 : Int32) (uL : Nat → Nat → Int64), k12 v4 v5 uL = some wL → mk_Go p l e (headSpec (mk_ws yX9_chances cX9_chances 6 none) ({ frames := 104, cells := 0, slots := 0, locals := 2508 })).room s m args below meth c D A 6 0 0 (MQ below (mk_Q none D (wModel aX cI cJ uX wL) A) args s 0 0 A) 12 (wModel aX cI cJ uX uL) [(0, .ref (aX 0)), (1, .int p1), (2, .int p2), (3, .int p3), (4, .int v4), (5, .int v5)] []) → ∀ (v4 : Int32) (v5 : Int32) (t1 : Int64) (uL : Nat → Nat → Int64), f_X_chances_36 p1 p2 p3 k3 k12 v4 v5 t1 uL = some wL → mk_Go p l e (headSpec (mk_ws yX9_chances cX9_chances 6 none) ({ frames := 104, cells := 0, slots := 0, locals := 2508 })).room s m args below meth c D A 6 0 0 (MQ below (mk_Q none D (wModel aX cI cJ uX wL) A) args s 0 0 A) 36 (wModel aX cI cJ uX uL) [(0, .ref (aX 0)), (1, .int p1), (2, .int p2), (3, .int p3), (4, .int v4), (5, .int v5)] [.long t1, .ref (aX 0)] := by
    intro k3 hk3 k12 hk12 v4 v5 t1 uL hf
    unfold f_X_chances_36 at hf
    refine mk_lconst C (v := 1) dX9_chances_36 (by decide) ?_
    obtain ⟨uL_2, h3, hf⟩ := b1_some hf
    refine mk_callVv C (c_X_is_ l D cI cJ X Y aX uX uL t1 1 uL_2 h3) mw_1324 mw_1326 mw_s32 mw_10 mw_1327 mkn_X9_is_ rfl ⟨Nat.le_of_ble_eq_true rfl, Nat.le_of_ble_eq_true rfl⟩ 0 rfl rfl rfl (mk_Fr.all _ _) (Nat.le_of_ble_eq_true rfl) dX9_chances_37 rfl ?_
    refine mk_goto C 52 dX9_chances_40 (by decide) ?_
    exact mk_lvsub [0, 1, 2, 3, 4, 5] rfl (wL52 _ hk3 _ hk12 _ _ _ hf)
  have wL12 : ∀ (k3 : Int32 → (Nat → Nat → Int64) → Option ((Nat → Nat → Int64))), (∀ (v4 : Int32) (uL : Nat → Nat → Int64), k3 v4 uL = some wL → mk_Go p l e (headSpec (mk_ws yX9_chances cX9_chances 6 none) ({ frames := 104, cells := 0, slots := 0, locals := 2508 })).room s m args below meth c D A 6 0 0 (MQ below (mk_Q none D (wModel aX cI cJ uX wL) A) args s 0 0 A) 3 (wModel aX cI cJ uX uL) [(0, .ref (aX 0)), (1, .int p1), (2, .int p2), (3, .int p3), (4, .int v4)] []) → ∀ (n : Nat) (v4 : Int32) (v5 : Int32) (uL : Nat → Nat → Int64), f_X_chances_12 p1 p2 p3 k3 n v4 v5 uL = some wL → mk_Go p l e (headSpec (mk_ws yX9_chances cX9_chances 6 none) ({ frames := 104, cells := 0, slots := 0, locals := 2508 })).room s m args below meth c D A 6 0 0 (MQ below (mk_Q none D (wModel aX cI cJ uX wL) A) args s 0 0 A) 12 (wModel aX cI cJ uX uL) [(0, .ref (aX 0)), (1, .int p1), (2, .int p2), (3, .int p3), (4, .int v4), (5, .int v5)] [] := by
    intro k3 hk3 n
    induction n with
    | zero => intro v4 v5 uL hf; exact nomatch (show (none : Option ((Nat → Nat → Int64))) = some _ from hf)
    | succ n ih =>
      intro v4 v5 uL hf
      rw [f_X_chances_12] at hf
      refine mk_iload C 5 dX9_chances_12 rfl ?_
      refine mk_iload_n C 2 dX9_chances_14 rfl ?_
      refine mk_icmp_gt C 92 dX9_chances_15 (by decide) (fun c4 => ?_) (fun c4 => ?_)
      · replace hf := (if_pos c4).symm.trans hf
        refine mk_iinc C (v := (v4 + 1)) (lv' := [(4, .int (v4 + 1)), (0, .ref (aX 0)), (1, .int p1), (2, .int p2), (3, .int p3), (5, .int v5)]) 4 dX9_chances_92 rfl rfl (by decide) rfl ?_
        refine mk_goto C 3 dX9_chances_95 (by decide) ?_
        exact mk_lvsub [1, 2, 3, 4, 0] rfl (hk3 _ _ hf)
      · replace hf := (if_neg c4).symm.trans hf
        refine mk_iload C 5 dX9_chances_18 rfl ?_
        refine mk_iconst C (v := 2) dX9_chances_20 (by decide) ?_
        refine mk_icmp_ge C 43 dX9_chances_21 (by decide) (fun c5 => ?_) (fun c5 => ?_)
        · replace hf := (if_pos c5).symm.trans hf
          refine mk_aload_n C 0 dX9_chances_43 rfl ?_
          refine mk_iload_n C 1 dX9_chances_44 rfl ?_
          refine mk_iload C 5 dX9_chances_45 rfl ?_
          refine mk_iload C 4 dX9_chances_47 rfl ?_
          obtain ⟨uL_6, h7, hf⟩ := b1_some hf
          refine mk_callVv C (c_X_chanceOf l D cI cJ X Y aX uX uL p1 v5 v4 uL_6 h7) mw_1356 mw_1358 mw_s36 mw_10 mw_1359 mkn_X9_chanceOf rfl ⟨Nat.le_of_ble_eq_true rfl, Nat.le_of_ble_eq_true rfl⟩ 0 rfl rfl rfl (mk_Fr.all _ _) (Nat.le_of_ble_eq_true rfl) dX9_chances_49 rfl ?_
          exact mk_lvsub [0, 1, 2, 3, 4, 5] rfl (wL52 _ hk3 _ ih _ _ _ hf)
        · replace hf := (if_neg c5).symm.trans hf
          refine mk_aload_n C 0 dX9_chances_24 rfl ?_
          refine mk_iload C 4 dX9_chances_25 rfl ?_
          refine mk_iconst C (v := 1) dX9_chances_27 (by decide) ?_
          refine mk_icmp_ne C 35 dX9_chances_28 (by decide) (fun c8 => ?_) (fun c8 => ?_)
          · replace hf := (if_neg c8).symm.trans hf
            refine mk_lconst C (v := 0) dX9_chances_35 (by decide) ?_
            exact mk_lvsub [0, 1, 2, 3, 4, 5] rfl (wL36 _ hk3 _ ih _ _ _ _ hf)
          · replace hf := (if_pos c8).symm.trans hf
            refine mk_lconst C (v := 1) dX9_chances_31 (by decide) ?_
            refine mk_goto C 36 dX9_chances_32 (by decide) ?_
            exact mk_lvsub [0, 1, 2, 3, 4, 5] rfl (wL36 _ hk3 _ ih _ _ _ _ hf)
  have wL3 : ∀ (n : Nat) (v4 : Int32) (uL : Nat → Nat → Int64), f_X_chances_3 p1 p2 p3 n v4 uL = some wL → mk_Go p l e (headSpec (mk_ws yX9_chances cX9_chances 6 none) ({ frames := 104, cells := 0, slots := 0, locals := 2508 })).room s m args below meth c D A 6 0 0 (MQ below (mk_Q none D (wModel aX cI cJ uX wL) A) args s 0 0 A) 3 (wModel aX cI cJ uX uL) [(0, .ref (aX 0)), (1, .int p1), (2, .int p2), (3, .int p3), (4, .int v4)] [] := by
    intro  n
    induction n with
    | zero => intro v4 uL hf; exact nomatch (show (none : Option ((Nat → Nat → Int64))) = some _ from hf)
    | succ n ih =>
      intro v4 uL hf
      rw [f_X_chances_3] at hf
      refine mk_iload C 4 dX9_chances_3 rfl ?_
      refine mk_iload_n C 3 dX9_chances_5 rfl ?_
      refine mk_icmp_gt C 98 dX9_chances_6 (by decide) (fun c9 => ?_) (fun c9 => ?_)
      · replace hf := (if_pos c9).symm.trans hf
        have e0 := Option.some.inj hf
        exact mk_vret C hr hlk (by rw [← e0]) dX9_chances_98
      · replace hf := (if_neg c9).symm.trans hf
        refine mk_iconst C (v := 0) dX9_chances_9 (by decide) ?_
        refine mk_istore C (lv' := [(5, .int 0), (0, .ref (aX 0)), (1, .int p1), (2, .int p2), (3, .int p3), (4, .int v4)]) dX9_chances_10 (by decide) rfl ?_
        exact mk_lvsub [1, 2, 3, 4, 5, 0] rfl (wL12 _ ih 600 _ _ _ hf)
  show mk_Go p l e (headSpec (mk_ws yX9_chances cX9_chances 6 none) ({ frames := 104, cells := 0, slots := 0, locals := 2508 })).room s m args below meth c D A 6 0 0 (MQ below (mk_Q none D (wModel aX cI cJ uX wL) A) args s 0 0 A) 0 (wModel aX cI cJ uX uL) [(0, .ref (aX 0)), (1, .int p1), (2, .int p2), (3, .int p3)] []
  unfold f_X_chances at hf
  refine mk_iconst C (v := 0) dX9_chances_0 (by decide) ?_
  refine mk_istore C (lv' := [(4, .int 0), (0, .ref (aX 0)), (1, .int p1), (2, .int p2), (3, .int p3)]) dX9_chances_1 (by decide) rfl ?_
  exact mk_lvsub [1, 2, 3, 4, 0] rfl (wL3 600 _ _ hf)
set_option maxHeartbeats 40000000 in
set_option maxRecDepth 100000 in
theorem c_X_chance (l : Launch) (D : va_G) (cI cJ : ClassId) (X Y : Nat → Nat) (aX : Nat → Nat) (uX : Nat → Nat → Int32) (uL : Nat → Nat → Int64) (p1 : Int32) (p2 : Int32) (p3 : Int32) (p4 : Int32) (r : Int64) (wL : Nat → Nat → Int64) (hf : f_X_chance uL p1 p2 p3 p4 = some (r, wL)) : mk_Met l yX9_chance cX9_chance 5 (some .long) ({ frames := 105, cells := 0, slots := 0, locals := 2533 }) D [(cI, .int), (cJ, .long)] X Y [.ref (aX 0), .int p1, .int p2, .int p3, .int p4] (wModel aX cI cJ uX uL) (wModel aX cI cJ uX wL) (some (.long r)) 0 0 := by
  refine mk_start (own := RX9) (by decide) rfl (Nat.le_of_ble_eq_true rfl) ?_
  intro sz p e s m args below meth c A C hr hlk hnm
  replace C : mk_Cx p s m args c cX9_chance 5 RX9 D [(cI, .int), (cJ, .long)] X Y A := C
  show mk_Go p l e (headSpec (mk_ws yX9_chance cX9_chance 5 (some .long)) ({ frames := 105, cells := 0, slots := 0, locals := 2533 })).room s m args below meth c D A 5 0 0 (MQ below (mk_Q (some (.long r)) D (wModel aX cI cJ uX wL) A) args s 0 0 A) 0 (wModel aX cI cJ uX uL) [(0, .ref (aX 0)), (1, .int p1), (2, .int p2), (3, .int p3), (4, .int p4)] []
  unfold f_X_chance at hf
  refine mk_iload_n C 1 dX9_chance_0 rfl ?_
  refine mk_iload_n C 2 dX9_chance_1 rfl ?_
  refine mk_iconst C (v := 3) dX9_chance_2 (by decide) ?_
  refine mk_iload C 4 dX9_chance_3 rfl ?_
  obtain ⟨r1, h2, hf⟩ := b1_some hf
  refine mk_callSi C (c_X_isMean l D cI cJ X Y p1 p2 3 p4 r1 h2) mw_1310 mw_1311 mw_10 mw_1312 mkn_X9_isMean rfl ⟨Nat.le_of_ble_eq_true rfl, Nat.le_of_ble_eq_true rfl⟩ (mk_Fr.nil _) (Nat.le_of_ble_eq_true rfl) dX9_chance_5 rfl ?_
  refine mk_if_eq C 23 dX9_chance_8 (by decide) (fun c3 => ?_) (fun c3 => ?_)
  · replace hf := (if_pos c3).symm.trans hf
    refine mk_ldc2 C (v := (-2)) mw_1313 dX9_chance_23 ?_
    have e := Option.some.inj hf
    obtain ⟨e0, e1⟩ := Prod.mk.inj e
    exact mk_lret C hr hlk e0 (by rw [← e1]) dX9_chance_26
  · replace hf := (if_neg c3).symm.trans hf
    refine mk_iload_n C 3 dX9_chance_11 rfl ?_
    refine mk_i2l C dX9_chance_12 ?_
    refine mk_lconst C (v := 1) dX9_chance_13 (by decide) ?_
    refine mk_ldc2 C (v := 12) mw_1351 dX9_chance_14 ?_
    obtain ⟨r4, h5, hf⟩ := b1_some hf
    refine mk_callSi C (c_X_in l D cI cJ X Y ((p3 : Int32).toInt64) 1 12 r4 h5) mw_1052 mw_1053 mw_10 mw_1054 mkn_X9_in rfl ⟨Nat.le_of_ble_eq_true rfl, Nat.le_of_ble_eq_true rfl⟩ (mk_Fr.nil _) (Nat.le_of_ble_eq_true rfl) dX9_chance_17 rfl ?_
    refine mk_if_ne C 27 dX9_chance_20 (by decide) (fun c6 => ?_) (fun c6 => ?_)
    · replace hf := (if_neg c6).symm.trans hf
      refine mk_aload_n C 0 dX9_chance_27 rfl ?_
      refine mk_iload_n C 1 dX9_chance_28 rfl ?_
      refine mk_iload_n C 2 dX9_chance_29 rfl ?_
      refine mk_iload_n C 3 dX9_chance_30 rfl ?_
      obtain ⟨uL_7, h8, hf⟩ := b1_some hf
      refine mk_callVv C (c_X_chances l D cI cJ X Y aX uX uL p1 p2 p3 uL_7 h8) mw_1352 mw_1354 mw_s35 mw_10 mw_1355 mkn_X9_chances rfl ⟨Nat.le_of_ble_eq_true rfl, Nat.le_of_ble_eq_true rfl⟩ 0 rfl rfl rfl (mk_Fr.all _ _) (Nat.le_of_ble_eq_true rfl) dX9_chance_31 rfl ?_
      refine mk_iload C 4 dX9_chance_34 rfl ?_
      refine mk_if_ne C 53 dX9_chance_36 (by decide) (fun c9 => ?_) (fun c9 => ?_)
      · replace hf := (if_neg c9).symm.trans hf
        refine mk_aload_n C 0 dX9_chance_53 rfl ?_
        refine mk_get C mk_inX9 0 rfl rfl 46 (by decide) mw_948 (v := .ref (aX 47)) rfl dX9_chance_54 ?_
        refine mk_bipush C (v := 13) dX9_chance_57 (by decide) ?_
        refine mk_iload_n C 2 dX9_chance_59 rfl ?_
        refine mk_imul C dX9_chance_60 ?_
        refine mk_iload_n C 3 dX9_chance_61 rfl ?_
        refine mk_iadd C dX9_chance_62 ?_
        obtain ⟨g10, hf⟩ := gI_some hf
        refine mk_lald C 22 1 (f := (uL_7 46)) rfl rfl g10 (j := (((13 * p2) + p3) : Int32).toNatClampNeg) rfl dX9_chance_63 ?_
        have e := Option.some.inj hf
        obtain ⟨e0, e1⟩ := Prod.mk.inj e
        exact mk_lret C hr hlk e0 (by rw [← e1]) dX9_chance_64
      · replace hf := (if_pos c9).symm.trans hf
        refine mk_aload_n C 0 dX9_chance_39 rfl ?_
        refine mk_get C mk_inX9 0 rfl rfl 45 (by decide) mw_947 (v := .ref (aX 46)) rfl dX9_chance_40 ?_
        refine mk_bipush C (v := 13) dX9_chance_43 (by decide) ?_
        refine mk_iload_n C 2 dX9_chance_45 rfl ?_
        refine mk_imul C dX9_chance_46 ?_
        refine mk_iload_n C 3 dX9_chance_47 rfl ?_
        refine mk_iadd C dX9_chance_48 ?_
        obtain ⟨g11, hf⟩ := gI_some hf
        refine mk_lald C 21 1 (f := (uL_7 45)) rfl rfl g11 (j := (((13 * p2) + p3) : Int32).toNatClampNeg) rfl dX9_chance_49 ?_
        refine mk_goto C 64 dX9_chance_50 (by decide) ?_
        have e := Option.some.inj hf
        obtain ⟨e0, e1⟩ := Prod.mk.inj e
        exact mk_lret C hr hlk e0 (by rw [← e1]) dX9_chance_64
    · replace hf := (if_pos c6).symm.trans hf
      refine mk_ldc2 C (v := (-2)) mw_1313 dX9_chance_23 ?_
      have e := Option.some.inj hf
      obtain ⟨e0, e1⟩ := Prod.mk.inj e
      exact mk_lret C hr hlk e0 (by rw [← e1]) dX9_chance_26
set_option maxHeartbeats 40000000 in
set_option maxRecDepth 100000 in
theorem c_X_best (l : Launch) (D : va_G) (cI cJ : ClassId) (X Y : Nat → Nat) (aX : Nat → Nat) (uX : Nat → Nat → Int32) (uL : Nat → Nat → Int64) (p1 : Int32) (r : Int32) (wL : Nat → Nat → Int64) (hf : f_X_best uL p1 = some (r, wL)) : mk_Met l yX9_best cX9_best 4 (some .int) ({ frames := 104, cells := 0, slots := 0, locals := 2521 }) D [(cI, .int), (cJ, .long)] X Y [.ref (aX 0), .int p1] (wModel aX cI cJ uX uL) (wModel aX cI cJ uX wL) (some (.int r)) 0 0 := by
  refine mk_start (own := RX9) (by decide) rfl (Nat.le_of_ble_eq_true rfl) ?_
  intro sz p e s m args below meth c A C hr hlk hnm
  replace C : mk_Cx p s m args c cX9_best 4 RX9 D [(cI, .int), (cJ, .long)] X Y A := C
  have wL28 : ∀ (n : Nat) (v2 : Int32) (v3 : Int32) (uL : Nat → Nat → Int64), f_X_best_28 p1 n v2 v3 uL = some (r, wL) → mk_Go p l e (headSpec (mk_ws yX9_best cX9_best 4 (some .int)) ({ frames := 104, cells := 0, slots := 0, locals := 2521 })).room s m args below meth c D A 4 0 0 (MQ below (mk_Q (some (.int r)) D (wModel aX cI cJ uX wL) A) args s 0 0 A) 28 (wModel aX cI cJ uX uL) [(0, .ref (aX 0)), (2, .int v2), (3, .int v3)] [] := by
    intro  n
    induction n with
    | zero => intro v2 v3 uL hf; exact nomatch (show (none : Option (Int32 × (Nat → Nat → Int64))) = some _ from hf)
    | succ n ih =>
      intro v2 v3 uL hf
      rw [f_X_best_28] at hf
      refine mk_iload_n C 2 dX9_best_28 rfl ?_
      refine mk_bipush C (v := 9) dX9_best_29 (by decide) ?_
      refine mk_icmp_ge C 82 dX9_best_31 (by decide) (fun c1 => ?_) (fun c1 => ?_)
      · replace hf := (if_pos c1).symm.trans hf
        refine mk_iload_n C 1 dX9_best_82 rfl ?_
        have e := Option.some.inj hf
        obtain ⟨e0, e1⟩ := Prod.mk.inj e
        exact mk_iret C hr hlk e0 (by rw [← e1]) dX9_best_83
      · replace hf := (if_neg c1).symm.trans hf
        refine mk_iload_n C 2 dX9_best_34 rfl ?_
        refine mk_i2l C dX9_best_35 ?_
        refine mk_aload_n C 0 dX9_best_36 rfl ?_
        refine mk_get C mk_inX9 0 rfl rfl 44 (by decide) mw_946 (v := .ref (aX 45)) rfl dX9_best_37 ?_
        refine mk_iload_n C 2 dX9_best_40 rfl ?_
        obtain ⟨g2, hf⟩ := gI_some hf
        refine mk_lald C 20 1 (f := (uL 44)) rfl rfl g2 (j := (v3 : Int32).toNatClampNeg) rfl dX9_best_41 ?_
        refine mk_lmul C dX9_best_42 ?_
        refine mk_aload_n C 0 dX9_best_43 rfl ?_
        refine mk_get C mk_inX9 0 rfl rfl 43 (by decide) mw_945 (v := .ref (aX 44)) rfl dX9_best_44 ?_
        refine mk_iload_n C 1 dX9_best_47 rfl ?_
        obtain ⟨g3, hf⟩ := gI_some hf
        refine mk_lald C 19 1 (f := (uL 43)) rfl rfl g3 (j := (v2 : Int32).toNatClampNeg) rfl dX9_best_48 ?_
        refine mk_lmul C dX9_best_49 ?_
        refine mk_iload_n C 1 dX9_best_50 rfl ?_
        refine mk_i2l C dX9_best_51 ?_
        refine mk_aload_n C 0 dX9_best_52 rfl ?_
        refine mk_get C mk_inX9 0 rfl rfl 44 (by decide) mw_946 (v := .ref (aX 45)) rfl dX9_best_53 ?_
        refine mk_iload_n C 1 dX9_best_56 rfl ?_
        refine mk_lald C 20 1 (f := (uL 44)) rfl rfl g3 (j := (v2 : Int32).toNatClampNeg) rfl dX9_best_57 ?_
        refine mk_lmul C dX9_best_58 ?_
        refine mk_aload_n C 0 dX9_best_59 rfl ?_
        refine mk_get C mk_inX9 0 rfl rfl 43 (by decide) mw_945 (v := .ref (aX 44)) rfl dX9_best_60 ?_
        refine mk_iload_n C 2 dX9_best_63 rfl ?_
        refine mk_lald C 19 1 (f := (uL 43)) rfl rfl g2 (j := (v3 : Int32).toNatClampNeg) rfl dX9_best_64 ?_
        refine mk_lmul C dX9_best_65 ?_
        refine mk_lcmp C dX9_best_66 ?_
        refine mk_if_le C 74 dX9_best_67 (by decide) (fun c4 => ?_) (fun c4 => ?_)
        · replace hf := (if_pos c4).symm.trans hf
          refine mk_iload_n C 1 dX9_best_74 rfl ?_
          refine mk_istore_n C (lv' := [(2, .int v2), (0, .ref (aX 0)), (3, .int v3)]) dX9_best_75 (by decide) rfl ?_
          refine mk_iinc C (v := (v3 + 1)) (lv' := [(3, .int (v3 + 1)), (2, .int v2), (0, .ref (aX 0))]) 2 dX9_best_76 rfl rfl (by decide) rfl ?_
          refine mk_goto C 28 dX9_best_79 (by decide) ?_
          exact mk_lvsub [2, 1, 0] rfl (ih _ _ _ hf)
        · replace hf := (if_neg c4).symm.trans hf
          refine mk_iload_n C 2 dX9_best_70 rfl ?_
          refine mk_goto C 75 dX9_best_71 (by decide) ?_
          refine mk_istore_n C (lv' := [(2, .int v3), (0, .ref (aX 0)), (3, .int v3)]) dX9_best_75 (by decide) rfl ?_
          refine mk_iinc C (v := (v3 + 1)) (lv' := [(3, .int (v3 + 1)), (2, .int v3), (0, .ref (aX 0))]) 2 dX9_best_76 rfl rfl (by decide) rfl ?_
          refine mk_goto C 28 dX9_best_79 (by decide) ?_
          exact mk_lvsub [2, 1, 0] rfl (ih _ _ _ hf)
  show mk_Go p l e (headSpec (mk_ws yX9_best cX9_best 4 (some .int)) ({ frames := 104, cells := 0, slots := 0, locals := 2521 })).room s m args below meth c D A 4 0 0 (MQ below (mk_Q (some (.int r)) D (wModel aX cI cJ uX wL) A) args s 0 0 A) 0 (wModel aX cI cJ uX uL) [(0, .ref (aX 0)), (1, .int p1)] []
  unfold f_X_best at hf
  refine mk_iload_n C 1 dX9_best_0 rfl ?_
  refine mk_i2l C dX9_best_1 ?_
  refine mk_lconst C (v := 0) dX9_best_2 (by decide) ?_
  refine mk_lconst C (v := 1) dX9_best_3 (by decide) ?_
  obtain ⟨r5, h6, hf⟩ := b1_some hf
  refine mk_callSi C (c_X_in l D cI cJ X Y ((p1 : Int32).toInt64) 0 1 r5 h6) mw_1052 mw_1053 mw_10 mw_1054 mkn_X9_in rfl ⟨Nat.le_of_ble_eq_true rfl, Nat.le_of_ble_eq_true rfl⟩ (mk_Fr.nil _) (Nat.le_of_ble_eq_true rfl) dX9_best_4 rfl ?_
  refine mk_if_ne C 13 dX9_best_7 (by decide) (fun c7 => ?_) (fun c7 => ?_)
  · replace hf := (if_neg c7).symm.trans hf
    refine mk_aload_n C 0 dX9_best_13 rfl ?_
    refine mk_iload_n C 1 dX9_best_14 rfl ?_
    refine mk_bipush C (v := 8) dX9_best_15 (by decide) ?_
    refine mk_lconst C (v := 1) dX9_best_17 (by decide) ?_
    refine mk_ldc2 C (v := 2) mw_1252 dX9_best_18 ?_
    obtain ⟨uL_8, h9, hf⟩ := b1_some hf
    refine mk_callVv C (c_X_means l D cI cJ X Y aX uX uL p1 8 1 2 uL_8 h9) mw_1314 mw_1316 mw_s31 mw_10 mw_1317 mkn_X9_means rfl ⟨Nat.le_of_ble_eq_true rfl, Nat.le_of_ble_eq_true rfl⟩ 0 rfl rfl rfl (mk_Fr.all _ _) (Nat.le_of_ble_eq_true rfl) dX9_best_21 rfl ?_
    refine mk_iconst C (v := 1) dX9_best_24 (by decide) ?_
    refine mk_istore_n C (lv' := [(2, .int 1), (0, .ref (aX 0)), (1, .int p1)]) dX9_best_25 (by decide) rfl ?_
    refine mk_iconst C (v := 2) dX9_best_26 (by decide) ?_
    refine mk_istore_n C (lv' := [(3, .int 2), (2, .int 1), (0, .ref (aX 0)), (1, .int p1)]) dX9_best_27 (by decide) rfl ?_
    exact mk_lvsub [2, 1, 0] rfl (wL28 600 _ _ _ hf)
  · replace hf := (if_pos c7).symm.trans hf
    refine mk_bipush C (v := (-2)) dX9_best_10 (by decide) ?_
    have e := Option.some.inj hf
    obtain ⟨e0, e1⟩ := Prod.mk.inj e
    exact mk_iret C hr hlk e0 (by rw [← e1]) dX9_best_12
set_option maxHeartbeats 40000000 in
set_option maxRecDepth 100000 in
theorem c_X_keeps (l : Launch) (D : va_G) (cI cJ : ClassId) (X Y : Nat → Nat) (aX : Nat → Nat) (uX : Nat → Nat → Int32) (uL : Nat → Nat → Int64) (wX : Nat → Nat → Int32) (hf : f_X_keeps uX = some wX) : mk_Met l yX9_keeps cX9_keeps 2 none ({ frames := 0, cells := 0, slots := 0, locals := 0 }) D [(cI, .int), (cJ, .long)] X Y [.ref (aX 0)] (wModel aX cI cJ uX uL) (wModel aX cI cJ wX uL) none 0 0 := by
  refine mk_start (own := RX9) (by decide) rfl (Nat.le_of_ble_eq_true rfl) ?_
  intro sz p e s m args below meth c A C hr hlk hnm
  replace C : mk_Cx p s m args c cX9_keeps 2 RX9 D [(cI, .int), (cJ, .long)] X Y A := C
  have wL2 : ∀ (n : Nat) (v1 : Int32) (uX : Nat → Nat → Int32), f_X_keeps_2 n v1 uX = some wX → mk_Go p l e (headSpec (mk_ws yX9_keeps cX9_keeps 2 none) ({ frames := 0, cells := 0, slots := 0, locals := 0 })).room s m args below meth c D A 2 0 0 (MQ below (mk_Q none D (wModel aX cI cJ wX uL) A) args s 0 0 A) 2 (wModel aX cI cJ uX uL) [(0, .ref (aX 0)), (1, .int v1)] [] := by
    intro  n
    induction n with
    | zero => intro v1 uX hf; exact nomatch (show (none : Option ((Nat → Nat → Int32))) = some _ from hf)
    | succ n ih =>
      intro v1 uX hf
      rw [f_X_keeps_2] at hf
      refine mk_iload_n C 1 dX9_keeps_2 rfl ?_
      refine mk_bipush C (v := 57) dX9_keeps_3 (by decide) ?_
      refine mk_icmp_ge C 34 dX9_keeps_5 (by decide) (fun c1 => ?_) (fun c1 => ?_)
      · replace hf := (if_pos c1).symm.trans hf
        refine mk_aload_n C 0 dX9_keeps_34 rfl ?_
        refine mk_dup C dX9_keeps_35 rfl ?_
        refine mk_get C mk_inX9 0 rfl rfl 3 (by decide) mw_905 (v := .int (uX 3 0)) rfl dX9_keeps_36 ?_
        refine mk_iconst C (v := 1) dX9_keeps_39 (by decide) ?_
        refine mk_iadd C dX9_keeps_40 ?_
        refine mk_put C mk_inX9 tyX9 tyX9_ok nmX9 0 rfl rfl 3 (by decide) mw_905 rfl rfl rfl (Nat.le_of_ble_eq_true rfl) (ws' := (wModel aX cI cJ (upF 3 ((uX 3 0) + 1) uX) uL)) (st_X_X_3 cI cJ aX uX uL ((uX 3 0) + 1)) dX9_keeps_41 ?_
        have e0 := Option.some.inj hf
        exact mk_vret C hr hlk (by rw [← e0]) dX9_keeps_44
      · replace hf := (if_neg c1).symm.trans hf
        refine mk_aload_n C 0 dX9_keeps_8 rfl ?_
        refine mk_get C mk_inX9 0 rfl rfl 2 (by decide) mw_904 (v := .ref (aX 3)) rfl dX9_keeps_9 ?_
        refine mk_bipush C (v := 57) dX9_keeps_12 (by decide) ?_
        refine mk_aload_n C 0 dX9_keeps_14 rfl ?_
        refine mk_get C mk_inX9 0 rfl rfl 3 (by decide) mw_905 (v := .int (uX 3 0)) rfl dX9_keeps_15 ?_
        refine mk_imul C dX9_keeps_18 ?_
        refine mk_iload_n C 1 dX9_keeps_19 rfl ?_
        refine mk_iadd C dX9_keeps_20 ?_
        refine mk_aload_n C 0 dX9_keeps_21 rfl ?_
        refine mk_get C mk_inX9 0 rfl rfl 0 (by decide) mw_902 (v := .ref (aX 1)) rfl dX9_keeps_22 ?_
        refine mk_iload_n C 1 dX9_keeps_25 rfl ?_
        obtain ⟨g2, hf⟩ := gI_some hf
        refine mk_iald C 1 0 (f := (uX 0)) rfl rfl g2 (j := (v1 : Int32).toNatClampNeg) rfl dX9_keeps_26 ?_
        obtain ⟨g3, hf⟩ := gI_some hf
        refine mk_iast C 3 0 (f := (uX 2)) rfl rfl g3 (j := (((57 * (uX 3 0)) + v1) : Int32).toNatClampNeg) rfl (ws' := (wModel aX cI cJ (upR 2 (upd (uX 2) (((57 * (uX 3 0)) + v1) : Int32).toNatClampNeg ((uX 0) (v1 : Int32).toNatClampNeg)) uX) uL)) (st_X_X_2 cI cJ aX uX uL (upd (uX 2) (((57 * (uX 3 0)) + v1) : Int32).toNatClampNeg ((uX 0) (v1 : Int32).toNatClampNeg))) dX9_keeps_27 ?_
        refine mk_iinc C (v := (v1 + 1)) (lv' := [(1, .int (v1 + 1)), (0, .ref (aX 0))]) 1 dX9_keeps_28 rfl rfl (by decide) rfl ?_
        refine mk_goto C 2 dX9_keeps_31 (by decide) ?_
        exact mk_lvsub [1, 0] rfl (ih _ _ hf)
  show mk_Go p l e (headSpec (mk_ws yX9_keeps cX9_keeps 2 none) ({ frames := 0, cells := 0, slots := 0, locals := 0 })).room s m args below meth c D A 2 0 0 (MQ below (mk_Q none D (wModel aX cI cJ wX uL) A) args s 0 0 A) 0 (wModel aX cI cJ uX uL) [(0, .ref (aX 0))] []
  unfold f_X_keeps at hf
  refine mk_iconst C (v := 0) dX9_keeps_0 (by decide) ?_
  refine mk_istore_n C (lv' := [(1, .int 0), (0, .ref (aX 0))]) dX9_keeps_1 (by decide) rfl ?_
  exact mk_lvsub [1, 0] rfl (wL2 600 _ _ hf)
set_option maxHeartbeats 40000000 in
set_option maxRecDepth 100000 in
theorem c_X_goesBack (l : Launch) (D : va_G) (cI cJ : ClassId) (X Y : Nat → Nat) (aX : Nat → Nat) (uX : Nat → Nat → Int32) (uL : Nat → Nat → Int64) (p1 : Int32) (wX : Nat → Nat → Int32) (hf : f_X_goesBack uX p1 = some wX) : mk_Met l yX9_goesBack cX9_goesBack 3 none ({ frames := 0, cells := 0, slots := 0, locals := 0 }) D [(cI, .int), (cJ, .long)] X Y [.ref (aX 0), .int p1] (wModel aX cI cJ uX uL) (wModel aX cI cJ wX uL) none 0 0 := by
  refine mk_start (own := RX9) (by decide) rfl (Nat.le_of_ble_eq_true rfl) ?_
  intro sz p e s m args below meth c A C hr hlk hnm
  replace C : mk_Cx p s m args c cX9_goesBack 3 RX9 D [(cI, .int), (cJ, .long)] X Y A := C
  have wL7 : ∀ (n : Nat) (v2 : Int32) (uX : Nat → Nat → Int32), f_X_goesBack_7 p1 n v2 uX = some wX → mk_Go p l e (headSpec (mk_ws yX9_goesBack cX9_goesBack 3 none) ({ frames := 0, cells := 0, slots := 0, locals := 0 })).room s m args below meth c D A 3 0 0 (MQ below (mk_Q none D (wModel aX cI cJ wX uL) A) args s 0 0 A) 7 (wModel aX cI cJ uX uL) [(0, .ref (aX 0)), (1, .int p1), (2, .int v2)] [] := by
    intro  n
    induction n with
    | zero => intro v2 uX hf; exact nomatch (show (none : Option ((Nat → Nat → Int32))) = some _ from hf)
    | succ n ih =>
      intro v2 uX hf
      rw [f_X_goesBack_7] at hf
      refine mk_iload_n C 2 dX9_goesBack_7 rfl ?_
      refine mk_bipush C (v := 57) dX9_goesBack_8 (by decide) ?_
      refine mk_icmp_ge C 36 dX9_goesBack_10 (by decide) (fun c1 => ?_) (fun c1 => ?_)
      · replace hf := (if_pos c1).symm.trans hf
        have e0 := Option.some.inj hf
        exact mk_vret C hr hlk (by rw [← e0]) dX9_goesBack_36
      · replace hf := (if_neg c1).symm.trans hf
        refine mk_aload_n C 0 dX9_goesBack_13 rfl ?_
        refine mk_get C mk_inX9 0 rfl rfl 0 (by decide) mw_902 (v := .ref (aX 1)) rfl dX9_goesBack_14 ?_
        refine mk_iload_n C 2 dX9_goesBack_17 rfl ?_
        refine mk_aload_n C 0 dX9_goesBack_18 rfl ?_
        refine mk_get C mk_inX9 0 rfl rfl 2 (by decide) mw_904 (v := .ref (aX 3)) rfl dX9_goesBack_19 ?_
        refine mk_bipush C (v := 57) dX9_goesBack_22 (by decide) ?_
        refine mk_iload_n C 1 dX9_goesBack_24 rfl ?_
        refine mk_imul C dX9_goesBack_25 ?_
        refine mk_iload_n C 2 dX9_goesBack_26 rfl ?_
        refine mk_iadd C dX9_goesBack_27 ?_
        obtain ⟨g2, hf⟩ := gI_some hf
        refine mk_iald C 3 0 (f := (uX 2)) rfl rfl g2 (j := (((57 * p1) + v2) : Int32).toNatClampNeg) rfl dX9_goesBack_28 ?_
        obtain ⟨g3, hf⟩ := gI_some hf
        refine mk_iast C 1 0 (f := (uX 0)) rfl rfl g3 (j := (v2 : Int32).toNatClampNeg) rfl (ws' := (wModel aX cI cJ (upR 0 (upd (uX 0) (v2 : Int32).toNatClampNeg ((uX 2) (((57 * p1) + v2) : Int32).toNatClampNeg)) uX) uL)) (st_X_X_0 cI cJ aX uX uL (upd (uX 0) (v2 : Int32).toNatClampNeg ((uX 2) (((57 * p1) + v2) : Int32).toNatClampNeg))) dX9_goesBack_29 ?_
        refine mk_iinc C (v := (v2 + 1)) (lv' := [(2, .int (v2 + 1)), (0, .ref (aX 0)), (1, .int p1)]) 2 dX9_goesBack_30 rfl rfl (by decide) rfl ?_
        refine mk_goto C 7 dX9_goesBack_33 (by decide) ?_
        exact mk_lvsub [1, 2, 0] rfl (ih _ _ hf)
  show mk_Go p l e (headSpec (mk_ws yX9_goesBack cX9_goesBack 3 none) ({ frames := 0, cells := 0, slots := 0, locals := 0 })).room s m args below meth c D A 3 0 0 (MQ below (mk_Q none D (wModel aX cI cJ wX uL) A) args s 0 0 A) 0 (wModel aX cI cJ uX uL) [(0, .ref (aX 0)), (1, .int p1)] []
  unfold f_X_goesBack at hf
  refine mk_aload_n C 0 dX9_goesBack_0 rfl ?_
  refine mk_iload_n C 1 dX9_goesBack_1 rfl ?_
  refine mk_put C mk_inX9 tyX9 tyX9_ok nmX9 0 rfl rfl 3 (by decide) mw_905 rfl rfl rfl (Nat.le_of_ble_eq_true rfl) (ws' := (wModel aX cI cJ (upF 3 p1 uX) uL)) (st_X_X_3 cI cJ aX uX uL p1) dX9_goesBack_2 ?_
  refine mk_iconst C (v := 0) dX9_goesBack_5 (by decide) ?_
  refine mk_istore_n C (lv' := [(2, .int 0), (0, .ref (aX 0)), (1, .int p1)]) dX9_goesBack_6 (by decide) rfl ?_
  exact mk_lvsub [1, 2, 0] rfl (wL7 600 _ _ hf)
set_option maxHeartbeats 40000000 in
set_option maxRecDepth 100000 in
theorem c_X_allNow (l : Launch) (D : va_G) (cI cJ : ClassId) (X Y : Nat → Nat) (aX : Nat → Nat) (uX : Nat → Nat → Int32) (uL : Nat → Nat → Int64) (r : Int32) (wX : Nat → Nat → Int32) (hf : f_X_allNow uX = some (r, wX)) : mk_Met l yX9_allNow cX9_allNow 1 (some .int) ({ frames := 6, cells := 0, slots := 0, locals := 141 }) D [(cI, .int), (cJ, .long)] X Y [.ref (aX 0)] (wModel aX cI cJ uX uL) (wModel aX cI cJ wX uL) (some (.int r)) 0 0 := by
  refine mk_start (own := RX9) (by decide) rfl (Nat.le_of_ble_eq_true rfl) ?_
  intro sz p e s m args below meth c A C hr hlk hnm
  replace C : mk_Cx p s m args c cX9_allNow 1 RX9 D [(cI, .int), (cJ, .long)] X Y A := C
  show mk_Go p l e (headSpec (mk_ws yX9_allNow cX9_allNow 1 (some .int)) ({ frames := 6, cells := 0, slots := 0, locals := 141 })).room s m args below meth c D A 1 0 0 (MQ below (mk_Q (some (.int r)) D (wModel aX cI cJ wX uL) A) args s 0 0 A) 0 (wModel aX cI cJ uX uL) [(0, .ref (aX 0))] []
  unfold f_X_allNow at hf
  refine mk_aload_n C 0 dX9_allNow_0 rfl ?_
  obtain ⟨uX_1, h2, hf⟩ := b1_some hf
  refine mk_callVv C (c_X_runs l D cI cJ X Y aX uX uL uX_1 h2) mw_1158 mw_1160 mw_s15 mw_10 mw_1161 mkn_X9_runs rfl ⟨Nat.le_of_ble_eq_true rfl, Nat.le_of_ble_eq_true rfl⟩ 0 rfl rfl rfl (mk_Fr.all _ _) (Nat.le_of_ble_eq_true rfl) dX9_allNow_1 rfl ?_
  refine mk_aload_n C 0 dX9_allNow_4 rfl ?_
  refine mk_get C mk_inX9 0 rfl rfl 40 (by decide) mw_942 (v := .int (uX_1 40 0)) rfl dX9_allNow_5 ?_
  have e := Option.some.inj hf
  obtain ⟨e0, e1⟩ := Prod.mk.inj e
  exact mk_iret C hr hlk e0 (by rw [← e1]) dX9_allNow_8
set_option maxHeartbeats 40000000 in
set_option maxRecDepth 100000 in
theorem c_X_add (l : Launch) (D : va_G) (cI cJ : ClassId) (X Y : Nat → Nat) (aX : Nat → Nat) (uX : Nat → Nat → Int32) (uL : Nat → Nat → Int64) (p1 : Int32) (p2 : Int32) (p3 : Int32) (r : Int32) (wX : Nat → Nat → Int32) (hf : f_X_add uX p1 p2 p3 = some (r, wX)) : mk_Met l yX9_add cX9_add 5 (some .int) ({ frames := 7, cells := 0, slots := 0, locals := 161 }) D [(cI, .int), (cJ, .long)] X Y [.ref (aX 0), .int p1, .int p2, .int p3] (wModel aX cI cJ uX uL) (wModel aX cI cJ wX uL) (some (.int r)) 0 0 := by
  refine mk_start (own := RX9) (by decide) rfl (Nat.le_of_ble_eq_true rfl) ?_
  intro sz p e s m args below meth c A C hr hlk hnm
  replace C : mk_Cx p s m args c cX9_add 5 RX9 D [(cI, .int), (cJ, .long)] X Y A := C
  show mk_Go p l e (headSpec (mk_ws yX9_add cX9_add 5 (some .int)) ({ frames := 7, cells := 0, slots := 0, locals := 161 })).room s m args below meth c D A 5 0 0 (MQ below (mk_Q (some (.int r)) D (wModel aX cI cJ wX uL) A) args s 0 0 A) 0 (wModel aX cI cJ uX uL) [(0, .ref (aX 0)), (1, .int p1), (2, .int p2), (3, .int p3)] []
  unfold f_X_add at hf
  refine mk_aload_n C 0 dX9_add_0 rfl ?_
  obtain ⟨r1, h2, hf⟩ := b1_some hf
  refine mk_callVi C (c_X_is l D cI cJ X Y aX uX uL r1 h2) mw_1153 mw_1155 mw_s14 mw_10 mw_1156 mkn_X9_is rfl ⟨Nat.le_of_ble_eq_true rfl, Nat.le_of_ble_eq_true rfl⟩ 0 rfl rfl rfl (mk_Fr.all _ _) (Nat.le_of_ble_eq_true rfl) dX9_add_1 rfl ?_
  refine mk_if_eq C 46 dX9_add_4 (by decide) (fun c3 => ?_) (fun c3 => ?_)
  · replace hf := (if_pos c3).symm.trans hf
    refine mk_bipush C (v := (-2)) dX9_add_46 (by decide) ?_
    have e := Option.some.inj hf
    obtain ⟨e0, e1⟩ := Prod.mk.inj e
    exact mk_iret C hr hlk e0 (by rw [← e1]) dX9_add_48
  · replace hf := (if_neg c3).symm.trans hf
    refine mk_iload_n C 1 dX9_add_7 rfl ?_
    refine mk_i2l C dX9_add_8 ?_
    refine mk_lconst C (v := 0) dX9_add_9 (by decide) ?_
    refine mk_ldc2 C (v := 199) mw_1368 dX9_add_10 ?_
    obtain ⟨r4, h5, hf⟩ := b1_some hf
    refine mk_callSi C (c_X_in l D cI cJ X Y ((p1 : Int32).toInt64) 0 199 r4 h5) mw_1052 mw_1053 mw_10 mw_1054 mkn_X9_in rfl ⟨Nat.le_of_ble_eq_true rfl, Nat.le_of_ble_eq_true rfl⟩ (mk_Fr.nil _) (Nat.le_of_ble_eq_true rfl) dX9_add_13 rfl ?_
    refine mk_if_eq C 46 dX9_add_16 (by decide) (fun c6 => ?_) (fun c6 => ?_)
    · replace hf := (if_pos c6).symm.trans hf
      refine mk_bipush C (v := (-2)) dX9_add_46 (by decide) ?_
      have e := Option.some.inj hf
      obtain ⟨e0, e1⟩ := Prod.mk.inj e
      exact mk_iret C hr hlk e0 (by rw [← e1]) dX9_add_48
    · replace hf := (if_neg c6).symm.trans hf
      refine mk_iload_n C 3 dX9_add_19 rfl ?_
      refine mk_i2l C dX9_add_20 ?_
      refine mk_lconst C (v := 1) dX9_add_21 (by decide) ?_
      refine mk_ldc2 C (v := 12) mw_1351 dX9_add_22 ?_
      obtain ⟨r7, h8, hf⟩ := b1_some hf
      refine mk_callSi C (c_X_in l D cI cJ X Y ((p3 : Int32).toInt64) 1 12 r7 h8) mw_1052 mw_1053 mw_10 mw_1054 mkn_X9_in rfl ⟨Nat.le_of_ble_eq_true rfl, Nat.le_of_ble_eq_true rfl⟩ (mk_Fr.nil _) (Nat.le_of_ble_eq_true rfl) dX9_add_25 rfl ?_
      refine mk_if_eq C 46 dX9_add_28 (by decide) (fun c9 => ?_) (fun c9 => ?_)
      · replace hf := (if_pos c9).symm.trans hf
        refine mk_bipush C (v := (-2)) dX9_add_46 (by decide) ?_
        have e := Option.some.inj hf
        obtain ⟨e0, e1⟩ := Prod.mk.inj e
        exact mk_iret C hr hlk e0 (by rw [← e1]) dX9_add_48
      · replace hf := (if_neg c9).symm.trans hf
        refine mk_iload_n C 2 dX9_add_31 rfl ?_
        refine mk_i2l C dX9_add_32 ?_
        refine mk_lconst C (v := 0) dX9_add_33 (by decide) ?_
        refine mk_iconst C (v := 1) dX9_add_34 (by decide) ?_
        refine mk_iload_n C 3 dX9_add_35 rfl ?_
        refine mk_ishl C dX9_add_36 ?_
        refine mk_iconst C (v := 1) dX9_add_37 (by decide) ?_
        refine mk_isub C dX9_add_38 ?_
        refine mk_i2l C dX9_add_39 ?_
        obtain ⟨r10, h11, hf⟩ := b1_some hf
        refine mk_callSi C (c_X_in l D cI cJ X Y ((p2 : Int32).toInt64) 0 ((((1 <<< (p3 &&& 31)) - 1) : Int32).toInt64) r10 h11) mw_1052 mw_1053 mw_10 mw_1054 mkn_X9_in rfl ⟨Nat.le_of_ble_eq_true rfl, Nat.le_of_ble_eq_true rfl⟩ (mk_Fr.nil _) (Nat.le_of_ble_eq_true rfl) dX9_add_40 rfl ?_
        refine mk_if_ne C 49 dX9_add_43 (by decide) (fun c12 => ?_) (fun c12 => ?_)
        · replace hf := (if_neg c12).symm.trans hf
          refine mk_aload_n C 0 dX9_add_49 rfl ?_
          refine mk_get C mk_inX9 0 rfl rfl 0 (by decide) mw_902 (v := .ref (aX 1)) rfl dX9_add_50 ?_
          refine mk_iconst C (v := 4) dX9_add_53 (by decide) ?_
          refine mk_iald C 1 0 (f := (uX 0)) rfl rfl (mk_vi (by decide)) (j := 4) (by decide) dX9_add_54 ?_
          refine mk_bipush C (v := 10) dX9_add_55 (by decide) ?_
          refine mk_icmp_eq C 69 dX9_add_57 (by decide) (fun c13 => ?_) (fun c13 => ?_)
          · replace hf := (if_pos c13).symm.trans hf
            refine mk_bipush C (v := (-5)) dX9_add_69 (by decide) ?_
            have e := Option.some.inj hf
            obtain ⟨e0, e1⟩ := Prod.mk.inj e
            exact mk_iret C hr hlk e0 (by rw [← e1]) dX9_add_71
          · replace hf := (if_neg c13).symm.trans hf
            refine mk_aload_n C 0 dX9_add_60 rfl ?_
            refine mk_get C mk_inX9 0 rfl rfl 3 (by decide) mw_905 (v := .int (uX 3 0)) rfl dX9_add_61 ?_
            refine mk_bipush C (v := 20) dX9_add_64 (by decide) ?_
            refine mk_icmp_ne C 72 dX9_add_66 (by decide) (fun c14 => ?_) (fun c14 => ?_)
            · replace hf := (if_neg c14).symm.trans hf
              refine mk_aload_n C 0 dX9_add_72 rfl ?_
              obtain ⟨uX_15, h16, hf⟩ := b1_some hf
              refine mk_callVv C (c_X_keeps l D cI cJ X Y aX uX uL uX_15 h16) mw_1369 mw_1371 mw_s37 mw_10 mw_1372 mkn_X9_keeps rfl ⟨Nat.le_of_ble_eq_true rfl, Nat.le_of_ble_eq_true rfl⟩ 0 rfl rfl rfl (mk_Fr.all _ _) (Nat.le_of_ble_eq_true rfl) dX9_add_73 rfl ?_
              refine mk_aload_n C 0 dX9_add_76 rfl ?_
              refine mk_get C mk_inX9 0 rfl rfl 0 (by decide) mw_902 (v := .ref (aX 1)) rfl dX9_add_77 ?_
              refine mk_iconst C (v := 4) dX9_add_80 (by decide) ?_
              refine mk_iald C 1 0 (f := (uX_15 0)) rfl rfl (mk_vi (by decide)) (j := 4) (by decide) dX9_add_81 ?_
              refine mk_istore C (lv' := [(4, .int ((uX_15 0) 4)), (0, .ref (aX 0)), (1, .int p1), (2, .int p2), (3, .int p3)]) dX9_add_82 (by decide) rfl ?_
              refine mk_aload_n C 1 dX9_add_84 rfl ?_
              refine mk_get C mk_inX9 0 rfl rfl 0 (by decide) mw_902 (v := .ref (aX 1)) rfl dX9_add_85 ?_
              refine mk_bipush C (v := 7) dX9_add_88 (by decide) ?_
              refine mk_iload C 0 dX9_add_90 rfl ?_
              refine mk_iadd C dX9_add_92 ?_
              refine mk_iload_n C 2 dX9_add_93 rfl ?_
              obtain ⟨g17, hf⟩ := gI_some hf
              refine mk_iast C 1 0 (f := (uX_15 0)) rfl rfl g17 (j := ((7 + ((uX_15 0) 4)) : Int32).toNatClampNeg) rfl (ws' := (wModel aX cI cJ (upR 0 (upd (uX_15 0) ((7 + ((uX_15 0) 4)) : Int32).toNatClampNeg p1) uX_15) uL)) (st_X_X_0 cI cJ aX uX_15 uL (upd (uX_15 0) ((7 + ((uX_15 0) 4)) : Int32).toNatClampNeg p1)) dX9_add_94 ?_
              refine mk_aload_n C 1 dX9_add_95 rfl ?_
              refine mk_get C mk_inX9 0 rfl rfl 0 (by decide) mw_902 (v := .ref (aX 1)) rfl dX9_add_96 ?_
              refine mk_bipush C (v := 17) dX9_add_99 (by decide) ?_
              refine mk_iload C 0 dX9_add_101 rfl ?_
              refine mk_iadd C dX9_add_103 ?_
              refine mk_iload_n C 4 dX9_add_104 rfl ?_
              obtain ⟨g18, hf⟩ := gI_some hf
              refine mk_iast C 1 0 (f := (upd (uX_15 0) ((7 + ((uX_15 0) 4)) : Int32).toNatClampNeg p1)) rfl rfl g18 (j := ((17 + ((uX_15 0) 4)) : Int32).toNatClampNeg) rfl (ws' := (wModel aX cI cJ (upR 0 (upd (upd (uX_15 0) ((7 + ((uX_15 0) 4)) : Int32).toNatClampNeg p1) ((17 + ((uX_15 0) 4)) : Int32).toNatClampNeg p3) (upR 0 (upd (uX_15 0) ((7 + ((uX_15 0) 4)) : Int32).toNatClampNeg p1) uX_15)) uL)) (st_X_X_0 cI cJ aX (upR 0 (upd (uX_15 0) ((7 + ((uX_15 0) 4)) : Int32).toNatClampNeg p1) uX_15) uL (upd (upd (uX_15 0) ((7 + ((uX_15 0) 4)) : Int32).toNatClampNeg p1) ((17 + ((uX_15 0) 4)) : Int32).toNatClampNeg p3)) dX9_add_105 ?_
              refine mk_aload_n C 1 dX9_add_106 rfl ?_
              refine mk_get C mk_inX9 0 rfl rfl 0 (by decide) mw_902 (v := .ref (aX 1)) rfl dX9_add_107 ?_
              refine mk_bipush C (v := 27) dX9_add_110 (by decide) ?_
              refine mk_iload C 0 dX9_add_112 rfl ?_
              refine mk_iadd C dX9_add_114 ?_
              refine mk_iload_n C 3 dX9_add_115 rfl ?_
              obtain ⟨g19, hf⟩ := gI_some hf
              refine mk_iast C 1 0 (f := (upd (upd (uX_15 0) ((7 + ((uX_15 0) 4)) : Int32).toNatClampNeg p1) ((17 + ((uX_15 0) 4)) : Int32).toNatClampNeg p3)) rfl rfl g19 (j := ((27 + ((uX_15 0) 4)) : Int32).toNatClampNeg) rfl (ws' := (wModel aX cI cJ (upR 0 (upd (upd (upd (uX_15 0) ((7 + ((uX_15 0) 4)) : Int32).toNatClampNeg p1) ((17 + ((uX_15 0) 4)) : Int32).toNatClampNeg p3) ((27 + ((uX_15 0) 4)) : Int32).toNatClampNeg p2) (upR 0 (upd (upd (uX_15 0) ((7 + ((uX_15 0) 4)) : Int32).toNatClampNeg p1) ((17 + ((uX_15 0) 4)) : Int32).toNatClampNeg p3) (upR 0 (upd (uX_15 0) ((7 + ((uX_15 0) 4)) : Int32).toNatClampNeg p1) uX_15))) uL)) (st_X_X_0 cI cJ aX (upR 0 (upd (upd (uX_15 0) ((7 + ((uX_15 0) 4)) : Int32).toNatClampNeg p1) ((17 + ((uX_15 0) 4)) : Int32).toNatClampNeg p3) (upR 0 (upd (uX_15 0) ((7 + ((uX_15 0) 4)) : Int32).toNatClampNeg p1) uX_15)) uL (upd (upd (upd (uX_15 0) ((7 + ((uX_15 0) 4)) : Int32).toNatClampNeg p1) ((17 + ((uX_15 0) 4)) : Int32).toNatClampNeg p3) ((27 + ((uX_15 0) 4)) : Int32).toNatClampNeg p2)) dX9_add_116 ?_
              refine mk_aload_n C 1 dX9_add_117 rfl ?_
              refine mk_get C mk_inX9 0 rfl rfl 0 (by decide) mw_902 (v := .ref (aX 1)) rfl dX9_add_118 ?_
              refine mk_iconst C (v := 4) dX9_add_121 (by decide) ?_
              refine mk_dup2 C dX9_add_122 rfl rfl ?_
              refine mk_iald C 1 0 (f := (upd (upd (upd (uX_15 0) ((7 + ((uX_15 0) 4)) : Int32).toNatClampNeg p1) ((17 + ((uX_15 0) 4)) : Int32).toNatClampNeg p3) ((27 + ((uX_15 0) 4)) : Int32).toNatClampNeg p2)) rfl rfl (mk_vi (by decide)) (j := 4) (by decide) dX9_add_123 ?_
              refine mk_iconst C (v := 1) dX9_add_124 (by decide) ?_
              refine mk_iadd C dX9_add_125 ?_
              refine mk_iast C 1 0 (f := (upd (upd (upd (uX_15 0) ((7 + ((uX_15 0) 4)) : Int32).toNatClampNeg p1) ((17 + ((uX_15 0) 4)) : Int32).toNatClampNeg p3) ((27 + ((uX_15 0) 4)) : Int32).toNatClampNeg p2)) rfl rfl (mk_vi (by decide)) (j := 4) (by decide) (ws' := (wModel aX cI cJ (upR 0 (upd (upd (upd (upd (uX_15 0) ((7 + ((uX_15 0) 4)) : Int32).toNatClampNeg p1) ((17 + ((uX_15 0) 4)) : Int32).toNatClampNeg p3) ((27 + ((uX_15 0) 4)) : Int32).toNatClampNeg p2) 4 (((upd (upd (upd (uX_15 0) ((7 + ((uX_15 0) 4)) : Int32).toNatClampNeg p1) ((17 + ((uX_15 0) 4)) : Int32).toNatClampNeg p3) ((27 + ((uX_15 0) 4)) : Int32).toNatClampNeg p2) 4) + 1)) (upR 0 (upd (upd (upd (uX_15 0) ((7 + ((uX_15 0) 4)) : Int32).toNatClampNeg p1) ((17 + ((uX_15 0) 4)) : Int32).toNatClampNeg p3) ((27 + ((uX_15 0) 4)) : Int32).toNatClampNeg p2) (upR 0 (upd (upd (uX_15 0) ((7 + ((uX_15 0) 4)) : Int32).toNatClampNeg p1) ((17 + ((uX_15 0) 4)) : Int32).toNatClampNeg p3) (upR 0 (upd (uX_15 0) ((7 + ((uX_15 0) 4)) : Int32).toNatClampNeg p1) uX_15)))) uL)) (st_X_X_0 cI cJ aX (upR 0 (upd (upd (upd (uX_15 0) ((7 + ((uX_15 0) 4)) : Int32).toNatClampNeg p1) ((17 + ((uX_15 0) 4)) : Int32).toNatClampNeg p3) ((27 + ((uX_15 0) 4)) : Int32).toNatClampNeg p2) (upR 0 (upd (upd (uX_15 0) ((7 + ((uX_15 0) 4)) : Int32).toNatClampNeg p1) ((17 + ((uX_15 0) 4)) : Int32).toNatClampNeg p3) (upR 0 (upd (uX_15 0) ((7 + ((uX_15 0) 4)) : Int32).toNatClampNeg p1) uX_15))) uL (upd (upd (upd (upd (uX_15 0) ((7 + ((uX_15 0) 4)) : Int32).toNatClampNeg p1) ((17 + ((uX_15 0) 4)) : Int32).toNatClampNeg p3) ((27 + ((uX_15 0) 4)) : Int32).toNatClampNeg p2) 4 (((upd (upd (upd (uX_15 0) ((7 + ((uX_15 0) 4)) : Int32).toNatClampNeg p1) ((17 + ((uX_15 0) 4)) : Int32).toNatClampNeg p3) ((27 + ((uX_15 0) 4)) : Int32).toNatClampNeg p2) 4) + 1))) dX9_add_126 ?_
              refine mk_aload_n C 1 dX9_add_127 rfl ?_
              obtain ⟨r20, uX_21, h22, hf⟩ := b2_some hf
              refine mk_callVi C (c_X_allNow l D cI cJ X Y aX (upR 0 (upd (upd (upd (upd (uX_15 0) ((7 + ((uX_15 0) 4)) : Int32).toNatClampNeg p1) ((17 + ((uX_15 0) 4)) : Int32).toNatClampNeg p3) ((27 + ((uX_15 0) 4)) : Int32).toNatClampNeg p2) 4 (((upd (upd (upd (uX_15 0) ((7 + ((uX_15 0) 4)) : Int32).toNatClampNeg p1) ((17 + ((uX_15 0) 4)) : Int32).toNatClampNeg p3) ((27 + ((uX_15 0) 4)) : Int32).toNatClampNeg p2) 4) + 1)) (upR 0 (upd (upd (upd (uX_15 0) ((7 + ((uX_15 0) 4)) : Int32).toNatClampNeg p1) ((17 + ((uX_15 0) 4)) : Int32).toNatClampNeg p3) ((27 + ((uX_15 0) 4)) : Int32).toNatClampNeg p2) (upR 0 (upd (upd (uX_15 0) ((7 + ((uX_15 0) 4)) : Int32).toNatClampNeg p1) ((17 + ((uX_15 0) 4)) : Int32).toNatClampNeg p3) (upR 0 (upd (uX_15 0) ((7 + ((uX_15 0) 4)) : Int32).toNatClampNeg p1) uX_15)))) uL r20 uX_21 h22) mw_1373 mw_1375 mw_s38 mw_10 mw_1376 mkn_X9_allNow rfl ⟨Nat.le_of_ble_eq_true rfl, Nat.le_of_ble_eq_true rfl⟩ 0 rfl rfl rfl (mk_Fr.all _ _) (Nat.le_of_ble_eq_true rfl) dX9_add_128 rfl ?_
              have e := Option.some.inj hf
              obtain ⟨e0, e1⟩ := Prod.mk.inj e
              exact mk_iret C hr hlk e0 (by rw [← e1]) dX9_add_131
            · replace hf := (if_pos c14).symm.trans hf
              refine mk_bipush C (v := (-5)) dX9_add_69 (by decide) ?_
              have e := Option.some.inj hf
              obtain ⟨e0, e1⟩ := Prod.mk.inj e
              exact mk_iret C hr hlk e0 (by rw [← e1]) dX9_add_71
        · replace hf := (if_pos c12).symm.trans hf
          refine mk_bipush C (v := (-2)) dX9_add_46 (by decide) ?_
          have e := Option.some.inj hf
          obtain ⟨e0, e1⟩ := Prod.mk.inj e
          exact mk_iret C hr hlk e0 (by rw [← e1]) dX9_add_48
set_option maxHeartbeats 40000000 in
set_option maxRecDepth 100000 in
theorem c_X_disturb (l : Launch) (D : va_G) (cI cJ : ClassId) (X Y : Nat → Nat) (aX : Nat → Nat) (uX : Nat → Nat → Int32) (uL : Nat → Nat → Int64) (p1 : Int32) (p2 : Int32) (r : Int32) (wX : Nat → Nat → Int32) (hf : f_X_disturb uX p1 p2 = some (r, wX)) : mk_Met l yX9_disturb cX9_disturb 3 (some .int) ({ frames := 7, cells := 0, slots := 0, locals := 161 }) D [(cI, .int), (cJ, .long)] X Y [.ref (aX 0), .int p1, .int p2] (wModel aX cI cJ uX uL) (wModel aX cI cJ wX uL) (some (.int r)) 0 0 := by
  refine mk_start (own := RX9) (by decide) rfl (Nat.le_of_ble_eq_true rfl) ?_
  intro sz p e s m args below meth c A C hr hlk hnm
  replace C : mk_Cx p s m args c cX9_disturb 3 RX9 D [(cI, .int), (cJ, .long)] X Y A := C
  show mk_Go p l e (headSpec (mk_ws yX9_disturb cX9_disturb 3 (some .int)) ({ frames := 7, cells := 0, slots := 0, locals := 161 })).room s m args below meth c D A 3 0 0 (MQ below (mk_Q (some (.int r)) D (wModel aX cI cJ wX uL) A) args s 0 0 A) 0 (wModel aX cI cJ uX uL) [(0, .ref (aX 0)), (1, .int p1), (2, .int p2)] []
  unfold f_X_disturb at hf
  refine mk_aload_n C 0 dX9_disturb_0 rfl ?_
  obtain ⟨r1, h2, hf⟩ := b1_some hf
  refine mk_callVi C (c_X_is l D cI cJ X Y aX uX uL r1 h2) mw_1153 mw_1155 mw_s14 mw_10 mw_1156 mkn_X9_is rfl ⟨Nat.le_of_ble_eq_true rfl, Nat.le_of_ble_eq_true rfl⟩ 0 rfl rfl rfl (mk_Fr.all _ _) (Nat.le_of_ble_eq_true rfl) dX9_disturb_1 rfl ?_
  refine mk_if_eq C 31 dX9_disturb_4 (by decide) (fun c3 => ?_) (fun c3 => ?_)
  · replace hf := (if_pos c3).symm.trans hf
    refine mk_bipush C (v := (-2)) dX9_disturb_31 (by decide) ?_
    have e := Option.some.inj hf
    obtain ⟨e0, e1⟩ := Prod.mk.inj e
    exact mk_iret C hr hlk e0 (by rw [← e1]) dX9_disturb_33
  · replace hf := (if_neg c3).symm.trans hf
    refine mk_iload_n C 1 dX9_disturb_7 rfl ?_
    refine mk_i2l C dX9_disturb_8 ?_
    refine mk_lconst C (v := 0) dX9_disturb_9 (by decide) ?_
    refine mk_ldc2 C (v := 199) mw_1368 dX9_disturb_10 ?_
    obtain ⟨r4, h5, hf⟩ := b1_some hf
    refine mk_callSi C (c_X_in l D cI cJ X Y ((p1 : Int32).toInt64) 0 199 r4 h5) mw_1052 mw_1053 mw_10 mw_1054 mkn_X9_in rfl ⟨Nat.le_of_ble_eq_true rfl, Nat.le_of_ble_eq_true rfl⟩ (mk_Fr.nil _) (Nat.le_of_ble_eq_true rfl) dX9_disturb_13 rfl ?_
    refine mk_if_eq C 31 dX9_disturb_16 (by decide) (fun c6 => ?_) (fun c6 => ?_)
    · replace hf := (if_pos c6).symm.trans hf
      refine mk_bipush C (v := (-2)) dX9_disturb_31 (by decide) ?_
      have e := Option.some.inj hf
      obtain ⟨e0, e1⟩ := Prod.mk.inj e
      exact mk_iret C hr hlk e0 (by rw [← e1]) dX9_disturb_33
    · replace hf := (if_neg c6).symm.trans hf
      refine mk_iload_n C 2 dX9_disturb_19 rfl ?_
      refine mk_i2l C dX9_disturb_20 ?_
      refine mk_lconst C (v := 0) dX9_disturb_21 (by decide) ?_
      refine mk_ldc2 C (v := 2) mw_1252 dX9_disturb_22 ?_
      obtain ⟨r7, h8, hf⟩ := b1_some hf
      refine mk_callSi C (c_X_in l D cI cJ X Y ((p2 : Int32).toInt64) 0 2 r7 h8) mw_1052 mw_1053 mw_10 mw_1054 mkn_X9_in rfl ⟨Nat.le_of_ble_eq_true rfl, Nat.le_of_ble_eq_true rfl⟩ (mk_Fr.nil _) (Nat.le_of_ble_eq_true rfl) dX9_disturb_25 rfl ?_
      refine mk_if_ne C 34 dX9_disturb_28 (by decide) (fun c9 => ?_) (fun c9 => ?_)
      · replace hf := (if_neg c9).symm.trans hf
        refine mk_aload_n C 0 dX9_disturb_34 rfl ?_
        refine mk_iload_n C 1 dX9_disturb_35 rfl ?_
        obtain ⟨r10, h11, hf⟩ := b1_some hf
        refine mk_callVi C (c_X_isNoisy l D cI cJ X Y aX uX uL p1 r10 h11) mw_1112 mw_1114 mw_s10 mw_10 mw_1115 mkn_X9_isNoisy rfl ⟨Nat.le_of_ble_eq_true rfl, Nat.le_of_ble_eq_true rfl⟩ 0 rfl rfl rfl (mk_Fr.all _ _) (Nat.le_of_ble_eq_true rfl) dX9_disturb_36 rfl ?_
        refine mk_if_ne C 62 dX9_disturb_39 (by decide) (fun c12 => ?_) (fun c12 => ?_)
        · replace hf := (if_neg c12).symm.trans hf
          refine mk_bipush C (v := (-5)) dX9_disturb_62 (by decide) ?_
          have e := Option.some.inj hf
          obtain ⟨e0, e1⟩ := Prod.mk.inj e
          exact mk_iret C hr hlk e0 (by rw [← e1]) dX9_disturb_64
        · replace hf := (if_pos c12).symm.trans hf
          refine mk_aload_n C 0 dX9_disturb_42 rfl ?_
          refine mk_get C mk_inX9 0 rfl rfl 0 (by decide) mw_902 (v := .ref (aX 1)) rfl dX9_disturb_43 ?_
          refine mk_iconst C (v := 5) dX9_disturb_46 (by decide) ?_
          refine mk_iald C 1 0 (f := (uX 0)) rfl rfl (mk_vi (by decide)) (j := 5) (by decide) dX9_disturb_47 ?_
          refine mk_bipush C (v := 10) dX9_disturb_48 (by decide) ?_
          refine mk_icmp_eq C 62 dX9_disturb_50 (by decide) (fun c13 => ?_) (fun c13 => ?_)
          · replace hf := (if_pos c13).symm.trans hf
            refine mk_bipush C (v := (-5)) dX9_disturb_62 (by decide) ?_
            have e := Option.some.inj hf
            obtain ⟨e0, e1⟩ := Prod.mk.inj e
            exact mk_iret C hr hlk e0 (by rw [← e1]) dX9_disturb_64
          · replace hf := (if_neg c13).symm.trans hf
            refine mk_aload_n C 0 dX9_disturb_53 rfl ?_
            refine mk_get C mk_inX9 0 rfl rfl 3 (by decide) mw_905 (v := .int (uX 3 0)) rfl dX9_disturb_54 ?_
            refine mk_bipush C (v := 20) dX9_disturb_57 (by decide) ?_
            refine mk_icmp_ne C 65 dX9_disturb_59 (by decide) (fun c14 => ?_) (fun c14 => ?_)
            · replace hf := (if_neg c14).symm.trans hf
              refine mk_aload_n C 0 dX9_disturb_65 rfl ?_
              obtain ⟨uX_15, h16, hf⟩ := b1_some hf
              refine mk_callVv C (c_X_keeps l D cI cJ X Y aX uX uL uX_15 h16) mw_1369 mw_1371 mw_s37 mw_10 mw_1372 mkn_X9_keeps rfl ⟨Nat.le_of_ble_eq_true rfl, Nat.le_of_ble_eq_true rfl⟩ 0 rfl rfl rfl (mk_Fr.all _ _) (Nat.le_of_ble_eq_true rfl) dX9_disturb_66 rfl ?_
              refine mk_aload_n C 0 dX9_disturb_69 rfl ?_
              refine mk_get C mk_inX9 0 rfl rfl 0 (by decide) mw_902 (v := .ref (aX 1)) rfl dX9_disturb_70 ?_
              refine mk_bipush C (v := 37) dX9_disturb_73 (by decide) ?_
              refine mk_aload_n C 0 dX9_disturb_75 rfl ?_
              refine mk_get C mk_inX9 0 rfl rfl 0 (by decide) mw_902 (v := .ref (aX 1)) rfl dX9_disturb_76 ?_
              refine mk_iconst C (v := 5) dX9_disturb_79 (by decide) ?_
              refine mk_iald C 1 0 (f := (uX_15 0)) rfl rfl (mk_vi (by decide)) (j := 5) (by decide) dX9_disturb_80 ?_
              refine mk_iadd C dX9_disturb_81 ?_
              refine mk_iload_n C 1 dX9_disturb_82 rfl ?_
              obtain ⟨g17, hf⟩ := gI_some hf
              refine mk_iast C 1 0 (f := (uX_15 0)) rfl rfl g17 (j := ((37 + ((uX_15 0) 5)) : Int32).toNatClampNeg) rfl (ws' := (wModel aX cI cJ (upR 0 (upd (uX_15 0) ((37 + ((uX_15 0) 5)) : Int32).toNatClampNeg p1) uX_15) uL)) (st_X_X_0 cI cJ aX uX_15 uL (upd (uX_15 0) ((37 + ((uX_15 0) 5)) : Int32).toNatClampNeg p1)) dX9_disturb_83 ?_
              refine mk_aload_n C 0 dX9_disturb_84 rfl ?_
              refine mk_get C mk_inX9 0 rfl rfl 0 (by decide) mw_902 (v := .ref (aX 1)) rfl dX9_disturb_85 ?_
              refine mk_bipush C (v := 47) dX9_disturb_88 (by decide) ?_
              refine mk_aload_n C 0 dX9_disturb_90 rfl ?_
              refine mk_get C mk_inX9 0 rfl rfl 0 (by decide) mw_902 (v := .ref (aX 1)) rfl dX9_disturb_91 ?_
              refine mk_iconst C (v := 5) dX9_disturb_94 (by decide) ?_
              refine mk_iald C 1 0 (f := (upd (uX_15 0) ((37 + ((uX_15 0) 5)) : Int32).toNatClampNeg p1)) rfl rfl (mk_vi (by decide)) (j := 5) (by decide) dX9_disturb_95 ?_
              refine mk_iadd C dX9_disturb_96 ?_
              refine mk_iload_n C 2 dX9_disturb_97 rfl ?_
              obtain ⟨g18, hf⟩ := gI_some hf
              refine mk_iast C 1 0 (f := (upd (uX_15 0) ((37 + ((uX_15 0) 5)) : Int32).toNatClampNeg p1)) rfl rfl g18 (j := ((47 + ((upd (uX_15 0) ((37 + ((uX_15 0) 5)) : Int32).toNatClampNeg p1) 5)) : Int32).toNatClampNeg) rfl (ws' := (wModel aX cI cJ (upR 0 (upd (upd (uX_15 0) ((37 + ((uX_15 0) 5)) : Int32).toNatClampNeg p1) ((47 + ((upd (uX_15 0) ((37 + ((uX_15 0) 5)) : Int32).toNatClampNeg p1) 5)) : Int32).toNatClampNeg p2) (upR 0 (upd (uX_15 0) ((37 + ((uX_15 0) 5)) : Int32).toNatClampNeg p1) uX_15)) uL)) (st_X_X_0 cI cJ aX (upR 0 (upd (uX_15 0) ((37 + ((uX_15 0) 5)) : Int32).toNatClampNeg p1) uX_15) uL (upd (upd (uX_15 0) ((37 + ((uX_15 0) 5)) : Int32).toNatClampNeg p1) ((47 + ((upd (uX_15 0) ((37 + ((uX_15 0) 5)) : Int32).toNatClampNeg p1) 5)) : Int32).toNatClampNeg p2)) dX9_disturb_98 ?_
              refine mk_aload_n C 0 dX9_disturb_99 rfl ?_
              refine mk_get C mk_inX9 0 rfl rfl 0 (by decide) mw_902 (v := .ref (aX 1)) rfl dX9_disturb_100 ?_
              refine mk_iconst C (v := 5) dX9_disturb_103 (by decide) ?_
              refine mk_dup2 C dX9_disturb_104 rfl rfl ?_
              refine mk_iald C 1 0 (f := (upd (upd (uX_15 0) ((37 + ((uX_15 0) 5)) : Int32).toNatClampNeg p1) ((47 + ((upd (uX_15 0) ((37 + ((uX_15 0) 5)) : Int32).toNatClampNeg p1) 5)) : Int32).toNatClampNeg p2)) rfl rfl (mk_vi (by decide)) (j := 5) (by decide) dX9_disturb_105 ?_
              refine mk_iconst C (v := 1) dX9_disturb_106 (by decide) ?_
              refine mk_iadd C dX9_disturb_107 ?_
              refine mk_iast C 1 0 (f := (upd (upd (uX_15 0) ((37 + ((uX_15 0) 5)) : Int32).toNatClampNeg p1) ((47 + ((upd (uX_15 0) ((37 + ((uX_15 0) 5)) : Int32).toNatClampNeg p1) 5)) : Int32).toNatClampNeg p2)) rfl rfl (mk_vi (by decide)) (j := 5) (by decide) (ws' := (wModel aX cI cJ (upR 0 (upd (upd (upd (uX_15 0) ((37 + ((uX_15 0) 5)) : Int32).toNatClampNeg p1) ((47 + ((upd (uX_15 0) ((37 + ((uX_15 0) 5)) : Int32).toNatClampNeg p1) 5)) : Int32).toNatClampNeg p2) 5 (((upd (upd (uX_15 0) ((37 + ((uX_15 0) 5)) : Int32).toNatClampNeg p1) ((47 + ((upd (uX_15 0) ((37 + ((uX_15 0) 5)) : Int32).toNatClampNeg p1) 5)) : Int32).toNatClampNeg p2) 5) + 1)) (upR 0 (upd (upd (uX_15 0) ((37 + ((uX_15 0) 5)) : Int32).toNatClampNeg p1) ((47 + ((upd (uX_15 0) ((37 + ((uX_15 0) 5)) : Int32).toNatClampNeg p1) 5)) : Int32).toNatClampNeg p2) (upR 0 (upd (uX_15 0) ((37 + ((uX_15 0) 5)) : Int32).toNatClampNeg p1) uX_15))) uL)) (st_X_X_0 cI cJ aX (upR 0 (upd (upd (uX_15 0) ((37 + ((uX_15 0) 5)) : Int32).toNatClampNeg p1) ((47 + ((upd (uX_15 0) ((37 + ((uX_15 0) 5)) : Int32).toNatClampNeg p1) 5)) : Int32).toNatClampNeg p2) (upR 0 (upd (uX_15 0) ((37 + ((uX_15 0) 5)) : Int32).toNatClampNeg p1) uX_15)) uL (upd (upd (upd (uX_15 0) ((37 + ((uX_15 0) 5)) : Int32).toNatClampNeg p1) ((47 + ((upd (uX_15 0) ((37 + ((uX_15 0) 5)) : Int32).toNatClampNeg p1) 5)) : Int32).toNatClampNeg p2) 5 (((upd (upd (uX_15 0) ((37 + ((uX_15 0) 5)) : Int32).toNatClampNeg p1) ((47 + ((upd (uX_15 0) ((37 + ((uX_15 0) 5)) : Int32).toNatClampNeg p1) 5)) : Int32).toNatClampNeg p2) 5) + 1))) dX9_disturb_108 ?_
              refine mk_aload_n C 0 dX9_disturb_109 rfl ?_
              obtain ⟨r19, uX_20, h21, hf⟩ := b2_some hf
              refine mk_callVi C (c_X_allNow l D cI cJ X Y aX (upR 0 (upd (upd (upd (uX_15 0) ((37 + ((uX_15 0) 5)) : Int32).toNatClampNeg p1) ((47 + ((upd (uX_15 0) ((37 + ((uX_15 0) 5)) : Int32).toNatClampNeg p1) 5)) : Int32).toNatClampNeg p2) 5 (((upd (upd (uX_15 0) ((37 + ((uX_15 0) 5)) : Int32).toNatClampNeg p1) ((47 + ((upd (uX_15 0) ((37 + ((uX_15 0) 5)) : Int32).toNatClampNeg p1) 5)) : Int32).toNatClampNeg p2) 5) + 1)) (upR 0 (upd (upd (uX_15 0) ((37 + ((uX_15 0) 5)) : Int32).toNatClampNeg p1) ((47 + ((upd (uX_15 0) ((37 + ((uX_15 0) 5)) : Int32).toNatClampNeg p1) 5)) : Int32).toNatClampNeg p2) (upR 0 (upd (uX_15 0) ((37 + ((uX_15 0) 5)) : Int32).toNatClampNeg p1) uX_15))) uL r19 uX_20 h21) mw_1373 mw_1375 mw_s38 mw_10 mw_1376 mkn_X9_allNow rfl ⟨Nat.le_of_ble_eq_true rfl, Nat.le_of_ble_eq_true rfl⟩ 0 rfl rfl rfl (mk_Fr.all _ _) (Nat.le_of_ble_eq_true rfl) dX9_disturb_110 rfl ?_
              have e := Option.some.inj hf
              obtain ⟨e0, e1⟩ := Prod.mk.inj e
              exact mk_iret C hr hlk e0 (by rw [← e1]) dX9_disturb_113
            · replace hf := (if_pos c14).symm.trans hf
              refine mk_bipush C (v := (-5)) dX9_disturb_62 (by decide) ?_
              have e := Option.some.inj hf
              obtain ⟨e0, e1⟩ := Prod.mk.inj e
              exact mk_iret C hr hlk e0 (by rw [← e1]) dX9_disturb_64
      · replace hf := (if_pos c9).symm.trans hf
        refine mk_bipush C (v := (-2)) dX9_disturb_31 (by decide) ?_
        have e := Option.some.inj hf
        obtain ⟨e0, e1⟩ := Prod.mk.inj e
        exact mk_iret C hr hlk e0 (by rw [← e1]) dX9_disturb_33
