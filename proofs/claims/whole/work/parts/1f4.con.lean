set_option maxHeartbeats 40000000 in
set_option maxRecDepth 100000 in
theorem c_X_runsBy (l : Launch) (D : va_G) (cI cJ : ClassId) (X Y : Nat → Nat) (aX : Nat → Nat) (uX : Nat → Nat → Int32) (uL : Nat → Nat → Int64) (p1 : Int32) (p2 : Int32) (p3 : Int32) (wX : Nat → Nat → Int32) (hf : f_X_runsBy uX p1 p2 p3 = some wX) : mk_Met l yX9_runsBy cX9_runsBy 5 none ({ frames := 4, cells := 0, slots := 0, locals := 97 }) D [(cI, .int), (cJ, .long)] X Y [.ref (aX 0), .int p1, .int p2, .int p3] (wModel aX cI cJ uX uL) (wModel aX cI cJ wX uL) none 0 0 := by
  refine mk_start (own := RX9) (by decide) rfl (Nat.le_of_ble_eq_true rfl) ?_
  intro sz p e s m args below meth c A C hr hlk hnm
  replace C : mk_Cx p s m args c cX9_runsBy 5 RX9 D [(cI, .int), (cJ, .long)] X Y A := C
  have wL93 : ∀ (n : Nat) (v4 : Int32) (uX : Nat → Nat → Int32), f_X_runsBy_93 p1 p2 p3 n v4 uX = some wX → mk_Go p l e (headSpec (mk_ws yX9_runsBy cX9_runsBy 5 none) ({ frames := 4, cells := 0, slots := 0, locals := 97 })).room s m args below meth c D A 5 0 0 (MQ below (mk_Q none D (wModel aX cI cJ wX uL) A) args s 0 0 A) 93 (wModel aX cI cJ uX uL) [(0, .ref (aX 0)), (4, .int v4)] [] := by
    intro  n
    induction n with
    | zero => intro v4 uX hf; exact nomatch (show (none : Option ((Nat → Nat → Int32))) = some _ from hf)
    | succ n ih =>
      intro v4 uX hf
      rw [f_X_runsBy_93] at hf
      refine mk_iload C 1 dX9_runsBy_93 rfl ?_
      refine mk_aload_n C 0 dX9_runsBy_95 rfl ?_
      refine mk_get C mk_inX9 0 rfl rfl 0 (by decide) mw_902 (v := .ref (aX 1)) rfl dX9_runsBy_96 ?_
      refine mk_iconst C (v := 1) dX9_runsBy_99 (by decide) ?_
      refine mk_iald C 1 0 (f := (uX 0)) rfl rfl (mk_vi (by decide)) (j := 1) (by decide) dX9_runsBy_100 ?_
      refine mk_icmp_ge C 151 dX9_runsBy_101 (by decide) (fun c1 => ?_) (fun c1 => ?_)
      · replace hf := (if_pos c1).symm.trans hf
        have e0 := Option.some.inj hf
        exact mk_vret C hr hlk (by rw [← e0]) dX9_runsBy_151
      · replace hf := (if_neg c1).symm.trans hf
        refine mk_aload_n C 0 dX9_runsBy_104 rfl ?_
        refine mk_aload_n C 0 dX9_runsBy_105 rfl ?_
        refine mk_iload C 1 dX9_runsBy_106 rfl ?_
        obtain ⟨r2, h3, hf⟩ := b1_some hf
        refine mk_callVi C (c_X_waiting l D cI cJ X Y aX uX uL v4 r2 h3) mw_1166 mw_1168 mw_s17 mw_10 mw_1169 mkn_X9_waiting rfl ⟨Nat.le_of_ble_eq_true rfl, Nat.le_of_ble_eq_true rfl⟩ 0 rfl rfl rfl (mk_Fr.all _ _) (Nat.le_of_ble_eq_true rfl) dX9_runsBy_108 rfl ?_
        refine mk_put C mk_inX9 tyX9 tyX9_ok nmX9 0 rfl rfl 26 (by decide) mw_928 rfl rfl rfl (Nat.le_of_ble_eq_true rfl) (ws' := (wModel aX cI cJ (upF 26 r2 uX) uL)) (st_X_X_26 cI cJ aX uX uL r2) dX9_runsBy_111 ?_
        refine mk_aload_n C 0 dX9_runsBy_114 rfl ?_
        refine mk_get C mk_inX9 0 rfl rfl 34 (by decide) mw_936 (v := .ref (aX 35)) rfl dX9_runsBy_115 ?_
        refine mk_iload C 1 dX9_runsBy_118 rfl ?_
        refine mk_iconst C (v := 0) dX9_runsBy_120 (by decide) ?_
        obtain ⟨g4, hf⟩ := gI_some hf
        refine mk_iast C 15 0 (f := (uX 34)) rfl rfl g4 (j := (v4 : Int32).toNatClampNeg) rfl (ws' := (wModel aX cI cJ (upR 34 (upd (uX 34) (v4 : Int32).toNatClampNeg 0) (upF 26 r2 uX)) uL)) (st_X_X_34 cI cJ aX (upF 26 r2 uX) uL (upd (uX 34) (v4 : Int32).toNatClampNeg 0)) dX9_runsBy_121 ?_
        refine mk_aload_n C 0 dX9_runsBy_122 rfl ?_
        refine mk_get C mk_inX9 0 rfl rfl 15 (by decide) mw_917 (v := .int (uX 15 0)) rfl dX9_runsBy_123 ?_
        refine mk_iconst C (v := 2) dX9_runsBy_126 (by decide) ?_
        refine mk_icmp_ne C 139 dX9_runsBy_127 (by decide) (fun c5 => ?_) (fun c5 => ?_)
        · replace hf := (if_neg c5).symm.trans hf
          refine mk_aload_n C 0 dX9_runsBy_139 rfl ?_
          refine mk_iload C 1 dX9_runsBy_140 rfl ?_
          obtain ⟨uX_6, h7, hf⟩ := b1_some hf
          refine mk_callVv C (c_X_goesByGroups l D cI cJ X Y aX (upR 34 (upd (uX 34) (v4 : Int32).toNatClampNeg 0) (upF 26 r2 uX)) uL v4 uX_6 h7) mw_1193 mw_1195 mw_s22 mw_10 mw_1196 mkn_X9_goesByGroups rfl ⟨Nat.le_of_ble_eq_true rfl, Nat.le_of_ble_eq_true rfl⟩ 0 rfl rfl rfl (mk_Fr.all _ _) (Nat.le_of_ble_eq_true rfl) dX9_runsBy_142 rfl ?_
          refine mk_iinc C (v := (v4 + 1)) (lv' := [(4, .int (v4 + 1)), (0, .ref (aX 0))]) 1 dX9_runsBy_145 rfl rfl (by decide) rfl ?_
          refine mk_goto C 93 dX9_runsBy_148 (by decide) ?_
          exact mk_lvsub [1, 0] rfl (ih _ _ hf)
        · replace hf := (if_pos c5).symm.trans hf
          refine mk_aload_n C 0 dX9_runsBy_130 rfl ?_
          refine mk_iload C 1 dX9_runsBy_131 rfl ?_
          obtain ⟨uX_8, h9, hf⟩ := b1_some hf
          refine mk_callVv C (c_X_goesByCounters l D cI cJ X Y aX (upR 34 (upd (uX 34) (v4 : Int32).toNatClampNeg 0) (upF 26 r2 uX)) uL v4 uX_8 h9) mw_1170 mw_1172 mw_s18 mw_10 mw_1173 mkn_X9_goesByCounters rfl ⟨Nat.le_of_ble_eq_true rfl, Nat.le_of_ble_eq_true rfl⟩ 0 rfl rfl rfl (mk_Fr.all _ _) (Nat.le_of_ble_eq_true rfl) dX9_runsBy_133 rfl ?_
          refine mk_goto C 145 dX9_runsBy_136 (by decide) ?_
          refine mk_iinc C (v := (v4 + 1)) (lv' := [(4, .int (v4 + 1)), (0, .ref (aX 0))]) 1 dX9_runsBy_145 rfl rfl (by decide) rfl ?_
          refine mk_goto C 93 dX9_runsBy_148 (by decide) ?_
          exact mk_lvsub [1, 0] rfl (ih _ _ hf)
  have wL53 : ∀ (n : Nat) (v4 : Int32) (uX : Nat → Nat → Int32), f_X_runsBy_53 p1 p2 p3 n v4 uX = some wX → mk_Go p l e (headSpec (mk_ws yX9_runsBy cX9_runsBy 5 none) ({ frames := 4, cells := 0, slots := 0, locals := 97 })).room s m args below meth c D A 5 0 0 (MQ below (mk_Q none D (wModel aX cI cJ wX uL) A) args s 0 0 A) 53 (wModel aX cI cJ uX uL) [(0, .ref (aX 0)), (4, .int v4)] [] := by
    intro  n
    induction n with
    | zero => intro v4 uX hf; exact nomatch (show (none : Option ((Nat → Nat → Int32))) = some _ from hf)
    | succ n ih =>
      intro v4 uX hf
      rw [f_X_runsBy_53] at hf
      refine mk_iload C 1 dX9_runsBy_53 rfl ?_
      refine mk_bipush C (v := 10) dX9_runsBy_55 (by decide) ?_
      refine mk_icmp_ge C 90 dX9_runsBy_57 (by decide) (fun c10 => ?_) (fun c10 => ?_)
      · replace hf := (if_pos c10).symm.trans hf
        refine mk_iconst C (v := 0) dX9_runsBy_90 (by decide) ?_
        refine mk_istore C (lv' := [(4, .int 0), (0, .ref (aX 0))]) dX9_runsBy_91 (by decide) rfl ?_
        exact mk_lvsub [1, 0] rfl (wL93 600 _ _ hf)
      · replace hf := (if_neg c10).symm.trans hf
        refine mk_aload_n C 0 dX9_runsBy_60 rfl ?_
        refine mk_get C mk_inX9 0 rfl rfl 27 (by decide) mw_929 (v := .ref (aX 28)) rfl dX9_runsBy_61 ?_
        refine mk_iload C 1 dX9_runsBy_64 rfl ?_
        refine mk_iconst C (v := 0) dX9_runsBy_66 (by decide) ?_
        obtain ⟨g11, hf⟩ := gI_some hf
        refine mk_iast C 8 0 (f := (uX 27)) rfl rfl g11 (j := (v4 : Int32).toNatClampNeg) rfl (ws' := (wModel aX cI cJ (upR 27 (upd (uX 27) (v4 : Int32).toNatClampNeg 0) uX) uL)) (st_X_X_27 cI cJ aX uX uL (upd (uX 27) (v4 : Int32).toNatClampNeg 0)) dX9_runsBy_67 ?_
        refine mk_aload_n C 0 dX9_runsBy_68 rfl ?_
        refine mk_get C mk_inX9 0 rfl rfl 28 (by decide) mw_930 (v := .ref (aX 29)) rfl dX9_runsBy_69 ?_
        refine mk_iload C 1 dX9_runsBy_72 rfl ?_
        refine mk_iconst C (v := 0) dX9_runsBy_74 (by decide) ?_
        refine mk_iast C 9 0 (f := (uX 28)) rfl rfl g11 (j := (v4 : Int32).toNatClampNeg) rfl (ws' := (wModel aX cI cJ (upR 28 (upd (uX 28) (v4 : Int32).toNatClampNeg 0) (upR 27 (upd (uX 27) (v4 : Int32).toNatClampNeg 0) uX)) uL)) (st_X_X_28 cI cJ aX (upR 27 (upd (uX 27) (v4 : Int32).toNatClampNeg 0) uX) uL (upd (uX 28) (v4 : Int32).toNatClampNeg 0)) dX9_runsBy_75 ?_
        refine mk_aload_n C 0 dX9_runsBy_76 rfl ?_
        refine mk_get C mk_inX9 0 rfl rfl 29 (by decide) mw_931 (v := .ref (aX 30)) rfl dX9_runsBy_77 ?_
        refine mk_iload C 1 dX9_runsBy_80 rfl ?_
        refine mk_iconst C (v := (-1)) dX9_runsBy_82 (by decide) ?_
        refine mk_iast C 10 0 (f := (uX 29)) rfl rfl g11 (j := (v4 : Int32).toNatClampNeg) rfl (ws' := (wModel aX cI cJ (upR 29 (upd (uX 29) (v4 : Int32).toNatClampNeg (-1)) (upR 28 (upd (uX 28) (v4 : Int32).toNatClampNeg 0) (upR 27 (upd (uX 27) (v4 : Int32).toNatClampNeg 0) uX))) uL)) (st_X_X_29 cI cJ aX (upR 28 (upd (uX 28) (v4 : Int32).toNatClampNeg 0) (upR 27 (upd (uX 27) (v4 : Int32).toNatClampNeg 0) uX)) uL (upd (uX 29) (v4 : Int32).toNatClampNeg (-1))) dX9_runsBy_83 ?_
        refine mk_iinc C (v := (v4 + 1)) (lv' := [(4, .int (v4 + 1)), (0, .ref (aX 0))]) 1 dX9_runsBy_84 rfl rfl (by decide) rfl ?_
        refine mk_goto C 53 dX9_runsBy_87 (by decide) ?_
        exact mk_lvsub [1, 0] rfl (ih _ _ hf)
  show mk_Go p l e (headSpec (mk_ws yX9_runsBy cX9_runsBy 5 none) ({ frames := 4, cells := 0, slots := 0, locals := 97 })).room s m args below meth c D A 5 0 0 (MQ below (mk_Q none D (wModel aX cI cJ wX uL) A) args s 0 0 A) 0 (wModel aX cI cJ uX uL) [(0, .ref (aX 0)), (1, .int p1), (2, .int p2), (3, .int p3)] []
  unfold f_X_runsBy at hf
  refine mk_aload_n C 0 dX9_runsBy_0 rfl ?_
  refine mk_iload_n C 1 dX9_runsBy_1 rfl ?_
  refine mk_put C mk_inX9 tyX9 tyX9_ok nmX9 0 rfl rfl 15 (by decide) mw_917 rfl rfl rfl (Nat.le_of_ble_eq_true rfl) (ws' := (wModel aX cI cJ (upF 15 p1 uX) uL)) (st_X_X_15 cI cJ aX uX uL p1) dX9_runsBy_2 ?_
  refine mk_aload_n C 0 dX9_runsBy_5 rfl ?_
  refine mk_iload_n C 2 dX9_runsBy_6 rfl ?_
  refine mk_put C mk_inX9 tyX9 tyX9_ok nmX9 0 rfl rfl 16 (by decide) mw_918 rfl rfl rfl (Nat.le_of_ble_eq_true rfl) (ws' := (wModel aX cI cJ (upF 16 p2 (upF 15 p1 uX)) uL)) (st_X_X_16 cI cJ aX (upF 15 p1 uX) uL p2) dX9_runsBy_7 ?_
  refine mk_aload_n C 0 dX9_runsBy_10 rfl ?_
  refine mk_iload_n C 3 dX9_runsBy_11 rfl ?_
  refine mk_put C mk_inX9 tyX9 tyX9_ok nmX9 0 rfl rfl 17 (by decide) mw_919 rfl rfl rfl (Nat.le_of_ble_eq_true rfl) (ws' := (wModel aX cI cJ (upF 17 p3 (upF 16 p2 (upF 15 p1 uX))) uL)) (st_X_X_17 cI cJ aX (upF 16 p2 (upF 15 p1 uX)) uL p3) dX9_runsBy_12 ?_
  refine mk_aload_n C 0 dX9_runsBy_15 rfl ?_
  refine mk_iconst C (v := 0) dX9_runsBy_16 (by decide) ?_
  refine mk_put C mk_inX9 tyX9 tyX9_ok nmX9 0 rfl rfl 21 (by decide) mw_923 rfl rfl rfl (Nat.le_of_ble_eq_true rfl) (ws' := (wModel aX cI cJ (upF 21 0 (upF 17 p3 (upF 16 p2 (upF 15 p1 uX)))) uL)) (st_X_X_21 cI cJ aX (upF 17 p3 (upF 16 p2 (upF 15 p1 uX))) uL 0) dX9_runsBy_17 ?_
  refine mk_aload_n C 0 dX9_runsBy_20 rfl ?_
  refine mk_iconst C (v := 0) dX9_runsBy_21 (by decide) ?_
  refine mk_put C mk_inX9 tyX9 tyX9_ok nmX9 0 rfl rfl 22 (by decide) mw_924 rfl rfl rfl (Nat.le_of_ble_eq_true rfl) (ws' := (wModel aX cI cJ (upF 22 0 (upF 21 0 (upF 17 p3 (upF 16 p2 (upF 15 p1 uX))))) uL)) (st_X_X_22 cI cJ aX (upF 21 0 (upF 17 p3 (upF 16 p2 (upF 15 p1 uX)))) uL 0) dX9_runsBy_22 ?_
  refine mk_aload_n C 0 dX9_runsBy_25 rfl ?_
  refine mk_iconst C (v := 0) dX9_runsBy_26 (by decide) ?_
  refine mk_put C mk_inX9 tyX9 tyX9_ok nmX9 0 rfl rfl 23 (by decide) mw_925 rfl rfl rfl (Nat.le_of_ble_eq_true rfl) (ws' := (wModel aX cI cJ (upF 23 0 (upF 22 0 (upF 21 0 (upF 17 p3 (upF 16 p2 (upF 15 p1 uX)))))) uL)) (st_X_X_23 cI cJ aX (upF 22 0 (upF 21 0 (upF 17 p3 (upF 16 p2 (upF 15 p1 uX))))) uL 0) dX9_runsBy_27 ?_
  refine mk_aload_n C 0 dX9_runsBy_30 rfl ?_
  refine mk_iconst C (v := 0) dX9_runsBy_31 (by decide) ?_
  refine mk_put C mk_inX9 tyX9 tyX9_ok nmX9 0 rfl rfl 24 (by decide) mw_926 rfl rfl rfl (Nat.le_of_ble_eq_true rfl) (ws' := (wModel aX cI cJ (upF 24 0 (upF 23 0 (upF 22 0 (upF 21 0 (upF 17 p3 (upF 16 p2 (upF 15 p1 uX))))))) uL)) (st_X_X_24 cI cJ aX (upF 23 0 (upF 22 0 (upF 21 0 (upF 17 p3 (upF 16 p2 (upF 15 p1 uX)))))) uL 0) dX9_runsBy_32 ?_
  refine mk_aload_n C 0 dX9_runsBy_35 rfl ?_
  refine mk_iconst C (v := 0) dX9_runsBy_36 (by decide) ?_
  refine mk_put C mk_inX9 tyX9 tyX9_ok nmX9 0 rfl rfl 25 (by decide) mw_927 rfl rfl rfl (Nat.le_of_ble_eq_true rfl) (ws' := (wModel aX cI cJ (upF 25 0 (upF 24 0 (upF 23 0 (upF 22 0 (upF 21 0 (upF 17 p3 (upF 16 p2 (upF 15 p1 uX)))))))) uL)) (st_X_X_25 cI cJ aX (upF 24 0 (upF 23 0 (upF 22 0 (upF 21 0 (upF 17 p3 (upF 16 p2 (upF 15 p1 uX))))))) uL 0) dX9_runsBy_37 ?_
  refine mk_aload_n C 0 dX9_runsBy_40 rfl ?_
  refine mk_iconst C (v := 0) dX9_runsBy_41 (by decide) ?_
  refine mk_put C mk_inX9 tyX9 tyX9_ok nmX9 0 rfl rfl 38 (by decide) mw_940 rfl rfl rfl (Nat.le_of_ble_eq_true rfl) (ws' := (wModel aX cI cJ (upF 38 0 (upF 25 0 (upF 24 0 (upF 23 0 (upF 22 0 (upF 21 0 (upF 17 p3 (upF 16 p2 (upF 15 p1 uX))))))))) uL)) (st_X_X_38 cI cJ aX (upF 25 0 (upF 24 0 (upF 23 0 (upF 22 0 (upF 21 0 (upF 17 p3 (upF 16 p2 (upF 15 p1 uX)))))))) uL 0) dX9_runsBy_42 ?_
  refine mk_aload_n C 0 dX9_runsBy_45 rfl ?_
  refine mk_iconst C (v := 0) dX9_runsBy_46 (by decide) ?_
  refine mk_put C mk_inX9 tyX9 tyX9_ok nmX9 0 rfl rfl 40 (by decide) mw_942 rfl rfl rfl (Nat.le_of_ble_eq_true rfl) (ws' := (wModel aX cI cJ (upF 40 0 (upF 38 0 (upF 25 0 (upF 24 0 (upF 23 0 (upF 22 0 (upF 21 0 (upF 17 p3 (upF 16 p2 (upF 15 p1 uX)))))))))) uL)) (st_X_X_40 cI cJ aX (upF 38 0 (upF 25 0 (upF 24 0 (upF 23 0 (upF 22 0 (upF 21 0 (upF 17 p3 (upF 16 p2 (upF 15 p1 uX))))))))) uL 0) dX9_runsBy_47 ?_
  refine mk_iconst C (v := 0) dX9_runsBy_50 (by decide) ?_
  refine mk_istore C (lv' := [(4, .int 0), (0, .ref (aX 0)), (1, .int p1), (2, .int p2), (3, .int p3)]) dX9_runsBy_51 (by decide) rfl ?_
  exact mk_lvsub [1, 0] rfl (wL53 600 _ _ hf)
set_option maxHeartbeats 40000000 in
set_option maxRecDepth 100000 in
theorem c_X_runs (l : Launch) (D : va_G) (cI cJ : ClassId) (X Y : Nat → Nat) (aX : Nat → Nat) (uX : Nat → Nat → Int32) (uL : Nat → Nat → Int64) (wX : Nat → Nat → Int32) (hf : f_X_runs uX = some wX) : mk_Met l yX9_runs cX9_runs 1 none ({ frames := 5, cells := 0, slots := 0, locals := 121 }) D [(cI, .int), (cJ, .long)] X Y [.ref (aX 0)] (wModel aX cI cJ uX uL) (wModel aX cI cJ wX uL) none 0 0 := by
  refine mk_start (own := RX9) (by decide) rfl (Nat.le_of_ble_eq_true rfl) ?_
  intro sz p e s m args below meth c A C hr hlk hnm
  replace C : mk_Cx p s m args c cX9_runs 1 RX9 D [(cI, .int), (cJ, .long)] X Y A := C
  show mk_Go p l e (headSpec (mk_ws yX9_runs cX9_runs 1 none) ({ frames := 5, cells := 0, slots := 0, locals := 121 })).room s m args below meth c D A 1 0 0 (MQ below (mk_Q none D (wModel aX cI cJ wX uL) A) args s 0 0 A) 0 (wModel aX cI cJ uX uL) [(0, .ref (aX 0))] []
  unfold f_X_runs at hf
  refine mk_aload_n C 0 dX9_runs_0 rfl ?_
  refine mk_aload_n C 0 dX9_runs_1 rfl ?_
  refine mk_get C mk_inX9 0 rfl rfl 0 (by decide) mw_902 (v := .ref (aX 1)) rfl dX9_runs_2 ?_
  refine mk_iconst C (v := 0) dX9_runs_5 (by decide) ?_
  refine mk_iald C 1 0 (f := (uX 0)) rfl rfl (mk_vi (by decide)) (j := 0) (by decide) dX9_runs_6 ?_
  refine mk_iconst C (v := (-1)) dX9_runs_7 (by decide) ?_
  refine mk_iconst C (v := (-1)) dX9_runs_8 (by decide) ?_
  obtain ⟨uX_1, h2, hf⟩ := b1_some hf
  refine mk_callVv C (c_X_runsBy l D cI cJ X Y aX uX uL ((uX 0) 0) (-1) (-1) uX_1 h2) mw_1162 mw_1164 mw_s16 mw_10 mw_1165 mkn_X9_runsBy rfl ⟨Nat.le_of_ble_eq_true rfl, Nat.le_of_ble_eq_true rfl⟩ 0 rfl rfl rfl (mk_Fr.all _ _) (Nat.le_of_ble_eq_true rfl) dX9_runs_9 rfl ?_
  have e0 := Option.some.inj hf
  exact mk_vret C hr hlk (by rw [← e0]) dX9_runs_12
set_option maxHeartbeats 40000000 in
set_option maxRecDepth 100000 in
theorem c_X_isSlot (l : Launch) (D : va_G) (cI cJ : ClassId) (X Y : Nat → Nat) (aX : Nat → Nat) (uX : Nat → Nat → Int32) (uL : Nat → Nat → Int64) (p1 : Int32) (r : Int32) (hf : f_X_isSlot uX p1 = some r) : mk_Met l yX9_isSlot cX9_isSlot 2 (some .boolean) ({ frames := 1, cells := 0, slots := 0, locals := 25 }) D [(cI, .int), (cJ, .long)] X Y [.ref (aX 0), .int p1] (wModel aX cI cJ uX uL) (wModel aX cI cJ uX uL) (some (.int r)) 0 0 := by
  refine mk_start (own := RX9) (by decide) rfl (Nat.le_of_ble_eq_true rfl) ?_
  intro sz p e s m args below meth c A C hr hlk hnm
  replace C : mk_Cx p s m args c cX9_isSlot 2 RX9 D [(cI, .int), (cJ, .long)] X Y A := C
  show mk_Go p l e (headSpec (mk_ws yX9_isSlot cX9_isSlot 2 (some .boolean)) ({ frames := 1, cells := 0, slots := 0, locals := 25 })).room s m args below meth c D A 2 0 0 (MQ below (mk_Q (some (.int r)) D (wModel aX cI cJ uX uL) A) args s 0 0 A) 0 (wModel aX cI cJ uX uL) [(0, .ref (aX 0)), (1, .int p1)] []
  unfold f_X_isSlot at hf
  refine mk_aload_n C 0 dX9_isSlot_0 rfl ?_
  obtain ⟨r1, h2, hf⟩ := b1_some hf
  refine mk_callVi C (c_X_is l D cI cJ X Y aX uX uL r1 h2) mw_1153 mw_1155 mw_s14 mw_10 mw_1156 mkn_X9_is rfl ⟨Nat.le_of_ble_eq_true rfl, Nat.le_of_ble_eq_true rfl⟩ 0 rfl rfl rfl (mk_Fr.all _ _) (Nat.le_of_ble_eq_true rfl) dX9_isSlot_1 rfl ?_
  refine mk_if_eq C 29 dX9_isSlot_4 (by decide) (fun c3 => ?_) (fun c3 => ?_)
  · replace hf := (if_pos c3).symm.trans hf
    refine mk_iconst C (v := 0) dX9_isSlot_29 (by decide) ?_
    have e0 := Option.some.inj hf
    exact mk_zret C hr hlk rfl e0 rfl dX9_isSlot_30
  · replace hf := (if_neg c3).symm.trans hf
    refine mk_iload_n C 1 dX9_isSlot_7 rfl ?_
    refine mk_i2l C dX9_isSlot_8 ?_
    refine mk_lconst C (v := 0) dX9_isSlot_9 (by decide) ?_
    refine mk_aload_n C 0 dX9_isSlot_10 rfl ?_
    refine mk_get C mk_inX9 0 rfl rfl 0 (by decide) mw_902 (v := .ref (aX 1)) rfl dX9_isSlot_11 ?_
    refine mk_iconst C (v := 1) dX9_isSlot_14 (by decide) ?_
    refine mk_iald C 1 0 (f := (uX 0)) rfl rfl (mk_vi (by decide)) (j := 1) (by decide) dX9_isSlot_15 ?_
    refine mk_iconst C (v := 1) dX9_isSlot_16 (by decide) ?_
    refine mk_isub C dX9_isSlot_17 ?_
    refine mk_i2l C dX9_isSlot_18 ?_
    obtain ⟨r4, h5, hf⟩ := b1_some hf
    refine mk_callSi C (c_X_in l D cI cJ X Y ((p1 : Int32).toInt64) 0 (((((uX 0) 1) - 1) : Int32).toInt64) r4 h5) mw_1052 mw_1053 mw_10 mw_1054 mkn_X9_in rfl ⟨Nat.le_of_ble_eq_true rfl, Nat.le_of_ble_eq_true rfl⟩ (mk_Fr.nil _) (Nat.le_of_ble_eq_true rfl) dX9_isSlot_19 rfl ?_
    refine mk_if_eq C 29 dX9_isSlot_22 (by decide) (fun c6 => ?_) (fun c6 => ?_)
    · replace hf := (if_pos c6).symm.trans hf
      refine mk_iconst C (v := 0) dX9_isSlot_29 (by decide) ?_
      have e0 := Option.some.inj hf
      exact mk_zret C hr hlk rfl e0 rfl dX9_isSlot_30
    · replace hf := (if_neg c6).symm.trans hf
      refine mk_iconst C (v := 1) dX9_isSlot_25 (by decide) ?_
      refine mk_goto C 30 dX9_isSlot_26 (by decide) ?_
      have e0 := Option.some.inj hf
      exact mk_zret C hr hlk rfl e0 rfl dX9_isSlot_30
set_option maxHeartbeats 40000000 in
set_option maxRecDepth 100000 in
theorem c_X_slot (l : Launch) (D : va_G) (cI cJ : ClassId) (X Y : Nat → Nat) (aX : Nat → Nat) (uX : Nat → Nat → Int32) (uL : Nat → Nat → Int64) (p1 : Int32) (p2 : Int32) (r : Int32) (wX : Nat → Nat → Int32) (hf : f_X_slot uX p1 p2 = some (r, wX)) : mk_Met l yX9_slot cX9_slot 3 (some .int) ({ frames := 6, cells := 0, slots := 0, locals := 141 }) D [(cI, .int), (cJ, .long)] X Y [.ref (aX 0), .int p1, .int p2] (wModel aX cI cJ uX uL) (wModel aX cI cJ wX uL) (some (.int r)) 0 0 := by
  refine mk_start (own := RX9) (by decide) rfl (Nat.le_of_ble_eq_true rfl) ?_
  intro sz p e s m args below meth c A C hr hlk hnm
  replace C : mk_Cx p s m args c cX9_slot 3 RX9 D [(cI, .int), (cJ, .long)] X Y A := C
  show mk_Go p l e (headSpec (mk_ws yX9_slot cX9_slot 3 (some .int)) ({ frames := 6, cells := 0, slots := 0, locals := 141 })).room s m args below meth c D A 3 0 0 (MQ below (mk_Q (some (.int r)) D (wModel aX cI cJ wX uL) A) args s 0 0 A) 0 (wModel aX cI cJ uX uL) [(0, .ref (aX 0)), (1, .int p1), (2, .int p2)] []
  unfold f_X_slot at hf
  refine mk_aload_n C 0 dX9_slot_0 rfl ?_
  refine mk_iload_n C 1 dX9_slot_1 rfl ?_
  obtain ⟨r1, h2, hf⟩ := b1_some hf
  refine mk_callVi C (c_X_isSlot l D cI cJ X Y aX uX uL p1 r1 h2) mw_1149 mw_1151 mw_s13 mw_10 mw_1152 mkn_X9_isSlot rfl ⟨Nat.le_of_ble_eq_true rfl, Nat.le_of_ble_eq_true rfl⟩ 0 rfl rfl rfl (mk_Fr.all _ _) (Nat.le_of_ble_eq_true rfl) dX9_slot_2 rfl ?_
  refine mk_if_eq C 20 dX9_slot_5 (by decide) (fun c3 => ?_) (fun c3 => ?_)
  · replace hf := (if_pos c3).symm.trans hf
    refine mk_bipush C (v := (-2)) dX9_slot_20 (by decide) ?_
    have e := Option.some.inj hf
    obtain ⟨e0, e1⟩ := Prod.mk.inj e
    exact mk_iret C hr hlk e0 (by rw [← e1]) dX9_slot_22
  · replace hf := (if_neg c3).symm.trans hf
    refine mk_iload_n C 2 dX9_slot_8 rfl ?_
    refine mk_i2l C dX9_slot_9 ?_
    refine mk_lconst C (v := 0) dX9_slot_10 (by decide) ?_
    refine mk_ldc2 C (v := 4) mw_1157 dX9_slot_11 ?_
    obtain ⟨r4, h5, hf⟩ := b1_some hf
    refine mk_callSi C (c_X_in l D cI cJ X Y ((p2 : Int32).toInt64) 0 4 r4 h5) mw_1052 mw_1053 mw_10 mw_1054 mkn_X9_in rfl ⟨Nat.le_of_ble_eq_true rfl, Nat.le_of_ble_eq_true rfl⟩ (mk_Fr.nil _) (Nat.le_of_ble_eq_true rfl) dX9_slot_14 rfl ?_
    refine mk_if_ne C 23 dX9_slot_17 (by decide) (fun c6 => ?_) (fun c6 => ?_)
    · replace hf := (if_neg c6).symm.trans hf
      refine mk_aload_n C 0 dX9_slot_23 rfl ?_
      obtain ⟨uX_7, h8, hf⟩ := b1_some hf
      refine mk_callVv C (c_X_runs l D cI cJ X Y aX uX uL uX_7 h8) mw_1158 mw_1160 mw_s15 mw_10 mw_1161 mkn_X9_runs rfl ⟨Nat.le_of_ble_eq_true rfl, Nat.le_of_ble_eq_true rfl⟩ 0 rfl rfl rfl (mk_Fr.all _ _) (Nat.le_of_ble_eq_true rfl) dX9_slot_24 rfl ?_
      refine mk_iload_n C 2 dX9_slot_27 rfl ?_
      by_cases c9 : p2 = 0
      · replace hf := (if_pos c9).symm.trans hf
        refine mk_tableIn C 60 c9 dX9_slot_28 (by decide) (by decide) rfl (by decide) ?_
        refine mk_aload_n C 0 dX9_slot_60 rfl ?_
        refine mk_get C mk_inX9 0 rfl rfl 30 (by decide) mw_932 (v := .ref (aX 31)) rfl dX9_slot_61 ?_
        refine mk_iload_n C 1 dX9_slot_64 rfl ?_
        obtain ⟨g10, hf⟩ := gI_some hf
        refine mk_iald C 11 0 (f := (uX_7 30)) rfl rfl g10 (j := (p1 : Int32).toNatClampNeg) rfl dX9_slot_65 ?_
        obtain ⟨r11, h12, hf⟩ := b1_some hf
        refine mk_callSi C (c_X_bitsOf l D cI cJ X Y ((uX_7 30) (p1 : Int32).toNatClampNeg) r11 h12) mw_1181 mw_1182 mw_10 mw_1183 mkn_X9_bitsOf rfl ⟨Nat.le_of_ble_eq_true rfl, Nat.le_of_ble_eq_true rfl⟩ (mk_Fr.nil _) (Nat.le_of_ble_eq_true rfl) dX9_slot_66 rfl ?_
        have e := Option.some.inj hf
        obtain ⟨e0, e1⟩ := Prod.mk.inj e
        exact mk_iret C hr hlk e0 (by rw [← e1]) dX9_slot_69
      · replace hf := (if_neg c9).symm.trans hf
        by_cases c13 : p2 = 1
        · replace hf := (if_pos c13).symm.trans hf
          refine mk_tableIn C 70 c13 dX9_slot_28 (by decide) (by decide) rfl (by decide) ?_
          refine mk_aload_n C 0 dX9_slot_70 rfl ?_
          refine mk_get C mk_inX9 0 rfl rfl 31 (by decide) mw_933 (v := .ref (aX 32)) rfl dX9_slot_71 ?_
          refine mk_iload_n C 1 dX9_slot_74 rfl ?_
          obtain ⟨g14, hf⟩ := gI_some hf
          refine mk_iald C 12 0 (f := (uX_7 31)) rfl rfl g14 (j := (p1 : Int32).toNatClampNeg) rfl dX9_slot_75 ?_
          have e := Option.some.inj hf
          obtain ⟨e0, e1⟩ := Prod.mk.inj e
          exact mk_iret C hr hlk e0 (by rw [← e1]) dX9_slot_76
        · replace hf := (if_neg c13).symm.trans hf
          by_cases c15 : p2 = 2
          · replace hf := (if_pos c15).symm.trans hf
            refine mk_tableIn C 77 c15 dX9_slot_28 (by decide) (by decide) rfl (by decide) ?_
            refine mk_aload_n C 0 dX9_slot_77 rfl ?_
            refine mk_get C mk_inX9 0 rfl rfl 32 (by decide) mw_934 (v := .ref (aX 33)) rfl dX9_slot_78 ?_
            refine mk_iload_n C 1 dX9_slot_81 rfl ?_
            obtain ⟨g16, hf⟩ := gI_some hf
            refine mk_iald C 13 0 (f := (uX_7 32)) rfl rfl g16 (j := (p1 : Int32).toNatClampNeg) rfl dX9_slot_82 ?_
            have e := Option.some.inj hf
            obtain ⟨e0, e1⟩ := Prod.mk.inj e
            exact mk_iret C hr hlk e0 (by rw [← e1]) dX9_slot_83
          · replace hf := (if_neg c15).symm.trans hf
            by_cases c17 : p2 = 3
            · replace hf := (if_pos c17).symm.trans hf
              refine mk_tableIn C 84 c17 dX9_slot_28 (by decide) (by decide) rfl (by decide) ?_
              refine mk_aload_n C 0 dX9_slot_84 rfl ?_
              refine mk_get C mk_inX9 0 rfl rfl 33 (by decide) mw_935 (v := .ref (aX 34)) rfl dX9_slot_85 ?_
              refine mk_iload_n C 1 dX9_slot_88 rfl ?_
              obtain ⟨g18, hf⟩ := gI_some hf
              refine mk_iald C 14 0 (f := (uX_7 33)) rfl rfl g18 (j := (p1 : Int32).toNatClampNeg) rfl dX9_slot_89 ?_
              have e := Option.some.inj hf
              obtain ⟨e0, e1⟩ := Prod.mk.inj e
              exact mk_iret C hr hlk e0 (by rw [← e1]) dX9_slot_90
            · replace hf := (if_neg c17).symm.trans hf
              refine mk_tableOut C 91 dX9_slot_28 (by have e0 := mk_ne c9 (k := 0) (by decide); have e1 := mk_ne c13 (k := 1) (by decide); have e2 := mk_ne c15 (k := 2) (by decide); have e3 := mk_ne c17 (k := 3) (by decide); omega) (by decide) ?_
              refine mk_aload_n C 0 dX9_slot_91 rfl ?_
              refine mk_get C mk_inX9 0 rfl rfl 34 (by decide) mw_936 (v := .ref (aX 35)) rfl dX9_slot_92 ?_
              refine mk_iload_n C 1 dX9_slot_95 rfl ?_
              obtain ⟨g19, hf⟩ := gI_some hf
              refine mk_iald C 15 0 (f := (uX_7 34)) rfl rfl g19 (j := (p1 : Int32).toNatClampNeg) rfl dX9_slot_96 ?_
              have e := Option.some.inj hf
              obtain ⟨e0, e1⟩ := Prod.mk.inj e
              exact mk_iret C hr hlk e0 (by rw [← e1]) dX9_slot_97
    · replace hf := (if_pos c6).symm.trans hf
      refine mk_bipush C (v := (-2)) dX9_slot_20 (by decide) ?_
      have e := Option.some.inj hf
      obtain ⟨e0, e1⟩ := Prod.mk.inj e
      exact mk_iret C hr hlk e0 (by rw [← e1]) dX9_slot_22
set_option maxHeartbeats 40000000 in
set_option maxRecDepth 100000 in
theorem c_X_sends (l : Launch) (D : va_G) (cI cJ : ClassId) (X Y : Nat → Nat) (aX : Nat → Nat) (uX : Nat → Nat → Int32) (uL : Nat → Nat → Int64) (p1 : Int32) (p2 : Int32) (r : Int32) (wX : Nat → Nat → Int32) (hf : f_X_sends uX p1 p2 = some (r, wX)) : mk_Met l yX9_sends cX9_sends 3 (some .int) ({ frames := 6, cells := 0, slots := 0, locals := 141 }) D [(cI, .int), (cJ, .long)] X Y [.ref (aX 0), .int p1, .int p2] (wModel aX cI cJ uX uL) (wModel aX cI cJ wX uL) (some (.int r)) 0 0 := by
  refine mk_start (own := RX9) (by decide) rfl (Nat.le_of_ble_eq_true rfl) ?_
  intro sz p e s m args below meth c A C hr hlk hnm
  replace C : mk_Cx p s m args c cX9_sends 3 RX9 D [(cI, .int), (cJ, .long)] X Y A := C
  show mk_Go p l e (headSpec (mk_ws yX9_sends cX9_sends 3 (some .int)) ({ frames := 6, cells := 0, slots := 0, locals := 141 })).room s m args below meth c D A 3 0 0 (MQ below (mk_Q (some (.int r)) D (wModel aX cI cJ wX uL) A) args s 0 0 A) 0 (wModel aX cI cJ uX uL) [(0, .ref (aX 0)), (1, .int p1), (2, .int p2)] []
  unfold f_X_sends at hf
  refine mk_aload_n C 0 dX9_sends_0 rfl ?_
  refine mk_iload_n C 1 dX9_sends_1 rfl ?_
  obtain ⟨r1, h2, hf⟩ := b1_some hf
  refine mk_callVi C (c_X_isSlot l D cI cJ X Y aX uX uL p1 r1 h2) mw_1149 mw_1151 mw_s13 mw_10 mw_1152 mkn_X9_isSlot rfl ⟨Nat.le_of_ble_eq_true rfl, Nat.le_of_ble_eq_true rfl⟩ 0 rfl rfl rfl (mk_Fr.all _ _) (Nat.le_of_ble_eq_true rfl) dX9_sends_2 rfl ?_
  refine mk_if_eq C 16 dX9_sends_5 (by decide) (fun c3 => ?_) (fun c3 => ?_)
  · replace hf := (if_pos c3).symm.trans hf
    refine mk_bipush C (v := (-2)) dX9_sends_16 (by decide) ?_
    have e := Option.some.inj hf
    obtain ⟨e0, e1⟩ := Prod.mk.inj e
    exact mk_iret C hr hlk e0 (by rw [← e1]) dX9_sends_18
  · replace hf := (if_neg c3).symm.trans hf
    refine mk_aload_n C 0 dX9_sends_8 rfl ?_
    refine mk_iload_n C 2 dX9_sends_9 rfl ?_
    obtain ⟨r4, h5, hf⟩ := b1_some hf
    refine mk_callVi C (c_X_isSender l D cI cJ X Y aX uX uL p2 r4 h5) mw_1132 mw_1134 mw_s11 mw_10 mw_1135 mkn_X9_isSender rfl ⟨Nat.le_of_ble_eq_true rfl, Nat.le_of_ble_eq_true rfl⟩ 0 rfl rfl rfl (mk_Fr.all _ _) (Nat.le_of_ble_eq_true rfl) dX9_sends_10 rfl ?_
    refine mk_if_ne C 19 dX9_sends_13 (by decide) (fun c6 => ?_) (fun c6 => ?_)
    · replace hf := (if_neg c6).symm.trans hf
      refine mk_aload_n C 0 dX9_sends_19 rfl ?_
      obtain ⟨uX_7, h8, hf⟩ := b1_some hf
      refine mk_callVv C (c_X_runs l D cI cJ X Y aX uX uL uX_7 h8) mw_1158 mw_1160 mw_s15 mw_10 mw_1161 mkn_X9_runs rfl ⟨Nat.le_of_ble_eq_true rfl, Nat.le_of_ble_eq_true rfl⟩ 0 rfl rfl rfl (mk_Fr.all _ _) (Nat.le_of_ble_eq_true rfl) dX9_sends_20 rfl ?_
      refine mk_aload_n C 0 dX9_sends_23 rfl ?_
      refine mk_get C mk_inX9 0 rfl rfl 30 (by decide) mw_932 (v := .ref (aX 31)) rfl dX9_sends_24 ?_
      refine mk_iload_n C 1 dX9_sends_27 rfl ?_
      obtain ⟨g9, hf⟩ := gI_some hf
      refine mk_iald C 11 0 (f := (uX_7 30)) rfl rfl g9 (j := (p1 : Int32).toNatClampNeg) rfl dX9_sends_28 ?_
      refine mk_iload_n C 2 dX9_sends_29 rfl ?_
      obtain ⟨r10, h11, hf⟩ := b1_some hf
      refine mk_callSi C (c_X_has l D cI cJ X Y ((uX_7 30) (p1 : Int32).toNatClampNeg) p2 r10 h11) mw_1174 mw_1175 mw_10 mw_1176 mkn_X9_has rfl ⟨Nat.le_of_ble_eq_true rfl, Nat.le_of_ble_eq_true rfl⟩ (mk_Fr.nil _) (Nat.le_of_ble_eq_true rfl) dX9_sends_30 rfl ?_
      refine mk_if_eq C 40 dX9_sends_33 (by decide) (fun c12 => ?_) (fun c12 => ?_)
      · replace hf := (if_pos c12).symm.trans hf
        refine mk_iconst C (v := 0) dX9_sends_40 (by decide) ?_
        have e := Option.some.inj hf
        obtain ⟨e0, e1⟩ := Prod.mk.inj e
        exact mk_iret C hr hlk e0 (by rw [← e1]) dX9_sends_41
      · replace hf := (if_neg c12).symm.trans hf
        refine mk_iconst C (v := 1) dX9_sends_36 (by decide) ?_
        refine mk_goto C 41 dX9_sends_37 (by decide) ?_
        have e := Option.some.inj hf
        obtain ⟨e0, e1⟩ := Prod.mk.inj e
        exact mk_iret C hr hlk e0 (by rw [← e1]) dX9_sends_41
    · replace hf := (if_pos c6).symm.trans hf
      refine mk_bipush C (v := (-2)) dX9_sends_16 (by decide) ?_
      have e := Option.some.inj hf
      obtain ⟨e0, e1⟩ := Prod.mk.inj e
      exact mk_iret C hr hlk e0 (by rw [← e1]) dX9_sends_18
set_option maxHeartbeats 40000000 in
set_option maxRecDepth 100000 in
theorem c_X_delivered (l : Launch) (D : va_G) (cI cJ : ClassId) (X Y : Nat → Nat) (aX : Nat → Nat) (uX : Nat → Nat → Int32) (uL : Nat → Nat → Int64) (p1 : Int32) (r : Int32) (wX : Nat → Nat → Int32) (hf : f_X_delivered uX p1 = some (r, wX)) : mk_Met l yX9_delivered cX9_delivered 2 (some .int) ({ frames := 6, cells := 0, slots := 0, locals := 141 }) D [(cI, .int), (cJ, .long)] X Y [.ref (aX 0), .int p1] (wModel aX cI cJ uX uL) (wModel aX cI cJ wX uL) (some (.int r)) 0 0 := by
  refine mk_start (own := RX9) (by decide) rfl (Nat.le_of_ble_eq_true rfl) ?_
  intro sz p e s m args below meth c A C hr hlk hnm
  replace C : mk_Cx p s m args c cX9_delivered 2 RX9 D [(cI, .int), (cJ, .long)] X Y A := C
  show mk_Go p l e (headSpec (mk_ws yX9_delivered cX9_delivered 2 (some .int)) ({ frames := 6, cells := 0, slots := 0, locals := 141 })).room s m args below meth c D A 2 0 0 (MQ below (mk_Q (some (.int r)) D (wModel aX cI cJ wX uL) A) args s 0 0 A) 0 (wModel aX cI cJ uX uL) [(0, .ref (aX 0)), (1, .int p1)] []
  unfold f_X_delivered at hf
  refine mk_aload_n C 0 dX9_delivered_0 rfl ?_
  refine mk_iload_n C 1 dX9_delivered_1 rfl ?_
  obtain ⟨r1, h2, hf⟩ := b1_some hf
  refine mk_callVi C (c_X_isSender l D cI cJ X Y aX uX uL p1 r1 h2) mw_1132 mw_1134 mw_s11 mw_10 mw_1135 mkn_X9_isSender rfl ⟨Nat.le_of_ble_eq_true rfl, Nat.le_of_ble_eq_true rfl⟩ 0 rfl rfl rfl (mk_Fr.all _ _) (Nat.le_of_ble_eq_true rfl) dX9_delivered_2 rfl ?_
  refine mk_if_ne C 11 dX9_delivered_5 (by decide) (fun c3 => ?_) (fun c3 => ?_)
  · replace hf := (if_neg c3).symm.trans hf
    refine mk_aload_n C 0 dX9_delivered_11 rfl ?_
    obtain ⟨uX_4, h5, hf⟩ := b1_some hf
    refine mk_callVv C (c_X_runs l D cI cJ X Y aX uX uL uX_4 h5) mw_1158 mw_1160 mw_s15 mw_10 mw_1161 mkn_X9_runs rfl ⟨Nat.le_of_ble_eq_true rfl, Nat.le_of_ble_eq_true rfl⟩ 0 rfl rfl rfl (mk_Fr.all _ _) (Nat.le_of_ble_eq_true rfl) dX9_delivered_12 rfl ?_
    refine mk_aload_n C 0 dX9_delivered_15 rfl ?_
    refine mk_get C mk_inX9 0 rfl rfl 29 (by decide) mw_931 (v := .ref (aX 30)) rfl dX9_delivered_16 ?_
    refine mk_iload_n C 1 dX9_delivered_19 rfl ?_
    obtain ⟨g6, hf⟩ := gI_some hf
    refine mk_iald C 10 0 (f := (uX_4 29)) rfl rfl g6 (j := (p1 : Int32).toNatClampNeg) rfl dX9_delivered_20 ?_
    have e := Option.some.inj hf
    obtain ⟨e0, e1⟩ := Prod.mk.inj e
    exact mk_iret C hr hlk e0 (by rw [← e1]) dX9_delivered_21
  · replace hf := (if_pos c3).symm.trans hf
    refine mk_bipush C (v := (-2)) dX9_delivered_8 (by decide) ?_
    have e := Option.some.inj hf
    obtain ⟨e0, e1⟩ := Prod.mk.inj e
    exact mk_iret C hr hlk e0 (by rw [← e1]) dX9_delivered_10
set_option maxHeartbeats 40000000 in
set_option maxRecDepth 100000 in
theorem c_X_tries (l : Launch) (D : va_G) (cI cJ : ClassId) (X Y : Nat → Nat) (aX : Nat → Nat) (uX : Nat → Nat → Int32) (uL : Nat → Nat → Int64) (p1 : Int32) (r : Int32) (wX : Nat → Nat → Int32) (hf : f_X_tries uX p1 = some (r, wX)) : mk_Met l yX9_tries cX9_tries 4 (some .int) ({ frames := 6, cells := 0, slots := 0, locals := 141 }) D [(cI, .int), (cJ, .long)] X Y [.ref (aX 0), .int p1] (wModel aX cI cJ uX uL) (wModel aX cI cJ wX uL) (some (.int r)) 0 0 := by
  refine mk_start (own := RX9) (by decide) rfl (Nat.le_of_ble_eq_true rfl) ?_
  intro sz p e s m args below meth c A C hr hlk hnm
  replace C : mk_Cx p s m args c cX9_tries 4 RX9 D [(cI, .int), (cJ, .long)] X Y A := C
  have wL19 : ∀ (n : Nat) (v2 : Int32) (v3 : Int32) (uX : Nat → Nat → Int32), f_X_tries_19 p1 n v2 v3 uX = some (r, wX) → mk_Go p l e (headSpec (mk_ws yX9_tries cX9_tries 4 (some .int)) ({ frames := 6, cells := 0, slots := 0, locals := 141 })).room s m args below meth c D A 4 0 0 (MQ below (mk_Q (some (.int r)) D (wModel aX cI cJ wX uL) A) args s 0 0 A) 19 (wModel aX cI cJ uX uL) [(0, .ref (aX 0)), (1, .int p1), (2, .int v2), (3, .int v3)] [] := by
    intro  n
    induction n with
    | zero => intro v2 v3 uX hf; exact nomatch (show (none : Option (Int32 × (Nat → Nat → Int32))) = some _ from hf)
    | succ n ih =>
      intro v2 v3 uX hf
      rw [f_X_tries_19] at hf
      refine mk_iload_n C 3 dX9_tries_19 rfl ?_
      refine mk_aload_n C 0 dX9_tries_20 rfl ?_
      refine mk_get C mk_inX9 0 rfl rfl 0 (by decide) mw_902 (v := .ref (aX 1)) rfl dX9_tries_21 ?_
      refine mk_iconst C (v := 1) dX9_tries_24 (by decide) ?_
      refine mk_iald C 1 0 (f := (uX 0)) rfl rfl (mk_vi (by decide)) (j := 1) (by decide) dX9_tries_25 ?_
      refine mk_icmp_ge C 56 dX9_tries_26 (by decide) (fun c1 => ?_) (fun c1 => ?_)
      · replace hf := (if_pos c1).symm.trans hf
        refine mk_iload_n C 2 dX9_tries_56 rfl ?_
        have e := Option.some.inj hf
        obtain ⟨e0, e1⟩ := Prod.mk.inj e
        exact mk_iret C hr hlk e0 (by rw [← e1]) dX9_tries_57
      · replace hf := (if_neg c1).symm.trans hf
        refine mk_iload_n C 2 dX9_tries_29 rfl ?_
        refine mk_aload_n C 0 dX9_tries_30 rfl ?_
        refine mk_get C mk_inX9 0 rfl rfl 30 (by decide) mw_932 (v := .ref (aX 31)) rfl dX9_tries_31 ?_
        refine mk_iload_n C 3 dX9_tries_34 rfl ?_
        obtain ⟨g2, hf⟩ := gI_some hf
        refine mk_iald C 11 0 (f := (uX 30)) rfl rfl g2 (j := (v3 : Int32).toNatClampNeg) rfl dX9_tries_35 ?_
        refine mk_iload_n C 1 dX9_tries_36 rfl ?_
        obtain ⟨r3, h4, hf⟩ := b1_some hf
        refine mk_callSi C (c_X_has l D cI cJ X Y ((uX 30) (v3 : Int32).toNatClampNeg) p1 r3 h4) mw_1174 mw_1175 mw_10 mw_1176 mkn_X9_has rfl ⟨Nat.le_of_ble_eq_true rfl, Nat.le_of_ble_eq_true rfl⟩ (mk_Fr.nil _) (Nat.le_of_ble_eq_true rfl) dX9_tries_37 rfl ?_
        refine mk_if_eq C 47 dX9_tries_40 (by decide) (fun c5 => ?_) (fun c5 => ?_)
        · replace hf := (if_pos c5).symm.trans hf
          refine mk_iconst C (v := 0) dX9_tries_47 (by decide) ?_
          refine mk_iadd C dX9_tries_48 ?_
          refine mk_istore_n C (lv' := [(2, .int (v2 + 0)), (0, .ref (aX 0)), (1, .int p1), (3, .int v3)]) dX9_tries_49 (by decide) rfl ?_
          refine mk_iinc C (v := (v3 + 1)) (lv' := [(3, .int (v3 + 1)), (2, .int (v2 + 0)), (0, .ref (aX 0)), (1, .int p1)]) 3 dX9_tries_50 rfl rfl (by decide) rfl ?_
          refine mk_goto C 19 dX9_tries_53 (by decide) ?_
          exact mk_lvsub [2, 3, 1, 0] rfl (ih _ _ _ hf)
        · replace hf := (if_neg c5).symm.trans hf
          refine mk_iconst C (v := 1) dX9_tries_43 (by decide) ?_
          refine mk_goto C 48 dX9_tries_44 (by decide) ?_
          refine mk_iadd C dX9_tries_48 ?_
          refine mk_istore_n C (lv' := [(2, .int (v2 + 1)), (0, .ref (aX 0)), (1, .int p1), (3, .int v3)]) dX9_tries_49 (by decide) rfl ?_
          refine mk_iinc C (v := (v3 + 1)) (lv' := [(3, .int (v3 + 1)), (2, .int (v2 + 1)), (0, .ref (aX 0)), (1, .int p1)]) 3 dX9_tries_50 rfl rfl (by decide) rfl ?_
          refine mk_goto C 19 dX9_tries_53 (by decide) ?_
          exact mk_lvsub [2, 3, 1, 0] rfl (ih _ _ _ hf)
  show mk_Go p l e (headSpec (mk_ws yX9_tries cX9_tries 4 (some .int)) ({ frames := 6, cells := 0, slots := 0, locals := 141 })).room s m args below meth c D A 4 0 0 (MQ below (mk_Q (some (.int r)) D (wModel aX cI cJ wX uL) A) args s 0 0 A) 0 (wModel aX cI cJ uX uL) [(0, .ref (aX 0)), (1, .int p1)] []
  unfold f_X_tries at hf
  refine mk_aload_n C 0 dX9_tries_0 rfl ?_
  refine mk_iload_n C 1 dX9_tries_1 rfl ?_
  obtain ⟨r6, h7, hf⟩ := b1_some hf
  refine mk_callVi C (c_X_isSender l D cI cJ X Y aX uX uL p1 r6 h7) mw_1132 mw_1134 mw_s11 mw_10 mw_1135 mkn_X9_isSender rfl ⟨Nat.le_of_ble_eq_true rfl, Nat.le_of_ble_eq_true rfl⟩ 0 rfl rfl rfl (mk_Fr.all _ _) (Nat.le_of_ble_eq_true rfl) dX9_tries_2 rfl ?_
  refine mk_if_ne C 11 dX9_tries_5 (by decide) (fun c8 => ?_) (fun c8 => ?_)
  · replace hf := (if_neg c8).symm.trans hf
    refine mk_aload_n C 0 dX9_tries_11 rfl ?_
    obtain ⟨uX_9, h10, hf⟩ := b1_some hf
    refine mk_callVv C (c_X_runs l D cI cJ X Y aX uX uL uX_9 h10) mw_1158 mw_1160 mw_s15 mw_10 mw_1161 mkn_X9_runs rfl ⟨Nat.le_of_ble_eq_true rfl, Nat.le_of_ble_eq_true rfl⟩ 0 rfl rfl rfl (mk_Fr.all _ _) (Nat.le_of_ble_eq_true rfl) dX9_tries_12 rfl ?_
    refine mk_iconst C (v := 0) dX9_tries_15 (by decide) ?_
    refine mk_istore_n C (lv' := [(2, .int 0), (0, .ref (aX 0)), (1, .int p1)]) dX9_tries_16 (by decide) rfl ?_
    refine mk_iconst C (v := 0) dX9_tries_17 (by decide) ?_
    refine mk_istore_n C (lv' := [(3, .int 0), (2, .int 0), (0, .ref (aX 0)), (1, .int p1)]) dX9_tries_18 (by decide) rfl ?_
    exact mk_lvsub [2, 3, 1, 0] rfl (wL19 600 _ _ _ hf)
  · replace hf := (if_pos c8).symm.trans hf
    refine mk_bipush C (v := (-2)) dX9_tries_8 (by decide) ?_
    have e := Option.some.inj hf
    obtain ⟨e0, e1⟩ := Prod.mk.inj e
    exact mk_iret C hr hlk e0 (by rw [← e1]) dX9_tries_10
set_option maxHeartbeats 40000000 in
set_option maxRecDepth 100000 in
theorem c_X_taken (l : Launch) (D : va_G) (cI cJ : ClassId) (X Y : Nat → Nat) (aX : Nat → Nat) (uX : Nat → Nat → Int32) (uL : Nat → Nat → Int64) (p1 : Int32) (r : Int32) (wX : Nat → Nat → Int32) (hf : f_X_taken uX p1 = some (r, wX)) : mk_Met l yX9_taken cX9_taken 2 (some .int) ({ frames := 6, cells := 0, slots := 0, locals := 141 }) D [(cI, .int), (cJ, .long)] X Y [.ref (aX 0), .int p1] (wModel aX cI cJ uX uL) (wModel aX cI cJ wX uL) (some (.int r)) 0 0 := by
  refine mk_start (own := RX9) (by decide) rfl (Nat.le_of_ble_eq_true rfl) ?_
  intro sz p e s m args below meth c A C hr hlk hnm
  replace C : mk_Cx p s m args c cX9_taken 2 RX9 D [(cI, .int), (cJ, .long)] X Y A := C
  show mk_Go p l e (headSpec (mk_ws yX9_taken cX9_taken 2 (some .int)) ({ frames := 6, cells := 0, slots := 0, locals := 141 })).room s m args below meth c D A 2 0 0 (MQ below (mk_Q (some (.int r)) D (wModel aX cI cJ wX uL) A) args s 0 0 A) 0 (wModel aX cI cJ uX uL) [(0, .ref (aX 0)), (1, .int p1)] []
  unfold f_X_taken at hf
  refine mk_aload_n C 0 dX9_taken_0 rfl ?_
  refine mk_iload_n C 1 dX9_taken_1 rfl ?_
  obtain ⟨r1, h2, hf⟩ := b1_some hf
  refine mk_callVi C (c_X_isSender l D cI cJ X Y aX uX uL p1 r1 h2) mw_1132 mw_1134 mw_s11 mw_10 mw_1135 mkn_X9_isSender rfl ⟨Nat.le_of_ble_eq_true rfl, Nat.le_of_ble_eq_true rfl⟩ 0 rfl rfl rfl (mk_Fr.all _ _) (Nat.le_of_ble_eq_true rfl) dX9_taken_2 rfl ?_
  refine mk_if_ne C 11 dX9_taken_5 (by decide) (fun c3 => ?_) (fun c3 => ?_)
  · replace hf := (if_neg c3).symm.trans hf
    refine mk_aload_n C 0 dX9_taken_11 rfl ?_
    obtain ⟨uX_4, h5, hf⟩ := b1_some hf
    refine mk_callVv C (c_X_runs l D cI cJ X Y aX uX uL uX_4 h5) mw_1158 mw_1160 mw_s15 mw_10 mw_1161 mkn_X9_runs rfl ⟨Nat.le_of_ble_eq_true rfl, Nat.le_of_ble_eq_true rfl⟩ 0 rfl rfl rfl (mk_Fr.all _ _) (Nat.le_of_ble_eq_true rfl) dX9_taken_12 rfl ?_
    refine mk_aload_n C 0 dX9_taken_15 rfl ?_
    refine mk_get C mk_inX9 0 rfl rfl 27 (by decide) mw_929 (v := .ref (aX 28)) rfl dX9_taken_16 ?_
    refine mk_iload_n C 1 dX9_taken_19 rfl ?_
    obtain ⟨g6, hf⟩ := gI_some hf
    refine mk_iald C 8 0 (f := (uX_4 27)) rfl rfl g6 (j := (p1 : Int32).toNatClampNeg) rfl dX9_taken_20 ?_
    have e := Option.some.inj hf
    obtain ⟨e0, e1⟩ := Prod.mk.inj e
    exact mk_iret C hr hlk e0 (by rw [← e1]) dX9_taken_21
  · replace hf := (if_pos c3).symm.trans hf
    refine mk_bipush C (v := (-2)) dX9_taken_8 (by decide) ?_
    have e := Option.some.inj hf
    obtain ⟨e0, e1⟩ := Prod.mk.inj e
    exact mk_iret C hr hlk e0 (by rw [← e1]) dX9_taken_10
set_option maxHeartbeats 40000000 in
set_option maxRecDepth 100000 in
theorem c_X_order (l : Launch) (D : va_G) (cI cJ : ClassId) (X Y : Nat → Nat) (aX : Nat → Nat) (uX : Nat → Nat → Int32) (uL : Nat → Nat → Int64) (p1 : Int32) (r : Int32) (wX : Nat → Nat → Int32) (hf : f_X_order uX p1 = some (r, wX)) : mk_Met l yX9_order cX9_order 4 (some .int) ({ frames := 6, cells := 0, slots := 0, locals := 141 }) D [(cI, .int), (cJ, .long)] X Y [.ref (aX 0), .int p1] (wModel aX cI cJ uX uL) (wModel aX cI cJ wX uL) (some (.int r)) 0 0 := by
  refine mk_start (own := RX9) (by decide) rfl (Nat.le_of_ble_eq_true rfl) ?_
  intro sz p e s m args below meth c A C hr hlk hnm
  replace C : mk_Cx p s m args c cX9_order 4 RX9 D [(cI, .int), (cJ, .long)] X Y A := C
  have wL22 : ∀ (n : Nat) (v2 : Int32) (v3 : Int32) (uX : Nat → Nat → Int32), f_X_order_22 p1 n v2 v3 uX = some (r, wX) → mk_Go p l e (headSpec (mk_ws yX9_order cX9_order 4 (some .int)) ({ frames := 6, cells := 0, slots := 0, locals := 141 })).room s m args below meth c D A 4 0 0 (MQ below (mk_Q (some (.int r)) D (wModel aX cI cJ wX uL) A) args s 0 0 A) 22 (wModel aX cI cJ uX uL) [(0, .ref (aX 0)), (2, .int v2), (3, .int v3)] [] := by
    intro  n
    induction n with
    | zero => intro v2 v3 uX hf; exact nomatch (show (none : Option (Int32 × (Nat → Nat → Int32))) = some _ from hf)
    | succ n ih =>
      intro v2 v3 uX hf
      rw [f_X_order_22] at hf
      refine mk_iload_n C 2 dX9_order_22 rfl ?_
      refine mk_aload_n C 0 dX9_order_23 rfl ?_
      refine mk_get C mk_inX9 0 rfl rfl 0 (by decide) mw_902 (v := .ref (aX 1)) rfl dX9_order_24 ?_
      refine mk_iconst C (v := 1) dX9_order_27 (by decide) ?_
      refine mk_iald C 1 0 (f := (uX 0)) rfl rfl (mk_vi (by decide)) (j := 1) (by decide) dX9_order_28 ?_
      refine mk_icmp_ge C 62 dX9_order_29 (by decide) (fun c1 => ?_) (fun c1 => ?_)
      · replace hf := (if_pos c1).symm.trans hf
        refine mk_iconst C (v := (-1)) dX9_order_62 (by decide) ?_
        have e := Option.some.inj hf
        obtain ⟨e0, e1⟩ := Prod.mk.inj e
        exact mk_iret C hr hlk e0 (by rw [← e1]) dX9_order_63
      · replace hf := (if_neg c1).symm.trans hf
        refine mk_aload_n C 0 dX9_order_32 rfl ?_
        refine mk_get C mk_inX9 0 rfl rfl 32 (by decide) mw_934 (v := .ref (aX 33)) rfl dX9_order_33 ?_
        refine mk_iload_n C 2 dX9_order_36 rfl ?_
        obtain ⟨g2, hf⟩ := gI_some hf
        refine mk_iald C 13 0 (f := (uX 32)) rfl rfl g2 (j := (v3 : Int32).toNatClampNeg) rfl dX9_order_37 ?_
        refine mk_iconst C (v := (-1)) dX9_order_38 (by decide) ?_
        refine mk_icmp_eq C 56 dX9_order_39 (by decide) (fun c3 => ?_) (fun c3 => ?_)
        · replace hf := (if_pos c3).symm.trans hf
          refine mk_iinc C (v := (v3 + 1)) (lv' := [(3, .int (v3 + 1)), (0, .ref (aX 0)), (2, .int v2)]) 2 dX9_order_56 rfl rfl (by decide) rfl ?_
          refine mk_goto C 22 dX9_order_59 (by decide) ?_
          exact mk_lvsub [1, 2, 0] rfl (ih _ _ _ hf)
        · replace hf := (if_neg c3).symm.trans hf
          refine mk_iload_n C 1 dX9_order_42 rfl ?_
          refine mk_if_ne C 53 dX9_order_43 (by decide) (fun c4 => ?_) (fun c4 => ?_)
          · replace hf := (if_neg c4).symm.trans hf
            refine mk_iinc C (v := (v2 + (-1))) (lv' := [(2, .int (v2 + (-1))), (0, .ref (aX 0)), (3, .int v3)]) 1 dX9_order_53 rfl rfl (by decide) rfl ?_
            refine mk_iinc C (v := (v3 + 1)) (lv' := [(3, .int (v3 + 1)), (2, .int (v2 + (-1))), (0, .ref (aX 0))]) 2 dX9_order_56 rfl rfl (by decide) rfl ?_
            refine mk_goto C 22 dX9_order_59 (by decide) ?_
            exact mk_lvsub [2, 1, 0] rfl (ih _ _ _ hf)
          · replace hf := (if_pos c4).symm.trans hf
            refine mk_aload_n C 0 dX9_order_46 rfl ?_
            refine mk_get C mk_inX9 0 rfl rfl 32 (by decide) mw_934 (v := .ref (aX 33)) rfl dX9_order_47 ?_
            refine mk_iload_n C 2 dX9_order_50 rfl ?_
            refine mk_iald C 13 0 (f := (uX 32)) rfl rfl g2 (j := (v3 : Int32).toNatClampNeg) rfl dX9_order_51 ?_
            have e := Option.some.inj hf
            obtain ⟨e0, e1⟩ := Prod.mk.inj e
            exact mk_iret C hr hlk e0 (by rw [← e1]) dX9_order_52
  show mk_Go p l e (headSpec (mk_ws yX9_order cX9_order 4 (some .int)) ({ frames := 6, cells := 0, slots := 0, locals := 141 })).room s m args below meth c D A 4 0 0 (MQ below (mk_Q (some (.int r)) D (wModel aX cI cJ wX uL) A) args s 0 0 A) 0 (wModel aX cI cJ uX uL) [(0, .ref (aX 0)), (1, .int p1)] []
  unfold f_X_order at hf
  refine mk_aload_n C 0 dX9_order_0 rfl ?_
  obtain ⟨r5, h6, hf⟩ := b1_some hf
  refine mk_callVi C (c_X_is l D cI cJ X Y aX uX uL r5 h6) mw_1153 mw_1155 mw_s14 mw_10 mw_1156 mkn_X9_is rfl ⟨Nat.le_of_ble_eq_true rfl, Nat.le_of_ble_eq_true rfl⟩ 0 rfl rfl rfl (mk_Fr.all _ _) (Nat.le_of_ble_eq_true rfl) dX9_order_1 rfl ?_
  refine mk_if_eq C 11 dX9_order_4 (by decide) (fun c7 => ?_) (fun c7 => ?_)
  · replace hf := (if_pos c7).symm.trans hf
    refine mk_bipush C (v := (-2)) dX9_order_11 (by decide) ?_
    have e := Option.some.inj hf
    obtain ⟨e0, e1⟩ := Prod.mk.inj e
    exact mk_iret C hr hlk e0 (by rw [← e1]) dX9_order_13
  · replace hf := (if_neg c7).symm.trans hf
    refine mk_iload_n C 1 dX9_order_7 rfl ?_
    refine mk_if_ge C 14 dX9_order_8 (by decide) (fun c8 => ?_) (fun c8 => ?_)
    · replace hf := (if_pos c8).symm.trans hf
      refine mk_aload_n C 0 dX9_order_14 rfl ?_
      obtain ⟨uX_9, h10, hf⟩ := b1_some hf
      refine mk_callVv C (c_X_runs l D cI cJ X Y aX uX uL uX_9 h10) mw_1158 mw_1160 mw_s15 mw_10 mw_1161 mkn_X9_runs rfl ⟨Nat.le_of_ble_eq_true rfl, Nat.le_of_ble_eq_true rfl⟩ 0 rfl rfl rfl (mk_Fr.all _ _) (Nat.le_of_ble_eq_true rfl) dX9_order_15 rfl ?_
      refine mk_iload_n C 1 dX9_order_18 rfl ?_
      refine mk_istore_n C (lv' := [(2, .int p1), (0, .ref (aX 0)), (1, .int p1)]) dX9_order_19 (by decide) rfl ?_
      refine mk_iconst C (v := 0) dX9_order_20 (by decide) ?_
      refine mk_istore_n C (lv' := [(3, .int 0), (2, .int p1), (0, .ref (aX 0)), (1, .int p1)]) dX9_order_21 (by decide) rfl ?_
      exact mk_lvsub [2, 1, 0] rfl (wL22 600 _ _ _ hf)
    · replace hf := (if_neg c8).symm.trans hf
      refine mk_bipush C (v := (-2)) dX9_order_11 (by decide) ?_
      have e := Option.some.inj hf
      obtain ⟨e0, e1⟩ := Prod.mk.inj e
      exact mk_iret C hr hlk e0 (by rw [← e1]) dX9_order_13
set_option maxHeartbeats 40000000 in
set_option maxRecDepth 100000 in
theorem c_X_all (l : Launch) (D : va_G) (cI cJ : ClassId) (X Y : Nat → Nat) (aX : Nat → Nat) (uX : Nat → Nat → Int32) (uL : Nat → Nat → Int64) (r : Int32) (wX : Nat → Nat → Int32) (hf : f_X_all uX = some (r, wX)) : mk_Met l yX9_all cX9_all 1 (some .int) ({ frames := 6, cells := 0, slots := 0, locals := 141 }) D [(cI, .int), (cJ, .long)] X Y [.ref (aX 0)] (wModel aX cI cJ uX uL) (wModel aX cI cJ wX uL) (some (.int r)) 0 0 := by
  refine mk_start (own := RX9) (by decide) rfl (Nat.le_of_ble_eq_true rfl) ?_
  intro sz p e s m args below meth c A C hr hlk hnm
  replace C : mk_Cx p s m args c cX9_all 1 RX9 D [(cI, .int), (cJ, .long)] X Y A := C
  show mk_Go p l e (headSpec (mk_ws yX9_all cX9_all 1 (some .int)) ({ frames := 6, cells := 0, slots := 0, locals := 141 })).room s m args below meth c D A 1 0 0 (MQ below (mk_Q (some (.int r)) D (wModel aX cI cJ wX uL) A) args s 0 0 A) 0 (wModel aX cI cJ uX uL) [(0, .ref (aX 0))] []
  unfold f_X_all at hf
  refine mk_aload_n C 0 dX9_all_0 rfl ?_
  obtain ⟨r1, h2, hf⟩ := b1_some hf
  refine mk_callVi C (c_X_is l D cI cJ X Y aX uX uL r1 h2) mw_1153 mw_1155 mw_s14 mw_10 mw_1156 mkn_X9_is rfl ⟨Nat.le_of_ble_eq_true rfl, Nat.le_of_ble_eq_true rfl⟩ 0 rfl rfl rfl (mk_Fr.all _ _) (Nat.le_of_ble_eq_true rfl) dX9_all_1 rfl ?_
  refine mk_if_ne C 10 dX9_all_4 (by decide) (fun c3 => ?_) (fun c3 => ?_)
  · replace hf := (if_neg c3).symm.trans hf
    refine mk_aload_n C 0 dX9_all_10 rfl ?_
    obtain ⟨uX_4, h5, hf⟩ := b1_some hf
    refine mk_callVv C (c_X_runs l D cI cJ X Y aX uX uL uX_4 h5) mw_1158 mw_1160 mw_s15 mw_10 mw_1161 mkn_X9_runs rfl ⟨Nat.le_of_ble_eq_true rfl, Nat.le_of_ble_eq_true rfl⟩ 0 rfl rfl rfl (mk_Fr.all _ _) (Nat.le_of_ble_eq_true rfl) dX9_all_11 rfl ?_
    refine mk_aload_n C 0 dX9_all_14 rfl ?_
    refine mk_get C mk_inX9 0 rfl rfl 40 (by decide) mw_942 (v := .int (uX_4 40 0)) rfl dX9_all_15 ?_
    have e := Option.some.inj hf
    obtain ⟨e0, e1⟩ := Prod.mk.inj e
    exact mk_iret C hr hlk e0 (by rw [← e1]) dX9_all_18
  · replace hf := (if_pos c3).symm.trans hf
    refine mk_bipush C (v := (-2)) dX9_all_7 (by decide) ?_
    have e := Option.some.inj hf
    obtain ⟨e0, e1⟩ := Prod.mk.inj e
    exact mk_iret C hr hlk e0 (by rw [← e1]) dX9_all_9
set_option maxHeartbeats 40000000 in
set_option maxRecDepth 100000 in
theorem c_X_lastOf (l : Launch) (D : va_G) (cI cJ : ClassId) (X Y : Nat → Nat) (aX : Nat → Nat) (uX : Nat → Nat → Int32) (uL : Nat → Nat → Int64) (r : Int32) (hf : f_X_lastOf uX = some r) : mk_Met l yX9_lastOf cX9_lastOf 3 (some .int) ({ frames := 1, cells := 0, slots := 0, locals := 23 }) D [(cI, .int), (cJ, .long)] X Y [.ref (aX 0)] (wModel aX cI cJ uX uL) (wModel aX cI cJ uX uL) (some (.int r)) 0 0 := by
  refine mk_start (own := RX9) (by decide) rfl (Nat.le_of_ble_eq_true rfl) ?_
  intro sz p e s m args below meth c A C hr hlk hnm
  replace C : mk_Cx p s m args c cX9_lastOf 3 RX9 D [(cI, .int), (cJ, .long)] X Y A := C
  have wL4 : ∀ (n : Nat) (v1 : Int32) (v2 : Int32), f_X_lastOf_4 uX n v1 v2 = some r → mk_Go p l e (headSpec (mk_ws yX9_lastOf cX9_lastOf 3 (some .int)) ({ frames := 1, cells := 0, slots := 0, locals := 23 })).room s m args below meth c D A 3 0 0 (MQ below (mk_Q (some (.int r)) D (wModel aX cI cJ uX uL) A) args s 0 0 A) 4 (wModel aX cI cJ uX uL) [(0, .ref (aX 0)), (1, .int v1), (2, .int v2)] [] := by
    intro  n
    induction n with
    | zero => intro v1 v2 hf; exact nomatch (show (none : Option (Int32)) = some _ from hf)
    | succ n ih =>
      intro v1 v2 hf
      rw [f_X_lastOf_4] at hf
      refine mk_iload_n C 2 dX9_lastOf_4 rfl ?_
      refine mk_aload_n C 0 dX9_lastOf_5 rfl ?_
      refine mk_get C mk_inX9 0 rfl rfl 0 (by decide) mw_902 (v := .ref (aX 1)) rfl dX9_lastOf_6 ?_
      refine mk_iconst C (v := 4) dX9_lastOf_9 (by decide) ?_
      refine mk_iald C 1 0 (f := (uX 0)) rfl rfl (mk_vi (by decide)) (j := 4) (by decide) dX9_lastOf_10 ?_
      refine mk_icmp_ge C 31 dX9_lastOf_11 (by decide) (fun c1 => ?_) (fun c1 => ?_)
      · replace hf := (if_pos c1).symm.trans hf
        refine mk_aload_n C 0 dX9_lastOf_31 rfl ?_
        refine mk_get C mk_inX9 0 rfl rfl 40 (by decide) mw_942 (v := .int (uX 40 0)) rfl dX9_lastOf_32 ?_
        refine mk_aload_n C 0 dX9_lastOf_35 rfl ?_
        refine mk_get C mk_inX9 0 rfl rfl 0 (by decide) mw_902 (v := .ref (aX 1)) rfl dX9_lastOf_36 ?_
        refine mk_iconst C (v := 4) dX9_lastOf_39 (by decide) ?_
        refine mk_iald C 1 0 (f := (uX 0)) rfl rfl (mk_vi (by decide)) (j := 4) (by decide) dX9_lastOf_40 ?_
        refine mk_icmp_ne C 48 dX9_lastOf_41 (by decide) (fun c2 => ?_) (fun c2 => ?_)
        · replace hf := (if_neg c2).symm.trans hf
          refine mk_iconst C (v := (-1)) dX9_lastOf_48 (by decide) ?_
          have e0 := Option.some.inj hf
          exact mk_iret C hr hlk e0 rfl dX9_lastOf_49
        · replace hf := (if_pos c2).symm.trans hf
          refine mk_iload_n C 1 dX9_lastOf_44 rfl ?_
          refine mk_goto C 49 dX9_lastOf_45 (by decide) ?_
          have e0 := Option.some.inj hf
          exact mk_iret C hr hlk e0 rfl dX9_lastOf_49
      · replace hf := (if_neg c1).symm.trans hf
        refine mk_iload_n C 1 dX9_lastOf_14 rfl ?_
        refine mk_aload_n C 0 dX9_lastOf_15 rfl ?_
        refine mk_get C mk_inX9 0 rfl rfl 29 (by decide) mw_931 (v := .ref (aX 30)) rfl dX9_lastOf_16 ?_
        refine mk_iload_n C 2 dX9_lastOf_19 rfl ?_
        obtain ⟨g3, hf⟩ := gI_some hf
        refine mk_iald C 10 0 (f := (uX 29)) rfl rfl g3 (j := (v2 : Int32).toNatClampNeg) rfl dX9_lastOf_20 ?_
        refine mk_mmax C mw_1192 mw_590 mw_17 mw_591 ⟨Nat.le_of_ble_eq_true rfl, Nat.le_of_ble_eq_true rfl⟩ ⟨Nat.zero_le _, Nat.zero_le _⟩ dX9_lastOf_21 ?_
        refine mk_istore_n C (lv' := [(1, .int (if v1 < ((uX 29) (v2 : Int32).toNatClampNeg) then ((uX 29) (v2 : Int32).toNatClampNeg) else v1)), (0, .ref (aX 0)), (2, .int v2)]) dX9_lastOf_24 (by decide) rfl ?_
        refine mk_iinc C (v := (v2 + 1)) (lv' := [(2, .int (v2 + 1)), (1, .int (if v1 < ((uX 29) (v2 : Int32).toNatClampNeg) then ((uX 29) (v2 : Int32).toNatClampNeg) else v1)), (0, .ref (aX 0))]) 2 dX9_lastOf_25 rfl rfl (by decide) rfl ?_
        refine mk_goto C 4 dX9_lastOf_28 (by decide) ?_
        exact mk_lvsub [2, 1, 0] rfl (ih _ _ hf)
  show mk_Go p l e (headSpec (mk_ws yX9_lastOf cX9_lastOf 3 (some .int)) ({ frames := 1, cells := 0, slots := 0, locals := 23 })).room s m args below meth c D A 3 0 0 (MQ below (mk_Q (some (.int r)) D (wModel aX cI cJ uX uL) A) args s 0 0 A) 0 (wModel aX cI cJ uX uL) [(0, .ref (aX 0))] []
  unfold f_X_lastOf at hf
  refine mk_iconst C (v := (-1)) dX9_lastOf_0 (by decide) ?_
  refine mk_istore_n C (lv' := [(1, .int (-1)), (0, .ref (aX 0))]) dX9_lastOf_1 (by decide) rfl ?_
  refine mk_iconst C (v := 0) dX9_lastOf_2 (by decide) ?_
  refine mk_istore_n C (lv' := [(2, .int 0), (1, .int (-1)), (0, .ref (aX 0))]) dX9_lastOf_3 (by decide) rfl ?_
  exact mk_lvsub [2, 1, 0] rfl (wL4 600 _ _ hf)
set_option maxHeartbeats 40000000 in
set_option maxRecDepth 100000 in
theorem c_X_done (l : Launch) (D : va_G) (cI cJ : ClassId) (X Y : Nat → Nat) (aX : Nat → Nat) (uX : Nat → Nat → Int32) (uL : Nat → Nat → Int64) (r : Int32) (wX : Nat → Nat → Int32) (hf : f_X_done uX = some (r, wX)) : mk_Met l yX9_done cX9_done 1 (some .int) ({ frames := 6, cells := 0, slots := 0, locals := 141 }) D [(cI, .int), (cJ, .long)] X Y [.ref (aX 0)] (wModel aX cI cJ uX uL) (wModel aX cI cJ wX uL) (some (.int r)) 0 0 := by
  refine mk_start (own := RX9) (by decide) rfl (Nat.le_of_ble_eq_true rfl) ?_
  intro sz p e s m args below meth c A C hr hlk hnm
  replace C : mk_Cx p s m args c cX9_done 1 RX9 D [(cI, .int), (cJ, .long)] X Y A := C
  show mk_Go p l e (headSpec (mk_ws yX9_done cX9_done 1 (some .int)) ({ frames := 6, cells := 0, slots := 0, locals := 141 })).room s m args below meth c D A 1 0 0 (MQ below (mk_Q (some (.int r)) D (wModel aX cI cJ wX uL) A) args s 0 0 A) 0 (wModel aX cI cJ uX uL) [(0, .ref (aX 0))] []
  unfold f_X_done at hf
  refine mk_aload_n C 0 dX9_done_0 rfl ?_
  obtain ⟨r1, h2, hf⟩ := b1_some hf
  refine mk_callVi C (c_X_is l D cI cJ X Y aX uX uL r1 h2) mw_1153 mw_1155 mw_s14 mw_10 mw_1156 mkn_X9_is rfl ⟨Nat.le_of_ble_eq_true rfl, Nat.le_of_ble_eq_true rfl⟩ 0 rfl rfl rfl (mk_Fr.all _ _) (Nat.le_of_ble_eq_true rfl) dX9_done_1 rfl ?_
  refine mk_if_ne C 10 dX9_done_4 (by decide) (fun c3 => ?_) (fun c3 => ?_)
  · replace hf := (if_neg c3).symm.trans hf
    refine mk_aload_n C 0 dX9_done_10 rfl ?_
    obtain ⟨uX_4, h5, hf⟩ := b1_some hf
    refine mk_callVv C (c_X_runs l D cI cJ X Y aX uX uL uX_4 h5) mw_1158 mw_1160 mw_s15 mw_10 mw_1161 mkn_X9_runs rfl ⟨Nat.le_of_ble_eq_true rfl, Nat.le_of_ble_eq_true rfl⟩ 0 rfl rfl rfl (mk_Fr.all _ _) (Nat.le_of_ble_eq_true rfl) dX9_done_11 rfl ?_
    refine mk_aload_n C 0 dX9_done_14 rfl ?_
    obtain ⟨r6, h7, hf⟩ := b1_some hf
    refine mk_callVi C (c_X_lastOf l D cI cJ X Y aX uX_4 uL r6 h7) mw_1244 mw_1246 mw_s27 mw_10 mw_1247 mkn_X9_lastOf rfl ⟨Nat.le_of_ble_eq_true rfl, Nat.le_of_ble_eq_true rfl⟩ 0 rfl rfl rfl (mk_Fr.all _ _) (Nat.le_of_ble_eq_true rfl) dX9_done_15 rfl ?_
    have e := Option.some.inj hf
    obtain ⟨e0, e1⟩ := Prod.mk.inj e
    exact mk_iret C hr hlk e0 (by rw [← e1]) dX9_done_18
  · replace hf := (if_pos c3).symm.trans hf
    refine mk_bipush C (v := (-2)) dX9_done_7 (by decide) ?_
    have e := Option.some.inj hf
    obtain ⟨e0, e1⟩ := Prod.mk.inj e
    exact mk_iret C hr hlk e0 (by rw [← e1]) dX9_done_9
set_option maxHeartbeats 40000000 in
set_option maxRecDepth 100000 in
theorem c_X_heard (l : Launch) (D : va_G) (cI cJ : ClassId) (X Y : Nat → Nat) (aX : Nat → Nat) (uX : Nat → Nat → Int32) (uL : Nat → Nat → Int64) (p1 : Int32) (r : Int32) (wX : Nat → Nat → Int32) (hf : f_X_heard uX p1 = some (r, wX)) : mk_Met l yX9_heard cX9_heard 4 (some .int) ({ frames := 6, cells := 0, slots := 0, locals := 141 }) D [(cI, .int), (cJ, .long)] X Y [.ref (aX 0), .int p1] (wModel aX cI cJ uX uL) (wModel aX cI cJ wX uL) (some (.int r)) 0 0 := by
  refine mk_start (own := RX9) (by decide) rfl (Nat.le_of_ble_eq_true rfl) ?_
  intro sz p e s m args below meth c A C hr hlk hnm
  replace C : mk_Cx p s m args c cX9_heard 4 RX9 D [(cI, .int), (cJ, .long)] X Y A := C
  have wL30 : ∀ (n : Nat) (v2 : Int32) (v3 : Int32) (uX : Nat → Nat → Int32), f_X_heard_30 p1 n v2 v3 uX = some (r, wX) → mk_Go p l e (headSpec (mk_ws yX9_heard cX9_heard 4 (some .int)) ({ frames := 6, cells := 0, slots := 0, locals := 141 })).room s m args below meth c D A 4 0 0 (MQ below (mk_Q (some (.int r)) D (wModel aX cI cJ wX uL) A) args s 0 0 A) 30 (wModel aX cI cJ uX uL) [(0, .ref (aX 0)), (1, .int p1), (2, .int v2), (3, .int v3)] [] := by
    intro  n
    induction n with
    | zero => intro v2 v3 uX hf; exact nomatch (show (none : Option (Int32 × (Nat → Nat → Int32))) = some _ from hf)
    | succ n ih =>
      intro v2 v3 uX hf
      rw [f_X_heard_30] at hf
      refine mk_iload_n C 3 dX9_heard_30 rfl ?_
      refine mk_aload_n C 0 dX9_heard_31 rfl ?_
      refine mk_get C mk_inX9 0 rfl rfl 0 (by decide) mw_902 (v := .ref (aX 1)) rfl dX9_heard_32 ?_
      refine mk_iconst C (v := 1) dX9_heard_35 (by decide) ?_
      refine mk_iald C 1 0 (f := (uX 0)) rfl rfl (mk_vi (by decide)) (j := 1) (by decide) dX9_heard_36 ?_
      refine mk_icmp_ge C 64 dX9_heard_37 (by decide) (fun c1 => ?_) (fun c1 => ?_)
      · replace hf := (if_pos c1).symm.trans hf
        refine mk_iload_n C 2 dX9_heard_64 rfl ?_
        have e := Option.some.inj hf
        obtain ⟨e0, e1⟩ := Prod.mk.inj e
        exact mk_iret C hr hlk e0 (by rw [← e1]) dX9_heard_65
      · replace hf := (if_neg c1).symm.trans hf
        refine mk_iload_n C 2 dX9_heard_40 rfl ?_
        refine mk_aload_n C 0 dX9_heard_41 rfl ?_
        refine mk_get C mk_inX9 0 rfl rfl 31 (by decide) mw_933 (v := .ref (aX 32)) rfl dX9_heard_42 ?_
        refine mk_iload_n C 3 dX9_heard_45 rfl ?_
        obtain ⟨g2, hf⟩ := gI_some hf
        refine mk_iald C 12 0 (f := (uX 31)) rfl rfl g2 (j := (v3 : Int32).toNatClampNeg) rfl dX9_heard_46 ?_
        refine mk_iload_n C 1 dX9_heard_47 rfl ?_
        refine mk_icmp_ne C 55 dX9_heard_48 (by decide) (fun c3 => ?_) (fun c3 => ?_)
        · replace hf := (if_neg c3).symm.trans hf
          refine mk_iconst C (v := 0) dX9_heard_55 (by decide) ?_
          refine mk_iadd C dX9_heard_56 ?_
          refine mk_istore_n C (lv' := [(2, .int (v2 + 0)), (0, .ref (aX 0)), (1, .int p1), (3, .int v3)]) dX9_heard_57 (by decide) rfl ?_
          refine mk_iinc C (v := (v3 + 1)) (lv' := [(3, .int (v3 + 1)), (2, .int (v2 + 0)), (0, .ref (aX 0)), (1, .int p1)]) 3 dX9_heard_58 rfl rfl (by decide) rfl ?_
          refine mk_goto C 30 dX9_heard_61 (by decide) ?_
          exact mk_lvsub [2, 3, 1, 0] rfl (ih _ _ _ hf)
        · replace hf := (if_pos c3).symm.trans hf
          refine mk_iconst C (v := 1) dX9_heard_51 (by decide) ?_
          refine mk_goto C 56 dX9_heard_52 (by decide) ?_
          refine mk_iadd C dX9_heard_56 ?_
          refine mk_istore_n C (lv' := [(2, .int (v2 + 1)), (0, .ref (aX 0)), (1, .int p1), (3, .int v3)]) dX9_heard_57 (by decide) rfl ?_
          refine mk_iinc C (v := (v3 + 1)) (lv' := [(3, .int (v3 + 1)), (2, .int (v2 + 1)), (0, .ref (aX 0)), (1, .int p1)]) 3 dX9_heard_58 rfl rfl (by decide) rfl ?_
          refine mk_goto C 30 dX9_heard_61 (by decide) ?_
          exact mk_lvsub [2, 3, 1, 0] rfl (ih _ _ _ hf)
  show mk_Go p l e (headSpec (mk_ws yX9_heard cX9_heard 4 (some .int)) ({ frames := 6, cells := 0, slots := 0, locals := 141 })).room s m args below meth c D A 4 0 0 (MQ below (mk_Q (some (.int r)) D (wModel aX cI cJ wX uL) A) args s 0 0 A) 0 (wModel aX cI cJ uX uL) [(0, .ref (aX 0)), (1, .int p1)] []
  unfold f_X_heard at hf
  refine mk_aload_n C 0 dX9_heard_0 rfl ?_
  obtain ⟨r4, h5, hf⟩ := b1_some hf
  refine mk_callVi C (c_X_is l D cI cJ X Y aX uX uL r4 h5) mw_1153 mw_1155 mw_s14 mw_10 mw_1156 mkn_X9_is rfl ⟨Nat.le_of_ble_eq_true rfl, Nat.le_of_ble_eq_true rfl⟩ 0 rfl rfl rfl (mk_Fr.all _ _) (Nat.le_of_ble_eq_true rfl) dX9_heard_1 rfl ?_
  refine mk_if_eq C 19 dX9_heard_4 (by decide) (fun c6 => ?_) (fun c6 => ?_)
  · replace hf := (if_pos c6).symm.trans hf
    refine mk_bipush C (v := (-2)) dX9_heard_19 (by decide) ?_
    have e := Option.some.inj hf
    obtain ⟨e0, e1⟩ := Prod.mk.inj e
    exact mk_iret C hr hlk e0 (by rw [← e1]) dX9_heard_21
  · replace hf := (if_neg c6).symm.trans hf
    refine mk_iload_n C 1 dX9_heard_7 rfl ?_
    refine mk_i2l C dX9_heard_8 ?_
    refine mk_lconst C (v := 0) dX9_heard_9 (by decide) ?_
    refine mk_ldc2 C (v := 2) mw_1252 dX9_heard_10 ?_
    obtain ⟨r7, h8, hf⟩ := b1_some hf
    refine mk_callSi C (c_X_in l D cI cJ X Y ((p1 : Int32).toInt64) 0 2 r7 h8) mw_1052 mw_1053 mw_10 mw_1054 mkn_X9_in rfl ⟨Nat.le_of_ble_eq_true rfl, Nat.le_of_ble_eq_true rfl⟩ (mk_Fr.nil _) (Nat.le_of_ble_eq_true rfl) dX9_heard_13 rfl ?_
    refine mk_if_ne C 22 dX9_heard_16 (by decide) (fun c9 => ?_) (fun c9 => ?_)
    · replace hf := (if_neg c9).symm.trans hf
      refine mk_aload_n C 0 dX9_heard_22 rfl ?_
      obtain ⟨uX_10, h11, hf⟩ := b1_some hf
      refine mk_callVv C (c_X_runs l D cI cJ X Y aX uX uL uX_10 h11) mw_1158 mw_1160 mw_s15 mw_10 mw_1161 mkn_X9_runs rfl ⟨Nat.le_of_ble_eq_true rfl, Nat.le_of_ble_eq_true rfl⟩ 0 rfl rfl rfl (mk_Fr.all _ _) (Nat.le_of_ble_eq_true rfl) dX9_heard_23 rfl ?_
      refine mk_iconst C (v := 0) dX9_heard_26 (by decide) ?_
      refine mk_istore_n C (lv' := [(2, .int 0), (0, .ref (aX 0)), (1, .int p1)]) dX9_heard_27 (by decide) rfl ?_
      refine mk_iconst C (v := 0) dX9_heard_28 (by decide) ?_
      refine mk_istore_n C (lv' := [(3, .int 0), (2, .int 0), (0, .ref (aX 0)), (1, .int p1)]) dX9_heard_29 (by decide) rfl ?_
      exact mk_lvsub [2, 3, 1, 0] rfl (wL30 600 _ _ _ hf)
    · replace hf := (if_pos c9).symm.trans hf
      refine mk_bipush C (v := (-2)) dX9_heard_19 (by decide) ?_
      have e := Option.some.inj hf
      obtain ⟨e0, e1⟩ := Prod.mk.inj e
      exact mk_iret C hr hlk e0 (by rw [← e1]) dX9_heard_21
set_option maxHeartbeats 40000000 in
set_option maxRecDepth 100000 in
theorem c_X_collisions (l : Launch) (D : va_G) (cI cJ : ClassId) (X Y : Nat → Nat) (aX : Nat → Nat) (uX : Nat → Nat → Int32) (uL : Nat → Nat → Int64) (r : Int32) (hf : f_X_collisions uX = some r) : mk_Met l yX9_collisions cX9_collisions 3 (some .int) ({ frames := 1, cells := 0, slots := 0, locals := 22 }) D [(cI, .int), (cJ, .long)] X Y [.ref (aX 0)] (wModel aX cI cJ uX uL) (wModel aX cI cJ uX uL) (some (.int r)) 0 0 := by
  refine mk_start (own := RX9) (by decide) rfl (Nat.le_of_ble_eq_true rfl) ?_
  intro sz p e s m args below meth c A C hr hlk hnm
  replace C : mk_Cx p s m args c cX9_collisions 3 RX9 D [(cI, .int), (cJ, .long)] X Y A := C
  have wL4 : ∀ (n : Nat) (v1 : Int32) (v2 : Int32), f_X_collisions_4 uX n v1 v2 = some r → mk_Go p l e (headSpec (mk_ws yX9_collisions cX9_collisions 3 (some .int)) ({ frames := 1, cells := 0, slots := 0, locals := 22 })).room s m args below meth c D A 3 0 0 (MQ below (mk_Q (some (.int r)) D (wModel aX cI cJ uX uL) A) args s 0 0 A) 4 (wModel aX cI cJ uX uL) [(0, .ref (aX 0)), (1, .int v1), (2, .int v2)] [] := by
    intro  n
    induction n with
    | zero => intro v1 v2 hf; exact nomatch (show (none : Option (Int32)) = some _ from hf)
    | succ n ih =>
      intro v1 v2 hf
      rw [f_X_collisions_4] at hf
      refine mk_iload_n C 2 dX9_collisions_4 rfl ?_
      refine mk_aload_n C 0 dX9_collisions_5 rfl ?_
      refine mk_get C mk_inX9 0 rfl rfl 0 (by decide) mw_902 (v := .ref (aX 1)) rfl dX9_collisions_6 ?_
      refine mk_iconst C (v := 1) dX9_collisions_9 (by decide) ?_
      refine mk_iald C 1 0 (f := (uX 0)) rfl rfl (mk_vi (by decide)) (j := 1) (by decide) dX9_collisions_10 ?_
      refine mk_icmp_ge C 41 dX9_collisions_11 (by decide) (fun c1 => ?_) (fun c1 => ?_)
      · replace hf := (if_pos c1).symm.trans hf
        refine mk_iload_n C 1 dX9_collisions_41 rfl ?_
        have e0 := Option.some.inj hf
        exact mk_iret C hr hlk e0 rfl dX9_collisions_42
      · replace hf := (if_neg c1).symm.trans hf
        refine mk_iload_n C 1 dX9_collisions_14 rfl ?_
        refine mk_aload_n C 0 dX9_collisions_15 rfl ?_
        refine mk_get C mk_inX9 0 rfl rfl 30 (by decide) mw_932 (v := .ref (aX 31)) rfl dX9_collisions_16 ?_
        refine mk_iload_n C 2 dX9_collisions_19 rfl ?_
        obtain ⟨g2, hf⟩ := gI_some hf
        refine mk_iald C 11 0 (f := (uX 30)) rfl rfl g2 (j := (v2 : Int32).toNatClampNeg) rfl dX9_collisions_20 ?_
        obtain ⟨r3, h4, hf⟩ := b1_some hf
        refine mk_callSi C (c_X_bitsOf l D cI cJ X Y ((uX 30) (v2 : Int32).toNatClampNeg) r3 h4) mw_1181 mw_1182 mw_10 mw_1183 mkn_X9_bitsOf rfl ⟨Nat.le_of_ble_eq_true rfl, Nat.le_of_ble_eq_true rfl⟩ (mk_Fr.nil _) (Nat.le_of_ble_eq_true rfl) dX9_collisions_21 rfl ?_
        refine mk_iconst C (v := 1) dX9_collisions_24 (by decide) ?_
        refine mk_icmp_le C 32 dX9_collisions_25 (by decide) (fun c5 => ?_) (fun c5 => ?_)
        · replace hf := (if_pos c5).symm.trans hf
          refine mk_iconst C (v := 0) dX9_collisions_32 (by decide) ?_
          refine mk_iadd C dX9_collisions_33 ?_
          refine mk_istore_n C (lv' := [(1, .int (v1 + 0)), (0, .ref (aX 0)), (2, .int v2)]) dX9_collisions_34 (by decide) rfl ?_
          refine mk_iinc C (v := (v2 + 1)) (lv' := [(2, .int (v2 + 1)), (1, .int (v1 + 0)), (0, .ref (aX 0))]) 2 dX9_collisions_35 rfl rfl (by decide) rfl ?_
          refine mk_goto C 4 dX9_collisions_38 (by decide) ?_
          exact mk_lvsub [2, 1, 0] rfl (ih _ _ hf)
        · replace hf := (if_neg c5).symm.trans hf
          refine mk_iconst C (v := 1) dX9_collisions_28 (by decide) ?_
          refine mk_goto C 33 dX9_collisions_29 (by decide) ?_
          refine mk_iadd C dX9_collisions_33 ?_
          refine mk_istore_n C (lv' := [(1, .int (v1 + 1)), (0, .ref (aX 0)), (2, .int v2)]) dX9_collisions_34 (by decide) rfl ?_
          refine mk_iinc C (v := (v2 + 1)) (lv' := [(2, .int (v2 + 1)), (1, .int (v1 + 1)), (0, .ref (aX 0))]) 2 dX9_collisions_35 rfl rfl (by decide) rfl ?_
          refine mk_goto C 4 dX9_collisions_38 (by decide) ?_
          exact mk_lvsub [2, 1, 0] rfl (ih _ _ hf)
  show mk_Go p l e (headSpec (mk_ws yX9_collisions cX9_collisions 3 (some .int)) ({ frames := 1, cells := 0, slots := 0, locals := 22 })).room s m args below meth c D A 3 0 0 (MQ below (mk_Q (some (.int r)) D (wModel aX cI cJ uX uL) A) args s 0 0 A) 0 (wModel aX cI cJ uX uL) [(0, .ref (aX 0))] []
  unfold f_X_collisions at hf
  refine mk_iconst C (v := 0) dX9_collisions_0 (by decide) ?_
  refine mk_istore_n C (lv' := [(1, .int 0), (0, .ref (aX 0))]) dX9_collisions_1 (by decide) rfl ?_
  refine mk_iconst C (v := 0) dX9_collisions_2 (by decide) ?_
  refine mk_istore_n C (lv' := [(2, .int 0), (1, .int 0), (0, .ref (aX 0))]) dX9_collisions_3 (by decide) rfl ?_
  exact mk_lvsub [2, 1, 0] rfl (wL4 600 _ _ hf)
set_option maxHeartbeats 40000000 in
set_option maxRecDepth 100000 in
theorem c_X_skipsAll (l : Launch) (D : va_G) (cI cJ : ClassId) (X Y : Nat → Nat) (aX : Nat → Nat) (uX : Nat → Nat → Int32) (uL : Nat → Nat → Int64) (r : Int32) (hf : f_X_skipsAll uX = some r) : mk_Met l yX9_skipsAll cX9_skipsAll 3 (some .int) ({ frames := 0, cells := 0, slots := 0, locals := 0 }) D [(cI, .int), (cJ, .long)] X Y [.ref (aX 0)] (wModel aX cI cJ uX uL) (wModel aX cI cJ uX uL) (some (.int r)) 0 0 := by
  refine mk_start (own := RX9) (by decide) rfl (Nat.le_of_ble_eq_true rfl) ?_
  intro sz p e s m args below meth c A C hr hlk hnm
  replace C : mk_Cx p s m args c cX9_skipsAll 3 RX9 D [(cI, .int), (cJ, .long)] X Y A := C
  have wL4 : ∀ (n : Nat) (v1 : Int32) (v2 : Int32), f_X_skipsAll_4 uX n v1 v2 = some r → mk_Go p l e (headSpec (mk_ws yX9_skipsAll cX9_skipsAll 3 (some .int)) ({ frames := 0, cells := 0, slots := 0, locals := 0 })).room s m args below meth c D A 3 0 0 (MQ below (mk_Q (some (.int r)) D (wModel aX cI cJ uX uL) A) args s 0 0 A) 4 (wModel aX cI cJ uX uL) [(0, .ref (aX 0)), (1, .int v1), (2, .int v2)] [] := by
    intro  n
    induction n with
    | zero => intro v1 v2 hf; exact nomatch (show (none : Option (Int32)) = some _ from hf)
    | succ n ih =>
      intro v1 v2 hf
      rw [f_X_skipsAll_4] at hf
      refine mk_iload_n C 2 dX9_skipsAll_4 rfl ?_
      refine mk_aload_n C 0 dX9_skipsAll_5 rfl ?_
      refine mk_get C mk_inX9 0 rfl rfl 0 (by decide) mw_902 (v := .ref (aX 1)) rfl dX9_skipsAll_6 ?_
      refine mk_iconst C (v := 1) dX9_skipsAll_9 (by decide) ?_
      refine mk_iald C 1 0 (f := (uX 0)) rfl rfl (mk_vi (by decide)) (j := 1) (by decide) dX9_skipsAll_10 ?_
      refine mk_icmp_ge C 29 dX9_skipsAll_11 (by decide) (fun c1 => ?_) (fun c1 => ?_)
      · replace hf := (if_pos c1).symm.trans hf
        refine mk_iload_n C 1 dX9_skipsAll_29 rfl ?_
        have e0 := Option.some.inj hf
        exact mk_iret C hr hlk e0 rfl dX9_skipsAll_30
      · replace hf := (if_neg c1).symm.trans hf
        refine mk_iload_n C 1 dX9_skipsAll_14 rfl ?_
        refine mk_aload_n C 0 dX9_skipsAll_15 rfl ?_
        refine mk_get C mk_inX9 0 rfl rfl 34 (by decide) mw_936 (v := .ref (aX 35)) rfl dX9_skipsAll_16 ?_
        refine mk_iload_n C 2 dX9_skipsAll_19 rfl ?_
        obtain ⟨g2, hf⟩ := gI_some hf
        refine mk_iald C 15 0 (f := (uX 34)) rfl rfl g2 (j := (v2 : Int32).toNatClampNeg) rfl dX9_skipsAll_20 ?_
        refine mk_iadd C dX9_skipsAll_21 ?_
        refine mk_istore_n C (lv' := [(1, .int (v1 + ((uX 34) (v2 : Int32).toNatClampNeg))), (0, .ref (aX 0)), (2, .int v2)]) dX9_skipsAll_22 (by decide) rfl ?_
        refine mk_iinc C (v := (v2 + 1)) (lv' := [(2, .int (v2 + 1)), (1, .int (v1 + ((uX 34) (v2 : Int32).toNatClampNeg))), (0, .ref (aX 0))]) 2 dX9_skipsAll_23 rfl rfl (by decide) rfl ?_
        refine mk_goto C 4 dX9_skipsAll_26 (by decide) ?_
        exact mk_lvsub [2, 1, 0] rfl (ih _ _ hf)
  show mk_Go p l e (headSpec (mk_ws yX9_skipsAll cX9_skipsAll 3 (some .int)) ({ frames := 0, cells := 0, slots := 0, locals := 0 })).room s m args below meth c D A 3 0 0 (MQ below (mk_Q (some (.int r)) D (wModel aX cI cJ uX uL) A) args s 0 0 A) 0 (wModel aX cI cJ uX uL) [(0, .ref (aX 0))] []
  unfold f_X_skipsAll at hf
  refine mk_iconst C (v := 0) dX9_skipsAll_0 (by decide) ?_
  refine mk_istore_n C (lv' := [(1, .int 0), (0, .ref (aX 0))]) dX9_skipsAll_1 (by decide) rfl ?_
  refine mk_iconst C (v := 0) dX9_skipsAll_2 (by decide) ?_
  refine mk_istore_n C (lv' := [(2, .int 0), (1, .int 0), (0, .ref (aX 0))]) dX9_skipsAll_3 (by decide) rfl ?_
  exact mk_lvsub [2, 1, 0] rfl (wL4 600 _ _ hf)
set_option maxHeartbeats 40000000 in
set_option maxRecDepth 100000 in
theorem c_X_collided (l : Launch) (D : va_G) (cI cJ : ClassId) (X Y : Nat → Nat) (aX : Nat → Nat) (uX : Nat → Nat → Int32) (uL : Nat → Nat → Int64) (r : Int32) (wX : Nat → Nat → Int32) (hf : f_X_collided uX = some (r, wX)) : mk_Met l yX9_collided cX9_collided 1 (some .int) ({ frames := 6, cells := 0, slots := 0, locals := 141 }) D [(cI, .int), (cJ, .long)] X Y [.ref (aX 0)] (wModel aX cI cJ uX uL) (wModel aX cI cJ wX uL) (some (.int r)) 0 0 := by
  refine mk_start (own := RX9) (by decide) rfl (Nat.le_of_ble_eq_true rfl) ?_
  intro sz p e s m args below meth c A C hr hlk hnm
  replace C : mk_Cx p s m args c cX9_collided 1 RX9 D [(cI, .int), (cJ, .long)] X Y A := C
  show mk_Go p l e (headSpec (mk_ws yX9_collided cX9_collided 1 (some .int)) ({ frames := 6, cells := 0, slots := 0, locals := 141 })).room s m args below meth c D A 1 0 0 (MQ below (mk_Q (some (.int r)) D (wModel aX cI cJ wX uL) A) args s 0 0 A) 0 (wModel aX cI cJ uX uL) [(0, .ref (aX 0))] []
  unfold f_X_collided at hf
  refine mk_aload_n C 0 dX9_collided_0 rfl ?_
  obtain ⟨r1, h2, hf⟩ := b1_some hf
  refine mk_callVi C (c_X_is l D cI cJ X Y aX uX uL r1 h2) mw_1153 mw_1155 mw_s14 mw_10 mw_1156 mkn_X9_is rfl ⟨Nat.le_of_ble_eq_true rfl, Nat.le_of_ble_eq_true rfl⟩ 0 rfl rfl rfl (mk_Fr.all _ _) (Nat.le_of_ble_eq_true rfl) dX9_collided_1 rfl ?_
  refine mk_if_ne C 10 dX9_collided_4 (by decide) (fun c3 => ?_) (fun c3 => ?_)
  · replace hf := (if_neg c3).symm.trans hf
    refine mk_aload_n C 0 dX9_collided_10 rfl ?_
    obtain ⟨uX_4, h5, hf⟩ := b1_some hf
    refine mk_callVv C (c_X_runs l D cI cJ X Y aX uX uL uX_4 h5) mw_1158 mw_1160 mw_s15 mw_10 mw_1161 mkn_X9_runs rfl ⟨Nat.le_of_ble_eq_true rfl, Nat.le_of_ble_eq_true rfl⟩ 0 rfl rfl rfl (mk_Fr.all _ _) (Nat.le_of_ble_eq_true rfl) dX9_collided_11 rfl ?_
    refine mk_aload_n C 0 dX9_collided_14 rfl ?_
    obtain ⟨r6, h7, hf⟩ := b1_some hf
    refine mk_callVi C (c_X_collisions l D cI cJ X Y aX uX_4 uL r6 h7) mw_1257 mw_1259 mw_s28 mw_10 mw_1260 mkn_X9_collisions rfl ⟨Nat.le_of_ble_eq_true rfl, Nat.le_of_ble_eq_true rfl⟩ 0 rfl rfl rfl (mk_Fr.all _ _) (Nat.le_of_ble_eq_true rfl) dX9_collided_15 rfl ?_
    have e := Option.some.inj hf
    obtain ⟨e0, e1⟩ := Prod.mk.inj e
    exact mk_iret C hr hlk e0 (by rw [← e1]) dX9_collided_18
  · replace hf := (if_pos c3).symm.trans hf
    refine mk_bipush C (v := (-2)) dX9_collided_7 (by decide) ?_
    have e := Option.some.inj hf
    obtain ⟨e0, e1⟩ := Prod.mk.inj e
    exact mk_iret C hr hlk e0 (by rw [← e1]) dX9_collided_9
set_option maxHeartbeats 40000000 in
set_option maxRecDepth 100000 in
theorem c_X_skips (l : Launch) (D : va_G) (cI cJ : ClassId) (X Y : Nat → Nat) (aX : Nat → Nat) (uX : Nat → Nat → Int32) (uL : Nat → Nat → Int64) (r : Int32) (wX : Nat → Nat → Int32) (hf : f_X_skips uX = some (r, wX)) : mk_Met l yX9_skips cX9_skips 1 (some .int) ({ frames := 6, cells := 0, slots := 0, locals := 141 }) D [(cI, .int), (cJ, .long)] X Y [.ref (aX 0)] (wModel aX cI cJ uX uL) (wModel aX cI cJ wX uL) (some (.int r)) 0 0 := by
  refine mk_start (own := RX9) (by decide) rfl (Nat.le_of_ble_eq_true rfl) ?_
  intro sz p e s m args below meth c A C hr hlk hnm
  replace C : mk_Cx p s m args c cX9_skips 1 RX9 D [(cI, .int), (cJ, .long)] X Y A := C
  show mk_Go p l e (headSpec (mk_ws yX9_skips cX9_skips 1 (some .int)) ({ frames := 6, cells := 0, slots := 0, locals := 141 })).room s m args below meth c D A 1 0 0 (MQ below (mk_Q (some (.int r)) D (wModel aX cI cJ wX uL) A) args s 0 0 A) 0 (wModel aX cI cJ uX uL) [(0, .ref (aX 0))] []
  unfold f_X_skips at hf
  refine mk_aload_n C 0 dX9_skips_0 rfl ?_
  obtain ⟨r1, h2, hf⟩ := b1_some hf
  refine mk_callVi C (c_X_is l D cI cJ X Y aX uX uL r1 h2) mw_1153 mw_1155 mw_s14 mw_10 mw_1156 mkn_X9_is rfl ⟨Nat.le_of_ble_eq_true rfl, Nat.le_of_ble_eq_true rfl⟩ 0 rfl rfl rfl (mk_Fr.all _ _) (Nat.le_of_ble_eq_true rfl) dX9_skips_1 rfl ?_
  refine mk_if_ne C 10 dX9_skips_4 (by decide) (fun c3 => ?_) (fun c3 => ?_)
  · replace hf := (if_neg c3).symm.trans hf
    refine mk_aload_n C 0 dX9_skips_10 rfl ?_
    obtain ⟨uX_4, h5, hf⟩ := b1_some hf
    refine mk_callVv C (c_X_runs l D cI cJ X Y aX uX uL uX_4 h5) mw_1158 mw_1160 mw_s15 mw_10 mw_1161 mkn_X9_runs rfl ⟨Nat.le_of_ble_eq_true rfl, Nat.le_of_ble_eq_true rfl⟩ 0 rfl rfl rfl (mk_Fr.all _ _) (Nat.le_of_ble_eq_true rfl) dX9_skips_11 rfl ?_
    refine mk_aload_n C 0 dX9_skips_14 rfl ?_
    obtain ⟨r6, h7, hf⟩ := b1_some hf
    refine mk_callVi C (c_X_skipsAll l D cI cJ X Y aX uX_4 uL r6 h7) mw_1265 mw_1267 mw_s29 mw_10 mw_1268 mkn_X9_skipsAll rfl ⟨Nat.le_of_ble_eq_true rfl, Nat.le_of_ble_eq_true rfl⟩ 0 rfl rfl rfl (mk_Fr.all _ _) (Nat.le_of_ble_eq_true rfl) dX9_skips_15 rfl ?_
    have e := Option.some.inj hf
    obtain ⟨e0, e1⟩ := Prod.mk.inj e
    exact mk_iret C hr hlk e0 (by rw [← e1]) dX9_skips_18
  · replace hf := (if_pos c3).symm.trans hf
    refine mk_bipush C (v := (-2)) dX9_skips_7 (by decide) ?_
    have e := Option.some.inj hf
    obtain ⟨e0, e1⟩ := Prod.mk.inj e
    exact mk_iret C hr hlk e0 (by rw [← e1]) dX9_skips_9
set_option maxHeartbeats 40000000 in
set_option maxRecDepth 100000 in
theorem c_X_deepest (l : Launch) (D : va_G) (cI cJ : ClassId) (X Y : Nat → Nat) (aX : Nat → Nat) (uX : Nat → Nat → Int32) (uL : Nat → Nat → Int64) (r : Int32) (wX : Nat → Nat → Int32) (hf : f_X_deepest uX = some (r, wX)) : mk_Met l yX9_deepest cX9_deepest 3 (some .int) ({ frames := 6, cells := 0, slots := 0, locals := 141 }) D [(cI, .int), (cJ, .long)] X Y [.ref (aX 0)] (wModel aX cI cJ uX uL) (wModel aX cI cJ wX uL) (some (.int r)) 0 0 := by
  refine mk_start (own := RX9) (by decide) rfl (Nat.le_of_ble_eq_true rfl) ?_
  intro sz p e s m args below meth c A C hr hlk hnm
  replace C : mk_Cx p s m args c cX9_deepest 3 RX9 D [(cI, .int), (cJ, .long)] X Y A := C
  have wL18 : ∀ (n : Nat) (v1 : Int32) (v2 : Int32) (uX : Nat → Nat → Int32), f_X_deepest_18 n v1 v2 uX = some (r, wX) → mk_Go p l e (headSpec (mk_ws yX9_deepest cX9_deepest 3 (some .int)) ({ frames := 6, cells := 0, slots := 0, locals := 141 })).room s m args below meth c D A 3 0 0 (MQ below (mk_Q (some (.int r)) D (wModel aX cI cJ wX uL) A) args s 0 0 A) 18 (wModel aX cI cJ uX uL) [(0, .ref (aX 0)), (1, .int v1), (2, .int v2)] [] := by
    intro  n
    induction n with
    | zero => intro v1 v2 uX hf; exact nomatch (show (none : Option (Int32 × (Nat → Nat → Int32))) = some _ from hf)
    | succ n ih =>
      intro v1 v2 uX hf
      rw [f_X_deepest_18] at hf
      refine mk_iload_n C 2 dX9_deepest_18 rfl ?_
      refine mk_aload_n C 0 dX9_deepest_19 rfl ?_
      refine mk_get C mk_inX9 0 rfl rfl 0 (by decide) mw_902 (v := .ref (aX 1)) rfl dX9_deepest_20 ?_
      refine mk_iconst C (v := 1) dX9_deepest_23 (by decide) ?_
      refine mk_iald C 1 0 (f := (uX 0)) rfl rfl (mk_vi (by decide)) (j := 1) (by decide) dX9_deepest_24 ?_
      refine mk_icmp_ge C 45 dX9_deepest_25 (by decide) (fun c1 => ?_) (fun c1 => ?_)
      · replace hf := (if_pos c1).symm.trans hf
        refine mk_iload_n C 1 dX9_deepest_45 rfl ?_
        have e := Option.some.inj hf
        obtain ⟨e0, e1⟩ := Prod.mk.inj e
        exact mk_iret C hr hlk e0 (by rw [← e1]) dX9_deepest_46
      · replace hf := (if_neg c1).symm.trans hf
        refine mk_iload_n C 1 dX9_deepest_28 rfl ?_
        refine mk_aload_n C 0 dX9_deepest_29 rfl ?_
        refine mk_get C mk_inX9 0 rfl rfl 33 (by decide) mw_935 (v := .ref (aX 34)) rfl dX9_deepest_30 ?_
        refine mk_iload_n C 2 dX9_deepest_33 rfl ?_
        obtain ⟨g2, hf⟩ := gI_some hf
        refine mk_iald C 14 0 (f := (uX 33)) rfl rfl g2 (j := (v2 : Int32).toNatClampNeg) rfl dX9_deepest_34 ?_
        refine mk_mmax C mw_1192 mw_590 mw_17 mw_591 ⟨Nat.le_of_ble_eq_true rfl, Nat.le_of_ble_eq_true rfl⟩ ⟨Nat.zero_le _, Nat.zero_le _⟩ dX9_deepest_35 ?_
        refine mk_istore_n C (lv' := [(1, .int (if v1 < ((uX 33) (v2 : Int32).toNatClampNeg) then ((uX 33) (v2 : Int32).toNatClampNeg) else v1)), (0, .ref (aX 0)), (2, .int v2)]) dX9_deepest_38 (by decide) rfl ?_
        refine mk_iinc C (v := (v2 + 1)) (lv' := [(2, .int (v2 + 1)), (1, .int (if v1 < ((uX 33) (v2 : Int32).toNatClampNeg) then ((uX 33) (v2 : Int32).toNatClampNeg) else v1)), (0, .ref (aX 0))]) 2 dX9_deepest_39 rfl rfl (by decide) rfl ?_
        refine mk_goto C 18 dX9_deepest_42 (by decide) ?_
        exact mk_lvsub [2, 1, 0] rfl (ih _ _ _ hf)
  show mk_Go p l e (headSpec (mk_ws yX9_deepest cX9_deepest 3 (some .int)) ({ frames := 6, cells := 0, slots := 0, locals := 141 })).room s m args below meth c D A 3 0 0 (MQ below (mk_Q (some (.int r)) D (wModel aX cI cJ wX uL) A) args s 0 0 A) 0 (wModel aX cI cJ uX uL) [(0, .ref (aX 0))] []
  unfold f_X_deepest at hf
  refine mk_aload_n C 0 dX9_deepest_0 rfl ?_
  obtain ⟨r3, h4, hf⟩ := b1_some hf
  refine mk_callVi C (c_X_is l D cI cJ X Y aX uX uL r3 h4) mw_1153 mw_1155 mw_s14 mw_10 mw_1156 mkn_X9_is rfl ⟨Nat.le_of_ble_eq_true rfl, Nat.le_of_ble_eq_true rfl⟩ 0 rfl rfl rfl (mk_Fr.all _ _) (Nat.le_of_ble_eq_true rfl) dX9_deepest_1 rfl ?_
  refine mk_if_ne C 10 dX9_deepest_4 (by decide) (fun c5 => ?_) (fun c5 => ?_)
  · replace hf := (if_neg c5).symm.trans hf
    refine mk_aload_n C 0 dX9_deepest_10 rfl ?_
    obtain ⟨uX_6, h7, hf⟩ := b1_some hf
    refine mk_callVv C (c_X_runs l D cI cJ X Y aX uX uL uX_6 h7) mw_1158 mw_1160 mw_s15 mw_10 mw_1161 mkn_X9_runs rfl ⟨Nat.le_of_ble_eq_true rfl, Nat.le_of_ble_eq_true rfl⟩ 0 rfl rfl rfl (mk_Fr.all _ _) (Nat.le_of_ble_eq_true rfl) dX9_deepest_11 rfl ?_
    refine mk_iconst C (v := 0) dX9_deepest_14 (by decide) ?_
    refine mk_istore_n C (lv' := [(1, .int 0), (0, .ref (aX 0))]) dX9_deepest_15 (by decide) rfl ?_
    refine mk_iconst C (v := 0) dX9_deepest_16 (by decide) ?_
    refine mk_istore_n C (lv' := [(2, .int 0), (1, .int 0), (0, .ref (aX 0))]) dX9_deepest_17 (by decide) rfl ?_
    exact mk_lvsub [2, 1, 0] rfl (wL18 600 _ _ _ hf)
  · replace hf := (if_pos c5).symm.trans hf
    refine mk_bipush C (v := (-2)) dX9_deepest_7 (by decide) ?_
    have e := Option.some.inj hf
    obtain ⟨e0, e1⟩ := Prod.mk.inj e
    exact mk_iret C hr hlk e0 (by rw [← e1]) dX9_deepest_9
