set_option maxHeartbeats 40000000 in
set_option maxRecDepth 100000 in
theorem c_X_isNoisy (l : Launch) (D : va_G) (cI cJ : ClassId) (X Y : Nat → Nat) (aX : Nat → Nat) (uX : Nat → Nat → Int32) (uL : Nat → Nat → Int64) (p1 : Int32) (r : Int32) (hf : f_X_isNoisy uX p1 = some r) : mk_Met l yX9_isNoisy cX9_isNoisy 3 (some .boolean) ({ frames := 0, cells := 0, slots := 0, locals := 0 }) D [(cI, .int), (cJ, .long)] X Y [.ref (aX 0), .int p1] (wModel aX cI cJ uX uL) (wModel aX cI cJ uX uL) (some (.int r)) 0 0 := by
  refine mk_start (own := RX9) (by decide) rfl (Nat.le_of_ble_eq_true rfl) ?_
  intro sz p e s m args below meth c A C hr hlk hnm
  replace C : mk_Cx p s m args c cX9_isNoisy 3 RX9 D [(cI, .int), (cJ, .long)] X Y A := C
  have wL2 : ∀ (n : Nat) (v2 : Int32), f_X_isNoisy_2 uX p1 n v2 = some r → mk_Go p l e (headSpec (mk_ws yX9_isNoisy cX9_isNoisy 3 (some .boolean)) ({ frames := 0, cells := 0, slots := 0, locals := 0 })).room s m args below meth c D A 3 0 0 (MQ below (mk_Q (some (.int r)) D (wModel aX cI cJ uX uL) A) args s 0 0 A) 2 (wModel aX cI cJ uX uL) [(0, .ref (aX 0)), (1, .int p1), (2, .int v2)] [] := by
    intro  n
    induction n with
    | zero => intro v2 hf; exact nomatch (show (none : Option (Int32)) = some _ from hf)
    | succ n ih =>
      intro v2 hf
      rw [f_X_isNoisy_2] at hf
      refine mk_iload_n C 2 dX9_isNoisy_2 rfl ?_
      refine mk_aload_n C 0 dX9_isNoisy_3 rfl ?_
      refine mk_get C mk_inX9 0 rfl rfl 0 (by decide) mw_902 (v := .ref (aX 1)) rfl dX9_isNoisy_4 ?_
      refine mk_iconst C (v := 5) dX9_isNoisy_7 (by decide) ?_
      refine mk_iald C 1 0 (f := (uX 0)) rfl rfl (mk_vi (by decide)) (j := 5) (by decide) dX9_isNoisy_8 ?_
      refine mk_icmp_ge C 33 dX9_isNoisy_9 (by decide) (fun c1 => ?_) (fun c1 => ?_)
      · replace hf := (if_pos c1).symm.trans hf
        refine mk_iconst C (v := 0) dX9_isNoisy_33 (by decide) ?_
        have e0 := Option.some.inj hf
        exact mk_zret C hr hlk rfl e0 rfl dX9_isNoisy_34
      · replace hf := (if_neg c1).symm.trans hf
        refine mk_aload_n C 0 dX9_isNoisy_12 rfl ?_
        refine mk_get C mk_inX9 0 rfl rfl 0 (by decide) mw_902 (v := .ref (aX 1)) rfl dX9_isNoisy_13 ?_
        refine mk_bipush C (v := 37) dX9_isNoisy_16 (by decide) ?_
        refine mk_iload_n C 2 dX9_isNoisy_18 rfl ?_
        refine mk_iadd C dX9_isNoisy_19 ?_
        obtain ⟨g2, hf⟩ := gI_some hf
        refine mk_iald C 1 0 (f := (uX 0)) rfl rfl g2 (j := ((37 + v2) : Int32).toNatClampNeg) rfl dX9_isNoisy_20 ?_
        refine mk_iload_n C 1 dX9_isNoisy_21 rfl ?_
        refine mk_icmp_ne C 27 dX9_isNoisy_22 (by decide) (fun c3 => ?_) (fun c3 => ?_)
        · replace hf := (if_neg c3).symm.trans hf
          refine mk_iinc C (v := (v2 + 1)) (lv' := [(2, .int (v2 + 1)), (0, .ref (aX 0)), (1, .int p1)]) 2 dX9_isNoisy_27 rfl rfl (by decide) rfl ?_
          refine mk_goto C 2 dX9_isNoisy_30 (by decide) ?_
          exact mk_lvsub [1, 2, 0] rfl (ih _ hf)
        · replace hf := (if_pos c3).symm.trans hf
          refine mk_iconst C (v := 1) dX9_isNoisy_25 (by decide) ?_
          have e0 := Option.some.inj hf
          exact mk_zret C hr hlk rfl e0 rfl dX9_isNoisy_26
  show mk_Go p l e (headSpec (mk_ws yX9_isNoisy cX9_isNoisy 3 (some .boolean)) ({ frames := 0, cells := 0, slots := 0, locals := 0 })).room s m args below meth c D A 3 0 0 (MQ below (mk_Q (some (.int r)) D (wModel aX cI cJ uX uL) A) args s 0 0 A) 0 (wModel aX cI cJ uX uL) [(0, .ref (aX 0)), (1, .int p1)] []
  unfold f_X_isNoisy at hf
  refine mk_iconst C (v := 0) dX9_isNoisy_0 (by decide) ?_
  refine mk_istore_n C (lv' := [(2, .int 0), (0, .ref (aX 0)), (1, .int p1)]) dX9_isNoisy_1 (by decide) rfl ?_
  exact mk_lvsub [1, 2, 0] rfl (wL2 600 _ hf)
set_option maxHeartbeats 40000000 in
set_option maxRecDepth 100000 in
theorem c_X_readsNoise (l : Launch) (D : va_G) (cI cJ : ClassId) (X Y : Nat → Nat) (aX : Nat → Nat) (uX : Nat → Nat → Int32) (uL : Nat → Nat → Int64) (wX : Nat → Nat → Int32) (hf : f_X_readsNoise uX = some wX) : mk_Met l yX9_readsNoise cX9_readsNoise 3 none ({ frames := 7, cells := 0, slots := 0, locals := 204 }) D [(cI, .int), (cJ, .long)] X Y [.ref (aX 0)] (wModel aX cI cJ uX uL) (wModel aX cI cJ wX uL) none 0 0 := by
  refine mk_start (own := RX9) (by decide) rfl (Nat.le_of_ble_eq_true rfl) ?_
  intro sz p e s m args below meth c A C hr hlk hnm
  replace C : mk_Cx p s m args c cX9_readsNoise 3 RX9 D [(cI, .int), (cJ, .long)] X Y A := C
  have wL162 : ∀ (v1 : Int32) (v2 : Int32) (t1 : Int32) (uX : Nat → Nat → Int32), f_X_readsNoise_162 v1 v2 t1 uX = some wX → mk_Go p l e (headSpec (mk_ws yX9_readsNoise cX9_readsNoise 3 none) ({ frames := 7, cells := 0, slots := 0, locals := 204 })).room s m args below meth c D A 3 0 0 (MQ below (mk_Q none D (wModel aX cI cJ wX uL) A) args s 0 0 A) 162 (wModel aX cI cJ uX uL) [(0, .ref (aX 0)), (1, .int v1), (2, .int v2)] [.int t1, .ref (aX 0)] := by
    intro  v1 v2 t1 uX hf
    unfold f_X_readsNoise_162 at hf
    obtain ⟨uX_1, h2, hf⟩ := b1_some hf
    refine mk_callVv C (c_X_passes l D cI cJ X Y aX uX uL t1 uX_1 h2) mw_1080 mw_1082 mw_s4 mw_10 mw_1083 mkn_X9_passes rfl ⟨Nat.le_of_ble_eq_true rfl, Nat.le_of_ble_eq_true rfl⟩ 0 rfl rfl rfl (mk_Fr.all _ _) (Nat.le_of_ble_eq_true rfl) dX9_readsNoise_162 rfl ?_
    refine mk_aload_n C 0 dX9_readsNoise_165 rfl ?_
    refine mk_get C mk_inX9 0 rfl rfl 0 (by decide) mw_902 (v := .ref (aX 1)) rfl dX9_readsNoise_166 ?_
    refine mk_bipush C (v := 37) dX9_readsNoise_169 (by decide) ?_
    refine mk_aload_n C 0 dX9_readsNoise_171 rfl ?_
    refine mk_get C mk_inX9 0 rfl rfl 0 (by decide) mw_902 (v := .ref (aX 1)) rfl dX9_readsNoise_172 ?_
    refine mk_iconst C (v := 5) dX9_readsNoise_175 (by decide) ?_
    refine mk_iald C 1 0 (f := (uX_1 0)) rfl rfl (mk_vi (by decide)) (j := 5) (by decide) dX9_readsNoise_176 ?_
    refine mk_iadd C dX9_readsNoise_177 ?_
    refine mk_iload_n C 1 dX9_readsNoise_178 rfl ?_
    obtain ⟨g3, hf⟩ := gI_some hf
    refine mk_iast C 1 0 (f := (uX_1 0)) rfl rfl g3 (j := ((37 + ((uX_1 0) 5)) : Int32).toNatClampNeg) rfl (ws' := (wModel aX cI cJ (upR 0 (upd (uX_1 0) ((37 + ((uX_1 0) 5)) : Int32).toNatClampNeg v1) uX_1) uL)) (st_X_X_0 cI cJ aX uX_1 uL (upd (uX_1 0) ((37 + ((uX_1 0) 5)) : Int32).toNatClampNeg v1)) dX9_readsNoise_179 ?_
    refine mk_aload_n C 0 dX9_readsNoise_180 rfl ?_
    refine mk_get C mk_inX9 0 rfl rfl 0 (by decide) mw_902 (v := .ref (aX 1)) rfl dX9_readsNoise_181 ?_
    refine mk_bipush C (v := 47) dX9_readsNoise_184 (by decide) ?_
    refine mk_aload_n C 0 dX9_readsNoise_186 rfl ?_
    refine mk_get C mk_inX9 0 rfl rfl 0 (by decide) mw_902 (v := .ref (aX 1)) rfl dX9_readsNoise_187 ?_
    refine mk_iconst C (v := 5) dX9_readsNoise_190 (by decide) ?_
    refine mk_iald C 1 0 (f := (upd (uX_1 0) ((37 + ((uX_1 0) 5)) : Int32).toNatClampNeg v1)) rfl rfl (mk_vi (by decide)) (j := 5) (by decide) dX9_readsNoise_191 ?_
    refine mk_iadd C dX9_readsNoise_192 ?_
    refine mk_iload_n C 2 dX9_readsNoise_193 rfl ?_
    obtain ⟨g4, hf⟩ := gI_some hf
    refine mk_iast C 1 0 (f := (upd (uX_1 0) ((37 + ((uX_1 0) 5)) : Int32).toNatClampNeg v1)) rfl rfl g4 (j := ((47 + ((upd (uX_1 0) ((37 + ((uX_1 0) 5)) : Int32).toNatClampNeg v1) 5)) : Int32).toNatClampNeg) rfl (ws' := (wModel aX cI cJ (upR 0 (upd (upd (uX_1 0) ((37 + ((uX_1 0) 5)) : Int32).toNatClampNeg v1) ((47 + ((upd (uX_1 0) ((37 + ((uX_1 0) 5)) : Int32).toNatClampNeg v1) 5)) : Int32).toNatClampNeg v2) (upR 0 (upd (uX_1 0) ((37 + ((uX_1 0) 5)) : Int32).toNatClampNeg v1) uX_1)) uL)) (st_X_X_0 cI cJ aX (upR 0 (upd (uX_1 0) ((37 + ((uX_1 0) 5)) : Int32).toNatClampNeg v1) uX_1) uL (upd (upd (uX_1 0) ((37 + ((uX_1 0) 5)) : Int32).toNatClampNeg v1) ((47 + ((upd (uX_1 0) ((37 + ((uX_1 0) 5)) : Int32).toNatClampNeg v1) 5)) : Int32).toNatClampNeg v2)) dX9_readsNoise_194 ?_
    refine mk_aload_n C 0 dX9_readsNoise_195 rfl ?_
    refine mk_get C mk_inX9 0 rfl rfl 0 (by decide) mw_902 (v := .ref (aX 1)) rfl dX9_readsNoise_196 ?_
    refine mk_iconst C (v := 5) dX9_readsNoise_199 (by decide) ?_
    refine mk_dup2 C dX9_readsNoise_200 rfl rfl ?_
    refine mk_iald C 1 0 (f := (upd (upd (uX_1 0) ((37 + ((uX_1 0) 5)) : Int32).toNatClampNeg v1) ((47 + ((upd (uX_1 0) ((37 + ((uX_1 0) 5)) : Int32).toNatClampNeg v1) 5)) : Int32).toNatClampNeg v2)) rfl rfl (mk_vi (by decide)) (j := 5) (by decide) dX9_readsNoise_201 ?_
    refine mk_iconst C (v := 1) dX9_readsNoise_202 (by decide) ?_
    refine mk_iadd C dX9_readsNoise_203 ?_
    refine mk_iast C 1 0 (f := (upd (upd (uX_1 0) ((37 + ((uX_1 0) 5)) : Int32).toNatClampNeg v1) ((47 + ((upd (uX_1 0) ((37 + ((uX_1 0) 5)) : Int32).toNatClampNeg v1) 5)) : Int32).toNatClampNeg v2)) rfl rfl (mk_vi (by decide)) (j := 5) (by decide) (ws' := (wModel aX cI cJ (upR 0 (upd (upd (upd (uX_1 0) ((37 + ((uX_1 0) 5)) : Int32).toNatClampNeg v1) ((47 + ((upd (uX_1 0) ((37 + ((uX_1 0) 5)) : Int32).toNatClampNeg v1) 5)) : Int32).toNatClampNeg v2) 5 (((upd (upd (uX_1 0) ((37 + ((uX_1 0) 5)) : Int32).toNatClampNeg v1) ((47 + ((upd (uX_1 0) ((37 + ((uX_1 0) 5)) : Int32).toNatClampNeg v1) 5)) : Int32).toNatClampNeg v2) 5) + 1)) (upR 0 (upd (upd (uX_1 0) ((37 + ((uX_1 0) 5)) : Int32).toNatClampNeg v1) ((47 + ((upd (uX_1 0) ((37 + ((uX_1 0) 5)) : Int32).toNatClampNeg v1) 5)) : Int32).toNatClampNeg v2) (upR 0 (upd (uX_1 0) ((37 + ((uX_1 0) 5)) : Int32).toNatClampNeg v1) uX_1))) uL)) (st_X_X_0 cI cJ aX (upR 0 (upd (upd (uX_1 0) ((37 + ((uX_1 0) 5)) : Int32).toNatClampNeg v1) ((47 + ((upd (uX_1 0) ((37 + ((uX_1 0) 5)) : Int32).toNatClampNeg v1) 5)) : Int32).toNatClampNeg v2) (upR 0 (upd (uX_1 0) ((37 + ((uX_1 0) 5)) : Int32).toNatClampNeg v1) uX_1)) uL (upd (upd (upd (uX_1 0) ((37 + ((uX_1 0) 5)) : Int32).toNatClampNeg v1) ((47 + ((upd (uX_1 0) ((37 + ((uX_1 0) 5)) : Int32).toNatClampNeg v1) 5)) : Int32).toNatClampNeg v2) 5 (((upd (upd (uX_1 0) ((37 + ((uX_1 0) 5)) : Int32).toNatClampNeg v1) ((47 + ((upd (uX_1 0) ((37 + ((uX_1 0) 5)) : Int32).toNatClampNeg v1) 5)) : Int32).toNatClampNeg v2) 5) + 1))) dX9_readsNoise_204 ?_
    have e0 := Option.some.inj hf
    exact mk_vret C hr hlk (by rw [← e0]) dX9_readsNoise_205
  have wL157 : ∀ (v1 : Int32) (v2 : Int32) (uX : Nat → Nat → Int32), f_X_readsNoise_157 v1 v2 uX = some wX → mk_Go p l e (headSpec (mk_ws yX9_readsNoise cX9_readsNoise 3 none) ({ frames := 7, cells := 0, slots := 0, locals := 204 })).room s m args below meth c D A 3 0 0 (MQ below (mk_Q none D (wModel aX cI cJ wX uL) A) args s 0 0 A) 157 (wModel aX cI cJ uX uL) [(0, .ref (aX 0)), (1, .int v1), (2, .int v2)] [.ref (aX 0)] := by
    intro  v1 v2 uX hf
    unfold f_X_readsNoise_157 at hf
    refine mk_iconst C (v := 1) dX9_readsNoise_157 (by decide) ?_
    refine mk_goto C 162 dX9_readsNoise_158 (by decide) ?_
    exact mk_lvsub [0, 1, 2] rfl (wL162 _ _ _ _ hf)
  have wL134 : ∀ (v1 : Int32) (t0 : Int32) (uX : Nat → Nat → Int32), f_X_readsNoise_134 v1 t0 uX = some wX → mk_Go p l e (headSpec (mk_ws yX9_readsNoise cX9_readsNoise 3 none) ({ frames := 7, cells := 0, slots := 0, locals := 204 })).room s m args below meth c D A 3 0 0 (MQ below (mk_Q none D (wModel aX cI cJ wX uL) A) args s 0 0 A) 134 (wModel aX cI cJ uX uL) [(0, .ref (aX 0)), (1, .int v1)] [.int t0] := by
    intro  v1 t0 uX hf
    unfold f_X_readsNoise_134 at hf
    refine mk_istore_n C (lv' := [(2, .int t0), (0, .ref (aX 0)), (1, .int v1)]) dX9_readsNoise_134 (by decide) rfl ?_
    refine mk_aload_n C 1 dX9_readsNoise_135 rfl ?_
    refine mk_aload_n C 1 dX9_readsNoise_136 rfl ?_
    refine mk_get C mk_inX9 0 rfl rfl 12 (by decide) mw_914 (v := .int (uX 12 0)) rfl dX9_readsNoise_137 ?_
    refine mk_if_ne C 157 dX9_readsNoise_140 (by decide) (fun c5 => ?_) (fun c5 => ?_)
    · replace hf := (if_neg c5).symm.trans hf
      exact mk_lvsub [1, 2, 0] rfl (wL157 _ _ _ hf)
    · replace hf := (if_pos c5).symm.trans hf
      refine mk_iload_n C 0 dX9_readsNoise_143 rfl ?_
      refine mk_iconst C (v := 2) dX9_readsNoise_144 (by decide) ?_
      refine mk_icmp_lt C 157 dX9_readsNoise_145 (by decide) (fun c6 => ?_) (fun c6 => ?_)
      · replace hf := (if_pos c6).symm.trans hf
        exact mk_lvsub [1, 2, 0] rfl (wL157 _ _ _ hf)
      · replace hf := (if_neg c6).symm.trans hf
        refine mk_aload_n C 1 dX9_readsNoise_148 rfl ?_
        refine mk_ldcS C (k := 12) (List.mem_of_getElem? (i := 25) rfl) dX9_readsNoise_149 ?_
        obtain ⟨r7, h8, hf⟩ := b1_some hf
        refine mk_callVi C (c_X_isWord l D cI cJ X Y aX uX uL 12 (by decide) r7 h8) mw_1074 mw_1076 mw_s3 mw_10 mw_1077 mkn_X9_isWord rfl ⟨Nat.le_of_ble_eq_true rfl, Nat.le_of_ble_eq_true rfl⟩ 0 rfl rfl rfl (mk_Fr.all _ _) (Nat.le_of_ble_eq_true rfl) dX9_readsNoise_151 rfl ?_
        refine mk_if_eq C 161 dX9_readsNoise_154 (by decide) (fun c9 => ?_) (fun c9 => ?_)
        · replace hf := (if_pos c9).symm.trans hf
          refine mk_iconst C (v := 0) dX9_readsNoise_161 (by decide) ?_
          exact mk_lvsub [1, 2, 0] rfl (wL162 _ _ _ _ hf)
        · replace hf := (if_neg c9).symm.trans hf
          exact mk_lvsub [1, 2, 0] rfl (wL157 _ _ _ hf)
  have wL104 : ∀ (v1 : Int32) (t1 : Int32) (uX : Nat → Nat → Int32), f_X_readsNoise_104 v1 t1 uX = some wX → mk_Go p l e (headSpec (mk_ws yX9_readsNoise cX9_readsNoise 3 none) ({ frames := 7, cells := 0, slots := 0, locals := 204 })).room s m args below meth c D A 3 0 0 (MQ below (mk_Q none D (wModel aX cI cJ wX uL) A) args s 0 0 A) 104 (wModel aX cI cJ uX uL) [(0, .ref (aX 0)), (1, .int v1)] [.int t1, .ref (aX 0)] := by
    intro  v1 t1 uX hf
    unfold f_X_readsNoise_104 at hf
    obtain ⟨uX_10, h11, hf⟩ := b1_some hf
    refine mk_callVv C (c_X_passes l D cI cJ X Y aX uX uL t1 uX_10 h11) mw_1080 mw_1082 mw_s4 mw_10 mw_1083 mkn_X9_passes rfl ⟨Nat.le_of_ble_eq_true rfl, Nat.le_of_ble_eq_true rfl⟩ 0 rfl rfl rfl (mk_Fr.all _ _) (Nat.le_of_ble_eq_true rfl) dX9_readsNoise_104 rfl ?_
    refine mk_aload_n C 0 dX9_readsNoise_107 rfl ?_
    refine mk_ldcS C (k := 10) (List.mem_of_getElem? (i := 23) rfl) dX9_readsNoise_108 ?_
    obtain ⟨r12, h13, hf⟩ := b1_some hf
    refine mk_callVi C (c_X_isWord l D cI cJ X Y aX uX_10 uL 10 (by decide) r12 h13) mw_1074 mw_1076 mw_s3 mw_10 mw_1077 mkn_X9_isWord rfl ⟨Nat.le_of_ble_eq_true rfl, Nat.le_of_ble_eq_true rfl⟩ 0 rfl rfl rfl (mk_Fr.all _ _) (Nat.le_of_ble_eq_true rfl) dX9_readsNoise_110 rfl ?_
    refine mk_if_eq C 120 dX9_readsNoise_113 (by decide) (fun c14 => ?_) (fun c14 => ?_)
    · replace hf := (if_pos c14).symm.trans hf
      refine mk_aload_n C 0 dX9_readsNoise_120 rfl ?_
      refine mk_ldcS C (k := 11) (List.mem_of_getElem? (i := 24) rfl) dX9_readsNoise_121 ?_
      obtain ⟨r15, h16, hf⟩ := b1_some hf
      refine mk_callVi C (c_X_isWord l D cI cJ X Y aX uX_10 uL 11 (by decide) r15 h16) mw_1074 mw_1076 mw_s3 mw_10 mw_1077 mkn_X9_isWord rfl ⟨Nat.le_of_ble_eq_true rfl, Nat.le_of_ble_eq_true rfl⟩ 0 rfl rfl rfl (mk_Fr.all _ _) (Nat.le_of_ble_eq_true rfl) dX9_readsNoise_123 rfl ?_
      refine mk_if_eq C 133 dX9_readsNoise_126 (by decide) (fun c17 => ?_) (fun c17 => ?_)
      · replace hf := (if_pos c17).symm.trans hf
        refine mk_iconst C (v := 2) dX9_readsNoise_133 (by decide) ?_
        exact mk_lvsub [0, 1] rfl (wL134 _ _ _ hf)
      · replace hf := (if_neg c17).symm.trans hf
        refine mk_iconst C (v := 1) dX9_readsNoise_129 (by decide) ?_
        refine mk_goto C 134 dX9_readsNoise_130 (by decide) ?_
        exact mk_lvsub [0, 1] rfl (wL134 _ _ _ hf)
    · replace hf := (if_neg c14).symm.trans hf
      refine mk_iconst C (v := 0) dX9_readsNoise_116 (by decide) ?_
      refine mk_goto C 134 dX9_readsNoise_117 (by decide) ?_
      exact mk_lvsub [0, 1] rfl (wL134 _ _ _ hf)
  have wL99 : ∀ (v1 : Int32) (uX : Nat → Nat → Int32), f_X_readsNoise_99 v1 uX = some wX → mk_Go p l e (headSpec (mk_ws yX9_readsNoise cX9_readsNoise 3 none) ({ frames := 7, cells := 0, slots := 0, locals := 204 })).room s m args below meth c D A 3 0 0 (MQ below (mk_Q none D (wModel aX cI cJ wX uL) A) args s 0 0 A) 99 (wModel aX cI cJ uX uL) [(0, .ref (aX 0)), (1, .int v1)] [.ref (aX 0)] := by
    intro  v1 uX hf
    unfold f_X_readsNoise_99 at hf
    refine mk_iconst C (v := 1) dX9_readsNoise_99 (by decide) ?_
    refine mk_goto C 104 dX9_readsNoise_100 (by decide) ?_
    exact mk_lvsub [0, 1] rfl (wL104 _ _ _ hf)
  have wL81 : ∀ (t0 : Int32) (uX : Nat → Nat → Int32), f_X_readsNoise_81 t0 uX = some wX → mk_Go p l e (headSpec (mk_ws yX9_readsNoise cX9_readsNoise 3 none) ({ frames := 7, cells := 0, slots := 0, locals := 204 })).room s m args below meth c D A 3 0 0 (MQ below (mk_Q none D (wModel aX cI cJ wX uL) A) args s 0 0 A) 81 (wModel aX cI cJ uX uL) [(0, .ref (aX 0))] [.int t0] := by
    intro  t0 uX hf
    unfold f_X_readsNoise_81 at hf
    refine mk_istore_n C (lv' := [(1, .int t0), (0, .ref (aX 0))]) dX9_readsNoise_81 (by decide) rfl ?_
    refine mk_aload_n C 1 dX9_readsNoise_82 rfl ?_
    refine mk_aload_n C 1 dX9_readsNoise_83 rfl ?_
    refine mk_get C mk_inX9 0 rfl rfl 12 (by decide) mw_914 (v := .int (uX 12 0)) rfl dX9_readsNoise_84 ?_
    refine mk_if_ne C 99 dX9_readsNoise_87 (by decide) (fun c18 => ?_) (fun c18 => ?_)
    · replace hf := (if_neg c18).symm.trans hf
      exact mk_lvsub [1, 0] rfl (wL99 _ _ hf)
    · replace hf := (if_pos c18).symm.trans hf
      refine mk_aload_n C 1 dX9_readsNoise_90 rfl ?_
      refine mk_ldcS C (k := 9) (List.mem_of_getElem? (i := 22) rfl) dX9_readsNoise_91 ?_
      obtain ⟨r19, h20, hf⟩ := b1_some hf
      refine mk_callVi C (c_X_isWord l D cI cJ X Y aX uX uL 9 (by decide) r19 h20) mw_1074 mw_1076 mw_s3 mw_10 mw_1077 mkn_X9_isWord rfl ⟨Nat.le_of_ble_eq_true rfl, Nat.le_of_ble_eq_true rfl⟩ 0 rfl rfl rfl (mk_Fr.all _ _) (Nat.le_of_ble_eq_true rfl) dX9_readsNoise_93 rfl ?_
      refine mk_if_eq C 103 dX9_readsNoise_96 (by decide) (fun c21 => ?_) (fun c21 => ?_)
      · replace hf := (if_pos c21).symm.trans hf
        refine mk_iconst C (v := 0) dX9_readsNoise_103 (by decide) ?_
        exact mk_lvsub [1, 0] rfl (wL104 _ _ _ hf)
      · replace hf := (if_neg c21).symm.trans hf
        exact mk_lvsub [1, 0] rfl (wL99 _ _ hf)
  have wL62 : ∀ (uX : Nat → Nat → Int32), f_X_readsNoise_62 uX = some wX → mk_Go p l e (headSpec (mk_ws yX9_readsNoise cX9_readsNoise 3 none) ({ frames := 7, cells := 0, slots := 0, locals := 204 })).room s m args below meth c D A 3 0 0 (MQ below (mk_Q none D (wModel aX cI cJ wX uL) A) args s 0 0 A) 62 (wModel aX cI cJ uX uL) [(0, .ref (aX 0))] [] := by
    intro  uX hf
    unfold f_X_readsNoise_62 at hf
    refine mk_aload_n C 0 dX9_readsNoise_62 rfl ?_
    refine mk_get C mk_inX9 0 rfl rfl 12 (by decide) mw_914 (v := .int (uX 12 0)) rfl dX9_readsNoise_63 ?_
    refine mk_if_eq C 73 dX9_readsNoise_66 (by decide) (fun c22 => ?_) (fun c22 => ?_)
    · replace hf := (if_pos c22).symm.trans hf
      refine mk_aload_n C 0 dX9_readsNoise_73 rfl ?_
      refine mk_iconst C (v := 0) dX9_readsNoise_74 (by decide) ?_
      refine mk_sipush C (v := 199) dX9_readsNoise_75 (by decide) ?_
      obtain ⟨r23, uX_24, h25, hf⟩ := b2_some hf
      refine mk_callVi C (c_X_reads l D cI cJ X Y aX uX uL 0 199 r23 uX_24 h25) mw_1093 mw_1095 mw_s7 mw_10 mw_1096 mkn_X9_reads rfl ⟨Nat.le_of_ble_eq_true rfl, Nat.le_of_ble_eq_true rfl⟩ 0 rfl rfl rfl (mk_Fr.all _ _) (Nat.le_of_ble_eq_true rfl) dX9_readsNoise_78 rfl ?_
      exact mk_lvsub [0] rfl (wL81 _ _ hf)
    · replace hf := (if_neg c22).symm.trans hf
      refine mk_iconst C (v := 0) dX9_readsNoise_69 (by decide) ?_
      refine mk_goto C 81 dX9_readsNoise_70 (by decide) ?_
      exact mk_lvsub [0] rfl (wL81 _ _ hf)
  show mk_Go p l e (headSpec (mk_ws yX9_readsNoise cX9_readsNoise 3 none) ({ frames := 7, cells := 0, slots := 0, locals := 204 })).room s m args below meth c D A 3 0 0 (MQ below (mk_Q none D (wModel aX cI cJ wX uL) A) args s 0 0 A) 0 (wModel aX cI cJ uX uL) [(0, .ref (aX 0))] []
  unfold f_X_readsNoise at hf
  refine mk_aload_n C 0 dX9_readsNoise_0 rfl ?_
  refine mk_get C mk_inX9 0 rfl rfl 0 (by decide) mw_902 (v := .ref (aX 1)) rfl dX9_readsNoise_1 ?_
  refine mk_iconst C (v := 5) dX9_readsNoise_4 (by decide) ?_
  refine mk_iald C 1 0 (f := (uX 0)) rfl rfl (mk_vi (by decide)) (j := 5) (by decide) dX9_readsNoise_5 ?_
  refine mk_bipush C (v := 10) dX9_readsNoise_6 (by decide) ?_
  refine mk_icmp_ne C 17 dX9_readsNoise_8 (by decide) (fun c26 => ?_) (fun c26 => ?_)
  · replace hf := (if_neg c26).symm.trans hf
    refine mk_aload_n C 0 dX9_readsNoise_17 rfl ?_
    obtain ⟨uX_27, h28, hf⟩ := b1_some hf
    refine mk_callVv C (c_X_next l D cI cJ X Y aX uX uL uX_27 h28) mw_1059 mw_1061 mw_s0 mw_10 mw_1062 mkn_X9_next rfl ⟨Nat.le_of_ble_eq_true rfl, Nat.le_of_ble_eq_true rfl⟩ 0 rfl rfl rfl (mk_Fr.all _ _) (Nat.le_of_ble_eq_true rfl) dX9_readsNoise_18 rfl ?_
    refine mk_aload_n C 0 dX9_readsNoise_21 rfl ?_
    refine mk_aload_n C 0 dX9_readsNoise_22 rfl ?_
    refine mk_ldcS C (k := 6) (List.mem_of_getElem? (i := 19) rfl) dX9_readsNoise_23 ?_
    obtain ⟨r29, h30, hf⟩ := b1_some hf
    refine mk_callVi C (c_X_isWord l D cI cJ X Y aX uX_27 uL 6 (by decide) r29 h30) mw_1074 mw_1076 mw_s3 mw_10 mw_1077 mkn_X9_isWord rfl ⟨Nat.le_of_ble_eq_true rfl, Nat.le_of_ble_eq_true rfl⟩ 0 rfl rfl rfl (mk_Fr.all _ _) (Nat.le_of_ble_eq_true rfl) dX9_readsNoise_25 rfl ?_
    obtain ⟨uX_31, h32, hf⟩ := b1_some hf
    refine mk_callVv C (c_X_passes l D cI cJ X Y aX uX_27 uL r29 uX_31 h32) mw_1080 mw_1082 mw_s4 mw_10 mw_1083 mkn_X9_passes rfl ⟨Nat.le_of_ble_eq_true rfl, Nat.le_of_ble_eq_true rfl⟩ 0 rfl rfl rfl (mk_Fr.all _ _) (Nat.le_of_ble_eq_true rfl) dX9_readsNoise_28 rfl ?_
    refine mk_aload_n C 0 dX9_readsNoise_31 rfl ?_
    refine mk_get C mk_inX9 0 rfl rfl 12 (by decide) mw_914 (v := .int (uX_31 12 0)) rfl dX9_readsNoise_32 ?_
    refine mk_if_ne C 62 dX9_readsNoise_35 (by decide) (fun c33 => ?_) (fun c33 => ?_)
    · replace hf := (if_neg c33).symm.trans hf
      exact mk_lvsub [0] rfl (wL62 _ hf)
    · replace hf := (if_pos c33).symm.trans hf
      refine mk_aload_n C 0 dX9_readsNoise_38 rfl ?_
      refine mk_get C mk_inX9 0 rfl rfl 10 (by decide) mw_912 (v := .int (uX_31 10 0)) rfl dX9_readsNoise_39 ?_
      refine mk_iconst C (v := 2) dX9_readsNoise_42 (by decide) ?_
      refine mk_icmp_ne C 62 dX9_readsNoise_43 (by decide) (fun c34 => ?_) (fun c34 => ?_)
      · replace hf := (if_neg c34).symm.trans hf
        exact mk_lvsub [0] rfl (wL62 _ hf)
      · replace hf := (if_pos c34).symm.trans hf
        refine mk_aload_n C 0 dX9_readsNoise_46 rfl ?_
        refine mk_aload_n C 0 dX9_readsNoise_47 rfl ?_
        refine mk_get C mk_inX9 0 rfl rfl 11 (by decide) mw_913 (v := .int (uX_31 11 0)) rfl dX9_readsNoise_48 ?_
        obtain ⟨r35, h36, hf⟩ := b1_some hf
        refine mk_callVi C (c_X_isNoisy l D cI cJ X Y aX uX_31 uL (uX_31 11 0) r35 h36) mw_1112 mw_1114 mw_s10 mw_10 mw_1115 mkn_X9_isNoisy rfl ⟨Nat.le_of_ble_eq_true rfl, Nat.le_of_ble_eq_true rfl⟩ 0 rfl rfl rfl (mk_Fr.all _ _) (Nat.le_of_ble_eq_true rfl) dX9_readsNoise_51 rfl ?_
        refine mk_if_eq C 62 dX9_readsNoise_54 (by decide) (fun c37 => ?_) (fun c37 => ?_)
        · replace hf := (if_pos c37).symm.trans hf
          exact mk_lvsub [0] rfl (wL62 _ hf)
        · replace hf := (if_neg c37).symm.trans hf
          refine mk_aload_n C 0 dX9_readsNoise_57 rfl ?_
          refine mk_iconst C (v := 2) dX9_readsNoise_58 (by decide) ?_
          obtain ⟨uX_38, h39, hf⟩ := b1_some hf
          refine mk_callVv C (c_X_faults l D cI cJ X Y aX uX_31 uL 2 uX_38 h39) mw_1084 mw_1086 mw_s5 mw_10 mw_1087 mkn_X9_faults rfl ⟨Nat.le_of_ble_eq_true rfl, Nat.le_of_ble_eq_true rfl⟩ 0 rfl rfl rfl (mk_Fr.all _ _) (Nat.le_of_ble_eq_true rfl) dX9_readsNoise_59 rfl ?_
          exact mk_lvsub [0] rfl (wL62 _ hf)
  · replace hf := (if_pos c26).symm.trans hf
    refine mk_aload_n C 0 dX9_readsNoise_11 rfl ?_
    refine mk_iconst C (v := 3) dX9_readsNoise_12 (by decide) ?_
    obtain ⟨uX_40, h41, hf⟩ := b1_some hf
    refine mk_callVv C (c_X_faults l D cI cJ X Y aX uX uL 3 uX_40 h41) mw_1084 mw_1086 mw_s5 mw_10 mw_1087 mkn_X9_faults rfl ⟨Nat.le_of_ble_eq_true rfl, Nat.le_of_ble_eq_true rfl⟩ 0 rfl rfl rfl (mk_Fr.all _ _) (Nat.le_of_ble_eq_true rfl) dX9_readsNoise_13 rfl ?_
    have e0 := Option.some.inj hf
    exact mk_vret C hr hlk (by rw [← e0]) dX9_readsNoise_16
set_option maxHeartbeats 40000000 in
set_option maxRecDepth 100000 in
theorem c_X_channel (l : Launch) (D : va_G) (cI cJ : ClassId) (X Y : Nat → Nat) (aX : Nat → Nat) (uX : Nat → Nat → Int32) (uL : Nat → Nat → Int64) (r : Int32) (wX : Nat → Nat → Int32) (hf : f_X_channel uX = some (r, wX)) : mk_Met l yX9_channel cX9_channel 2 (some .int) ({ frames := 9, cells := 0, slots := 0, locals := 249 }) D [(cI, .int), (cJ, .long)] X Y [.ref (aX 0)] (wModel aX cI cJ uX uL) (wModel aX cI cJ wX uL) (some (.int r)) 0 0 := by
  refine mk_start (own := RX9) (by decide) rfl (Nat.le_of_ble_eq_true rfl) ?_
  intro sz p e s m args below meth c A C hr hlk hnm
  replace C : mk_Cx p s m args c cX9_channel 2 RX9 D [(cI, .int), (cJ, .long)] X Y A := C
  have wL193 : ∀ (n : Nat) (v1 : Int32) (uX : Nat → Nat → Int32), f_X_channel_193 n v1 uX = some (r, wX) → mk_Go p l e (headSpec (mk_ws yX9_channel cX9_channel 2 (some .int)) ({ frames := 9, cells := 0, slots := 0, locals := 249 })).room s m args below meth c D A 2 0 0 (MQ below (mk_Q (some (.int r)) D (wModel aX cI cJ wX uL) A) args s 0 0 A) 193 (wModel aX cI cJ uX uL) [(0, .ref (aX 0)), (1, .int v1)] [] := by
    intro  n
    induction n with
    | zero => intro v1 uX hf; exact nomatch (show (none : Option (Int32 × (Nat → Nat → Int32))) = some _ from hf)
    | succ n ih =>
      intro v1 uX hf
      rw [f_X_channel_193] at hf
      refine mk_iload_n C 1 dX9_channel_193 rfl ?_
      refine mk_bipush C (v := 57) dX9_channel_194 (by decide) ?_
      refine mk_icmp_ge C 217 dX9_channel_196 (by decide) (fun c1 => ?_) (fun c1 => ?_)
      · replace hf := (if_pos c1).symm.trans hf
        refine mk_bipush C (v := (-4)) dX9_channel_217 (by decide) ?_
        have e := Option.some.inj hf
        obtain ⟨e0, e1⟩ := Prod.mk.inj e
        exact mk_iret C hr hlk e0 (by rw [← e1]) dX9_channel_219
      · replace hf := (if_neg c1).symm.trans hf
        refine mk_aload_n C 0 dX9_channel_199 rfl ?_
        refine mk_get C mk_inX9 0 rfl rfl 0 (by decide) mw_902 (v := .ref (aX 1)) rfl dX9_channel_200 ?_
        refine mk_iload_n C 1 dX9_channel_203 rfl ?_
        refine mk_aload_n C 0 dX9_channel_204 rfl ?_
        refine mk_get C mk_inX9 0 rfl rfl 1 (by decide) mw_903 (v := .ref (aX 2)) rfl dX9_channel_205 ?_
        refine mk_iload_n C 1 dX9_channel_208 rfl ?_
        obtain ⟨g2, hf⟩ := gI_some hf
        refine mk_iald C 2 0 (f := (uX 1)) rfl rfl g2 (j := (v1 : Int32).toNatClampNeg) rfl dX9_channel_209 ?_
        refine mk_iast C 1 0 (f := (uX 0)) rfl rfl g2 (j := (v1 : Int32).toNatClampNeg) rfl (ws' := (wModel aX cI cJ (upR 0 (upd (uX 0) (v1 : Int32).toNatClampNeg ((uX 1) (v1 : Int32).toNatClampNeg)) uX) uL)) (st_X_X_0 cI cJ aX uX uL (upd (uX 0) (v1 : Int32).toNatClampNeg ((uX 1) (v1 : Int32).toNatClampNeg))) dX9_channel_210 ?_
        refine mk_iinc C (v := (v1 + 1)) (lv' := [(1, .int (v1 + 1)), (0, .ref (aX 0))]) 1 dX9_channel_211 rfl rfl (by decide) rfl ?_
        refine mk_goto C 193 dX9_channel_214 (by decide) ?_
        exact mk_lvsub [1, 0] rfl (ih _ _ hf)
  have wL163 : ∀ (uX : Nat → Nat → Int32), f_X_channel_163 uX = some (r, wX) → mk_Go p l e (headSpec (mk_ws yX9_channel cX9_channel 2 (some .int)) ({ frames := 9, cells := 0, slots := 0, locals := 249 })).room s m args below meth c D A 2 0 0 (MQ below (mk_Q (some (.int r)) D (wModel aX cI cJ wX uL) A) args s 0 0 A) 163 (wModel aX cI cJ uX uL) [(0, .ref (aX 0))] [] := by
    intro  uX hf
    unfold f_X_channel_163 at hf
    refine mk_aload_n C 0 dX9_channel_163 rfl ?_
    refine mk_iconst C (v := 0) dX9_channel_164 (by decide) ?_
    refine mk_put C mk_inX9 tyX9 tyX9_ok nmX9 0 rfl rfl 5 (by decide) mw_907 rfl rfl rfl (Nat.le_of_ble_eq_true rfl) (ws' := (wModel aX cI cJ (upF 5 0 uX) uL)) (st_X_X_5 cI cJ aX uX uL 0) dX9_channel_165 ?_
    refine mk_aload_n C 0 dX9_channel_168 rfl ?_
    refine mk_aload_n C 0 dX9_channel_169 rfl ?_
    refine mk_get C mk_inX9 0 rfl rfl 13 (by decide) mw_915 (v := .int (uX 13 0)) rfl dX9_channel_170 ?_
    refine mk_put C mk_inX9 tyX9 tyX9_ok nmX9 0 rfl rfl 6 (by decide) mw_908 rfl rfl rfl (Nat.le_of_ble_eq_true rfl) (ws' := (wModel aX cI cJ (upF 6 (uX 13 0) (upF 5 0 uX)) uL)) (st_X_X_6 cI cJ aX (upF 5 0 uX) uL (uX 13 0)) dX9_channel_173 ?_
    refine mk_aload_n C 0 dX9_channel_176 rfl ?_
    refine mk_aload_n C 0 dX9_channel_177 rfl ?_
    refine mk_get C mk_inX9 0 rfl rfl 14 (by decide) mw_916 (v := .int (uX 14 0)) rfl dX9_channel_178 ?_
    refine mk_put C mk_inX9 tyX9 tyX9_ok nmX9 0 rfl rfl 7 (by decide) mw_909 rfl rfl rfl (Nat.le_of_ble_eq_true rfl) (ws' := (wModel aX cI cJ (upF 7 (uX 14 0) (upF 6 (uX 13 0) (upF 5 0 uX))) uL)) (st_X_X_7 cI cJ aX (upF 6 (uX 13 0) (upF 5 0 uX)) uL (uX 14 0)) dX9_channel_181 ?_
    refine mk_aload_n C 0 dX9_channel_184 rfl ?_
    refine mk_get C mk_inX9 0 rfl rfl 12 (by decide) mw_914 (v := .int (uX 12 0)) rfl dX9_channel_185 ?_
    refine mk_if_eq C 220 dX9_channel_188 (by decide) (fun c3 => ?_) (fun c3 => ?_)
    · replace hf := (if_pos c3).symm.trans hf
      refine mk_aload_n C 0 dX9_channel_220 rfl ?_
      refine mk_iconst C (v := 0) dX9_channel_221 (by decide) ?_
      refine mk_put C mk_inX9 tyX9 tyX9_ok nmX9 0 rfl rfl 3 (by decide) mw_905 rfl rfl rfl (Nat.le_of_ble_eq_true rfl) (ws' := (wModel aX cI cJ (upF 3 0 (upF 7 (uX 14 0) (upF 6 (uX 13 0) (upF 5 0 uX)))) uL)) (st_X_X_3 cI cJ aX (upF 7 (uX 14 0) (upF 6 (uX 13 0) (upF 5 0 uX))) uL 0) dX9_channel_222 ?_
      refine mk_aload_n C 0 dX9_channel_225 rfl ?_
      refine mk_get C mk_inX9 0 rfl rfl 0 (by decide) mw_902 (v := .ref (aX 1)) rfl dX9_channel_226 ?_
      refine mk_bipush C (v := 6) dX9_channel_229 (by decide) ?_
      refine mk_iald C 1 0 (f := (uX 0)) rfl rfl (mk_vi (by decide)) (j := 6) (by decide) dX9_channel_231 ?_
      have e := Option.some.inj hf
      obtain ⟨e0, e1⟩ := Prod.mk.inj e
      exact mk_iret C hr hlk e0 (by rw [← e1]) dX9_channel_232
    · replace hf := (if_neg c3).symm.trans hf
      refine mk_iconst C (v := 0) dX9_channel_191 (by decide) ?_
      refine mk_istore_n C (lv' := [(1, .int 0), (0, .ref (aX 0))]) dX9_channel_192 (by decide) rfl ?_
      exact mk_lvsub [1, 0] rfl (wL193 600 _ _ hf)
  have wL146 : ∀ (k57 : (Nat → Nat → Int32) → Option (Int32 × (Nat → Nat → Int32))), (∀ (uX : Nat → Nat → Int32), k57 uX = some (r, wX) → mk_Go p l e (headSpec (mk_ws yX9_channel cX9_channel 2 (some .int)) ({ frames := 9, cells := 0, slots := 0, locals := 249 })).room s m args below meth c D A 2 0 0 (MQ below (mk_Q (some (.int r)) D (wModel aX cI cJ wX uL) A) args s 0 0 A) 57 (wModel aX cI cJ uX uL) [(0, .ref (aX 0))] []) → ∀ (t1 : Int32) (uX : Nat → Nat → Int32), f_X_channel_146 k57 t1 uX = some (r, wX) → mk_Go p l e (headSpec (mk_ws yX9_channel cX9_channel 2 (some .int)) ({ frames := 9, cells := 0, slots := 0, locals := 249 })).room s m args below meth c D A 2 0 0 (MQ below (mk_Q (some (.int r)) D (wModel aX cI cJ wX uL) A) args s 0 0 A) 146 (wModel aX cI cJ uX uL) [(0, .ref (aX 0))] [.int t1, .ref (aX 0)] := by
    intro k57 hk57 t1 uX hf
    unfold f_X_channel_146 at hf
    obtain ⟨uX_4, h5, hf⟩ := b1_some hf
    refine mk_callVv C (c_X_passes l D cI cJ X Y aX uX uL t1 uX_4 h5) mw_1080 mw_1082 mw_s4 mw_10 mw_1083 mkn_X9_passes rfl ⟨Nat.le_of_ble_eq_true rfl, Nat.le_of_ble_eq_true rfl⟩ 0 rfl rfl rfl (mk_Fr.all _ _) (Nat.le_of_ble_eq_true rfl) dX9_channel_146 rfl ?_
    refine mk_aload_n C 0 dX9_channel_149 rfl ?_
    refine mk_get C mk_inX9 0 rfl rfl 0 (by decide) mw_902 (v := .ref (aX 1)) rfl dX9_channel_150 ?_
    refine mk_bipush C (v := 6) dX9_channel_153 (by decide) ?_
    refine mk_dup2 C dX9_channel_155 rfl rfl ?_
    refine mk_iald C 1 0 (f := (uX_4 0)) rfl rfl (mk_vi (by decide)) (j := 6) (by decide) dX9_channel_156 ?_
    refine mk_iconst C (v := 1) dX9_channel_157 (by decide) ?_
    refine mk_iadd C dX9_channel_158 ?_
    refine mk_iast C 1 0 (f := (uX_4 0)) rfl rfl (mk_vi (by decide)) (j := 6) (by decide) (ws' := (wModel aX cI cJ (upR 0 (upd (uX_4 0) 6 (((uX_4 0) 6) + 1)) uX_4) uL)) (st_X_X_0 cI cJ aX uX_4 uL (upd (uX_4 0) 6 (((uX_4 0) 6) + 1))) dX9_channel_159 ?_
    refine mk_goto C 57 dX9_channel_160 (by decide) ?_
    exact mk_lvsub [0] rfl (hk57 _ hf)
  have wL141 : ∀ (k57 : (Nat → Nat → Int32) → Option (Int32 × (Nat → Nat → Int32))), (∀ (uX : Nat → Nat → Int32), k57 uX = some (r, wX) → mk_Go p l e (headSpec (mk_ws yX9_channel cX9_channel 2 (some .int)) ({ frames := 9, cells := 0, slots := 0, locals := 249 })).room s m args below meth c D A 2 0 0 (MQ below (mk_Q (some (.int r)) D (wModel aX cI cJ wX uL) A) args s 0 0 A) 57 (wModel aX cI cJ uX uL) [(0, .ref (aX 0))] []) → ∀ (uX : Nat → Nat → Int32), f_X_channel_141 k57 uX = some (r, wX) → mk_Go p l e (headSpec (mk_ws yX9_channel cX9_channel 2 (some .int)) ({ frames := 9, cells := 0, slots := 0, locals := 249 })).room s m args below meth c D A 2 0 0 (MQ below (mk_Q (some (.int r)) D (wModel aX cI cJ wX uL) A) args s 0 0 A) 141 (wModel aX cI cJ uX uL) [(0, .ref (aX 0))] [.ref (aX 0)] := by
    intro k57 hk57 uX hf
    unfold f_X_channel_141 at hf
    refine mk_iconst C (v := 1) dX9_channel_141 (by decide) ?_
    refine mk_goto C 146 dX9_channel_142 (by decide) ?_
    exact mk_lvsub [0] rfl (wL146 _ hk57 _ _ hf)
  have wL125 : ∀ (k57 : (Nat → Nat → Int32) → Option (Int32 × (Nat → Nat → Int32))), (∀ (uX : Nat → Nat → Int32), k57 uX = some (r, wX) → mk_Go p l e (headSpec (mk_ws yX9_channel cX9_channel 2 (some .int)) ({ frames := 9, cells := 0, slots := 0, locals := 249 })).room s m args below meth c D A 2 0 0 (MQ below (mk_Q (some (.int r)) D (wModel aX cI cJ wX uL) A) args s 0 0 A) 57 (wModel aX cI cJ uX uL) [(0, .ref (aX 0))] []) → ∀ (uX : Nat → Nat → Int32), f_X_channel_125 k57 uX = some (r, wX) → mk_Go p l e (headSpec (mk_ws yX9_channel cX9_channel 2 (some .int)) ({ frames := 9, cells := 0, slots := 0, locals := 249 })).room s m args below meth c D A 2 0 0 (MQ below (mk_Q (some (.int r)) D (wModel aX cI cJ wX uL) A) args s 0 0 A) 125 (wModel aX cI cJ uX uL) [(0, .ref (aX 0))] [] := by
    intro k57 hk57 uX hf
    unfold f_X_channel_125 at hf
    refine mk_aload_n C 0 dX9_channel_125 rfl ?_
    refine mk_aload_n C 0 dX9_channel_126 rfl ?_
    refine mk_get C mk_inX9 0 rfl rfl 12 (by decide) mw_914 (v := .int (uX 12 0)) rfl dX9_channel_127 ?_
    refine mk_if_ne C 141 dX9_channel_130 (by decide) (fun c6 => ?_) (fun c6 => ?_)
    · replace hf := (if_neg c6).symm.trans hf
      exact mk_lvsub [0] rfl (wL141 _ hk57 _ hf)
    · replace hf := (if_pos c6).symm.trans hf
      refine mk_aload_n C 0 dX9_channel_133 rfl ?_
      refine mk_get C mk_inX9 0 rfl rfl 10 (by decide) mw_912 (v := .int (uX 10 0)) rfl dX9_channel_134 ?_
      refine mk_iconst C (v := 3) dX9_channel_137 (by decide) ?_
      refine mk_icmp_ne C 145 dX9_channel_138 (by decide) (fun c7 => ?_) (fun c7 => ?_)
      · replace hf := (if_neg c7).symm.trans hf
        refine mk_iconst C (v := 0) dX9_channel_145 (by decide) ?_
        exact mk_lvsub [0] rfl (wL146 _ hk57 _ _ hf)
      · replace hf := (if_pos c7).symm.trans hf
        exact mk_lvsub [0] rfl (wL141 _ hk57 _ hf)
  have wL57 : ∀ (n : Nat) (uX : Nat → Nat → Int32), f_X_channel_57 n uX = some (r, wX) → mk_Go p l e (headSpec (mk_ws yX9_channel cX9_channel 2 (some .int)) ({ frames := 9, cells := 0, slots := 0, locals := 249 })).room s m args below meth c D A 2 0 0 (MQ below (mk_Q (some (.int r)) D (wModel aX cI cJ wX uL) A) args s 0 0 A) 57 (wModel aX cI cJ uX uL) [(0, .ref (aX 0))] [] := by
    intro  n
    induction n with
    | zero => intro uX hf; exact nomatch (show (none : Option (Int32 × (Nat → Nat → Int32))) = some _ from hf)
    | succ n ih =>
      intro uX hf
      rw [f_X_channel_57] at hf
      refine mk_aload_n C 0 dX9_channel_57 rfl ?_
      refine mk_get C mk_inX9 0 rfl rfl 12 (by decide) mw_914 (v := .int (uX 12 0)) rfl dX9_channel_58 ?_
      refine mk_if_ne C 163 dX9_channel_61 (by decide) (fun c8 => ?_) (fun c8 => ?_)
      · replace hf := (if_neg c8).symm.trans hf
        exact mk_lvsub [0] rfl (wL163 _ hf)
      · replace hf := (if_pos c8).symm.trans hf
        refine mk_aload_n C 0 dX9_channel_64 rfl ?_
        refine mk_get C mk_inX9 0 rfl rfl 10 (by decide) mw_912 (v := .int (uX 10 0)) rfl dX9_channel_65 ?_
        refine mk_if_eq C 163 dX9_channel_68 (by decide) (fun c9 => ?_) (fun c9 => ?_)
        · replace hf := (if_pos c9).symm.trans hf
          exact mk_lvsub [0] rfl (wL163 _ hf)
        · replace hf := (if_neg c9).symm.trans hf
          refine mk_aload_n C 0 dX9_channel_71 rfl ?_
          refine mk_get C mk_inX9 0 rfl rfl 0 (by decide) mw_902 (v := .ref (aX 1)) rfl dX9_channel_72 ?_
          refine mk_bipush C (v := 6) dX9_channel_75 (by decide) ?_
          refine mk_iald C 1 0 (f := (uX 0)) rfl rfl (mk_vi (by decide)) (j := 6) (by decide) dX9_channel_77 ?_
          refine mk_if_ne C 88 dX9_channel_78 (by decide) (fun c10 => ?_) (fun c10 => ?_)
          · replace hf := (if_neg c10).symm.trans hf
            refine mk_aload_n C 0 dX9_channel_88 rfl ?_
            refine mk_ldcS C (k := 5) (List.mem_of_getElem? (i := 18) rfl) dX9_channel_89 ?_
            obtain ⟨r11, h12, hf⟩ := b1_some hf
            refine mk_callVi C (c_X_isWord l D cI cJ X Y aX uX uL 5 (by decide) r11 h12) mw_1074 mw_1076 mw_s3 mw_10 mw_1077 mkn_X9_isWord rfl ⟨Nat.le_of_ble_eq_true rfl, Nat.le_of_ble_eq_true rfl⟩ 0 rfl rfl rfl (mk_Fr.all _ _) (Nat.le_of_ble_eq_true rfl) dX9_channel_91 rfl ?_
            refine mk_if_eq C 104 dX9_channel_94 (by decide) (fun c13 => ?_) (fun c13 => ?_)
            · replace hf := (if_pos c13).symm.trans hf
              refine mk_aload_n C 0 dX9_channel_104 rfl ?_
              refine mk_ldcS C (k := 8) (List.mem_of_getElem? (i := 21) rfl) dX9_channel_105 ?_
              obtain ⟨r14, h15, hf⟩ := b1_some hf
              refine mk_callVi C (c_X_isWord l D cI cJ X Y aX uX uL 8 (by decide) r14 h15) mw_1074 mw_1076 mw_s3 mw_10 mw_1077 mkn_X9_isWord rfl ⟨Nat.le_of_ble_eq_true rfl, Nat.le_of_ble_eq_true rfl⟩ 0 rfl rfl rfl (mk_Fr.all _ _) (Nat.le_of_ble_eq_true rfl) dX9_channel_107 rfl ?_
              refine mk_if_eq C 120 dX9_channel_110 (by decide) (fun c16 => ?_) (fun c16 => ?_)
              · replace hf := (if_pos c16).symm.trans hf
                refine mk_aload_n C 0 dX9_channel_120 rfl ?_
                refine mk_iconst C (v := 1) dX9_channel_121 (by decide) ?_
                obtain ⟨uX_17, h18, hf⟩ := b1_some hf
                refine mk_callVv C (c_X_faults l D cI cJ X Y aX uX uL 1 uX_17 h18) mw_1084 mw_1086 mw_s5 mw_10 mw_1087 mkn_X9_faults rfl ⟨Nat.le_of_ble_eq_true rfl, Nat.le_of_ble_eq_true rfl⟩ 0 rfl rfl rfl (mk_Fr.all _ _) (Nat.le_of_ble_eq_true rfl) dX9_channel_122 rfl ?_
                exact mk_lvsub [0] rfl (wL125 _ ih _ hf)
              · replace hf := (if_neg c16).symm.trans hf
                refine mk_aload_n C 0 dX9_channel_113 rfl ?_
                obtain ⟨uX_19, h20, hf⟩ := b1_some hf
                refine mk_callVv C (c_X_readsNoise l D cI cJ X Y aX uX uL uX_19 h20) mw_1108 mw_1110 mw_s9 mw_10 mw_1111 mkn_X9_readsNoise rfl ⟨Nat.le_of_ble_eq_true rfl, Nat.le_of_ble_eq_true rfl⟩ 0 rfl rfl rfl (mk_Fr.all _ _) (Nat.le_of_ble_eq_true rfl) dX9_channel_114 rfl ?_
                refine mk_goto C 125 dX9_channel_117 (by decide) ?_
                exact mk_lvsub [0] rfl (wL125 _ ih _ hf)
            · replace hf := (if_neg c13).symm.trans hf
              refine mk_aload_n C 0 dX9_channel_97 rfl ?_
              obtain ⟨uX_21, h22, hf⟩ := b1_some hf
              refine mk_callVv C (c_X_readsSender l D cI cJ X Y aX uX uL uX_21 h22) mw_1101 mw_1103 mw_s8 mw_10 mw_1104 mkn_X9_readsSender rfl ⟨Nat.le_of_ble_eq_true rfl, Nat.le_of_ble_eq_true rfl⟩ 0 rfl rfl rfl (mk_Fr.all _ _) (Nat.le_of_ble_eq_true rfl) dX9_channel_98 rfl ?_
              refine mk_goto C 125 dX9_channel_101 (by decide) ?_
              exact mk_lvsub [0] rfl (wL125 _ ih _ hf)
          · replace hf := (if_pos c10).symm.trans hf
            refine mk_aload_n C 0 dX9_channel_81 rfl ?_
            obtain ⟨uX_23, h24, hf⟩ := b1_some hf
            refine mk_callVv C (c_X_readsChannel l D cI cJ X Y aX uX uL uX_23 h24) mw_1069 mw_1071 mw_s2 mw_10 mw_1072 mkn_X9_readsChannel rfl ⟨Nat.le_of_ble_eq_true rfl, Nat.le_of_ble_eq_true rfl⟩ 0 rfl rfl rfl (mk_Fr.all _ _) (Nat.le_of_ble_eq_true rfl) dX9_channel_82 rfl ?_
            refine mk_goto C 125 dX9_channel_85 (by decide) ?_
            exact mk_lvsub [0] rfl (wL125 _ ih _ hf)
  have wL2 : ∀ (n : Nat) (v1 : Int32) (uX : Nat → Nat → Int32), f_X_channel_2 n v1 uX = some (r, wX) → mk_Go p l e (headSpec (mk_ws yX9_channel cX9_channel 2 (some .int)) ({ frames := 9, cells := 0, slots := 0, locals := 249 })).room s m args below meth c D A 2 0 0 (MQ below (mk_Q (some (.int r)) D (wModel aX cI cJ wX uL) A) args s 0 0 A) 2 (wModel aX cI cJ uX uL) [(0, .ref (aX 0)), (1, .int v1)] [] := by
    intro  n
    induction n with
    | zero => intro v1 uX hf; exact nomatch (show (none : Option (Int32 × (Nat → Nat → Int32))) = some _ from hf)
    | succ n ih =>
      intro v1 uX hf
      rw [f_X_channel_2] at hf
      refine mk_iload_n C 1 dX9_channel_2 rfl ?_
      refine mk_bipush C (v := 57) dX9_channel_3 (by decide) ?_
      refine mk_icmp_ge C 33 dX9_channel_5 (by decide) (fun c25 => ?_) (fun c25 => ?_)
      · replace hf := (if_pos c25).symm.trans hf
        refine mk_aload_n C 0 dX9_channel_33 rfl ?_
        refine mk_iconst C (v := 0) dX9_channel_34 (by decide) ?_
        refine mk_put C mk_inX9 tyX9 tyX9_ok nmX9 0 rfl rfl 8 (by decide) mw_910 rfl rfl rfl (Nat.le_of_ble_eq_true rfl) (ws' := (wModel aX cI cJ (upF 8 0 uX) uL)) (st_X_X_8 cI cJ aX uX uL 0) dX9_channel_35 ?_
        refine mk_aload_n C 0 dX9_channel_38 rfl ?_
        refine mk_iconst C (v := 0) dX9_channel_39 (by decide) ?_
        refine mk_put C mk_inX9 tyX9 tyX9_ok nmX9 0 rfl rfl 12 (by decide) mw_914 rfl rfl rfl (Nat.le_of_ble_eq_true rfl) (ws' := (wModel aX cI cJ (upF 12 0 (upF 8 0 uX)) uL)) (st_X_X_12 cI cJ aX (upF 8 0 uX) uL 0) dX9_channel_40 ?_
        refine mk_aload_n C 0 dX9_channel_43 rfl ?_
        refine mk_iconst C (v := 0) dX9_channel_44 (by decide) ?_
        refine mk_put C mk_inX9 tyX9 tyX9_ok nmX9 0 rfl rfl 13 (by decide) mw_915 rfl rfl rfl (Nat.le_of_ble_eq_true rfl) (ws' := (wModel aX cI cJ (upF 13 0 (upF 12 0 (upF 8 0 uX))) uL)) (st_X_X_13 cI cJ aX (upF 12 0 (upF 8 0 uX)) uL 0) dX9_channel_45 ?_
        refine mk_aload_n C 0 dX9_channel_48 rfl ?_
        refine mk_iconst C (v := (-1)) dX9_channel_49 (by decide) ?_
        refine mk_put C mk_inX9 tyX9 tyX9_ok nmX9 0 rfl rfl 14 (by decide) mw_916 rfl rfl rfl (Nat.le_of_ble_eq_true rfl) (ws' := (wModel aX cI cJ (upF 14 (-1) (upF 13 0 (upF 12 0 (upF 8 0 uX)))) uL)) (st_X_X_14 cI cJ aX (upF 13 0 (upF 12 0 (upF 8 0 uX))) uL (-1)) dX9_channel_50 ?_
        refine mk_aload_n C 0 dX9_channel_53 rfl ?_
        obtain ⟨uX_26, h27, hf⟩ := b1_some hf
        refine mk_callVv C (c_X_next l D cI cJ X Y aX (upF 14 (-1) (upF 13 0 (upF 12 0 (upF 8 0 uX)))) uL uX_26 h27) mw_1059 mw_1061 mw_s0 mw_10 mw_1062 mkn_X9_next rfl ⟨Nat.le_of_ble_eq_true rfl, Nat.le_of_ble_eq_true rfl⟩ 0 rfl rfl rfl (mk_Fr.all _ _) (Nat.le_of_ble_eq_true rfl) dX9_channel_54 rfl ?_
        exact mk_lvsub [0] rfl (wL57 600 _ hf)
      · replace hf := (if_neg c25).symm.trans hf
        refine mk_aload_n C 0 dX9_channel_8 rfl ?_
        refine mk_get C mk_inX9 0 rfl rfl 1 (by decide) mw_903 (v := .ref (aX 2)) rfl dX9_channel_9 ?_
        refine mk_iload_n C 1 dX9_channel_12 rfl ?_
        refine mk_aload_n C 0 dX9_channel_13 rfl ?_
        refine mk_get C mk_inX9 0 rfl rfl 0 (by decide) mw_902 (v := .ref (aX 1)) rfl dX9_channel_14 ?_
        refine mk_iload_n C 1 dX9_channel_17 rfl ?_
        obtain ⟨g28, hf⟩ := gI_some hf
        refine mk_iald C 1 0 (f := (uX 0)) rfl rfl g28 (j := (v1 : Int32).toNatClampNeg) rfl dX9_channel_18 ?_
        refine mk_iast C 2 0 (f := (uX 1)) rfl rfl g28 (j := (v1 : Int32).toNatClampNeg) rfl (ws' := (wModel aX cI cJ (upR 1 (upd (uX 1) (v1 : Int32).toNatClampNeg ((uX 0) (v1 : Int32).toNatClampNeg)) uX) uL)) (st_X_X_1 cI cJ aX uX uL (upd (uX 1) (v1 : Int32).toNatClampNeg ((uX 0) (v1 : Int32).toNatClampNeg))) dX9_channel_19 ?_
        refine mk_aload_n C 0 dX9_channel_20 rfl ?_
        refine mk_get C mk_inX9 0 rfl rfl 0 (by decide) mw_902 (v := .ref (aX 1)) rfl dX9_channel_21 ?_
        refine mk_iload_n C 1 dX9_channel_24 rfl ?_
        refine mk_iconst C (v := 0) dX9_channel_25 (by decide) ?_
        refine mk_iast C 1 0 (f := (uX 0)) rfl rfl g28 (j := (v1 : Int32).toNatClampNeg) rfl (ws' := (wModel aX cI cJ (upR 0 (upd (uX 0) (v1 : Int32).toNatClampNeg 0) (upR 1 (upd (uX 1) (v1 : Int32).toNatClampNeg ((uX 0) (v1 : Int32).toNatClampNeg)) uX)) uL)) (st_X_X_0 cI cJ aX (upR 1 (upd (uX 1) (v1 : Int32).toNatClampNeg ((uX 0) (v1 : Int32).toNatClampNeg)) uX) uL (upd (uX 0) (v1 : Int32).toNatClampNeg 0)) dX9_channel_26 ?_
        refine mk_iinc C (v := (v1 + 1)) (lv' := [(1, .int (v1 + 1)), (0, .ref (aX 0))]) 1 dX9_channel_27 rfl rfl (by decide) rfl ?_
        refine mk_goto C 2 dX9_channel_30 (by decide) ?_
        exact mk_lvsub [1, 0] rfl (ih _ _ hf)
  show mk_Go p l e (headSpec (mk_ws yX9_channel cX9_channel 2 (some .int)) ({ frames := 9, cells := 0, slots := 0, locals := 249 })).room s m args below meth c D A 2 0 0 (MQ below (mk_Q (some (.int r)) D (wModel aX cI cJ wX uL) A) args s 0 0 A) 0 (wModel aX cI cJ uX uL) [(0, .ref (aX 0))] []
  unfold f_X_channel at hf
  refine mk_iconst C (v := 0) dX9_channel_0 (by decide) ?_
  refine mk_istore_n C (lv' := [(1, .int 0), (0, .ref (aX 0))]) dX9_channel_1 (by decide) rfl ?_
  exact mk_lvsub [1, 0] rfl (wL2 600 _ _ hf)
set_option maxHeartbeats 40000000 in
set_option maxRecDepth 100000 in
theorem c_X_fault (l : Launch) (D : va_G) (cI cJ : ClassId) (X Y : Nat → Nat) (aX : Nat → Nat) (uX : Nat → Nat → Int32) (uL : Nat → Nat → Int64) (p1 : Int32) (r : Int32) (hf : f_X_fault uX p1 = some r) : mk_Met l yX9_fault cX9_fault 2 (some .int) ({ frames := 0, cells := 0, slots := 0, locals := 0 }) D [(cI, .int), (cJ, .long)] X Y [.ref (aX 0), .int p1] (wModel aX cI cJ uX uL) (wModel aX cI cJ uX uL) (some (.int r)) 0 0 := by
  refine mk_start (own := RX9) (by decide) rfl (Nat.le_of_ble_eq_true rfl) ?_
  intro sz p e s m args below meth c A C hr hlk hnm
  replace C : mk_Cx p s m args c cX9_fault 2 RX9 D [(cI, .int), (cJ, .long)] X Y A := C
  show mk_Go p l e (headSpec (mk_ws yX9_fault cX9_fault 2 (some .int)) ({ frames := 0, cells := 0, slots := 0, locals := 0 })).room s m args below meth c D A 2 0 0 (MQ below (mk_Q (some (.int r)) D (wModel aX cI cJ uX uL) A) args s 0 0 A) 0 (wModel aX cI cJ uX uL) [(0, .ref (aX 0)), (1, .int p1)] []
  unfold f_X_fault at hf
  refine mk_iload_n C 1 dX9_fault_0 rfl ?_
  refine mk_if_ne C 11 dX9_fault_1 (by decide) (fun c1 => ?_) (fun c1 => ?_)
  · replace hf := (if_neg c1).symm.trans hf
    refine mk_iload_n C 1 dX9_fault_11 rfl ?_
    refine mk_iconst C (v := 1) dX9_fault_12 (by decide) ?_
    refine mk_icmp_ne C 23 dX9_fault_13 (by decide) (fun c2 => ?_) (fun c2 => ?_)
    · replace hf := (if_neg c2).symm.trans hf
      refine mk_iconst C (v := (-1)) dX9_fault_23 (by decide) ?_
      have e0 := Option.some.inj hf
      exact mk_iret C hr hlk e0 rfl dX9_fault_24
    · replace hf := (if_pos c2).symm.trans hf
      refine mk_aload_n C 0 dX9_fault_16 rfl ?_
      refine mk_get C mk_inX9 0 rfl rfl 7 (by decide) mw_909 (v := .int (uX 7 0)) rfl dX9_fault_17 ?_
      refine mk_goto C 24 dX9_fault_20 (by decide) ?_
      have e0 := Option.some.inj hf
      exact mk_iret C hr hlk e0 rfl dX9_fault_24
  · replace hf := (if_pos c1).symm.trans hf
    refine mk_aload_n C 0 dX9_fault_4 rfl ?_
    refine mk_get C mk_inX9 0 rfl rfl 6 (by decide) mw_908 (v := .int (uX 6 0)) rfl dX9_fault_5 ?_
    refine mk_goto C 24 dX9_fault_8 (by decide) ?_
    have e0 := Option.some.inj hf
    exact mk_iret C hr hlk e0 rfl dX9_fault_24
set_option maxHeartbeats 40000000 in
set_option maxRecDepth 100000 in
theorem c_X_is (l : Launch) (D : va_G) (cI cJ : ClassId) (X Y : Nat → Nat) (aX : Nat → Nat) (uX : Nat → Nat → Int32) (uL : Nat → Nat → Int64) (r : Int32) (hf : f_X_is uX = some r) : mk_Met l yX9_is cX9_is 1 (some .boolean) ({ frames := 0, cells := 0, slots := 0, locals := 0 }) D [(cI, .int), (cJ, .long)] X Y [.ref (aX 0)] (wModel aX cI cJ uX uL) (wModel aX cI cJ uX uL) (some (.int r)) 0 0 := by
  refine mk_start (own := RX9) (by decide) rfl (Nat.le_of_ble_eq_true rfl) ?_
  intro sz p e s m args below meth c A C hr hlk hnm
  replace C : mk_Cx p s m args c cX9_is 1 RX9 D [(cI, .int), (cJ, .long)] X Y A := C
  show mk_Go p l e (headSpec (mk_ws yX9_is cX9_is 1 (some .boolean)) ({ frames := 0, cells := 0, slots := 0, locals := 0 })).room s m args below meth c D A 1 0 0 (MQ below (mk_Q (some (.int r)) D (wModel aX cI cJ uX uL) A) args s 0 0 A) 0 (wModel aX cI cJ uX uL) [(0, .ref (aX 0))] []
  unfold f_X_is at hf
  refine mk_aload_n C 0 dX9_is_0 rfl ?_
  refine mk_get C mk_inX9 0 rfl rfl 0 (by decide) mw_902 (v := .ref (aX 1)) rfl dX9_is_1 ?_
  refine mk_bipush C (v := 6) dX9_is_4 (by decide) ?_
  refine mk_iald C 1 0 (f := (uX 0)) rfl rfl (mk_vi (by decide)) (j := 6) (by decide) dX9_is_6 ?_
  refine mk_if_le C 14 dX9_is_7 (by decide) (fun c1 => ?_) (fun c1 => ?_)
  · replace hf := (if_pos c1).symm.trans hf
    refine mk_iconst C (v := 0) dX9_is_14 (by decide) ?_
    have e0 := Option.some.inj hf
    exact mk_zret C hr hlk rfl e0 rfl dX9_is_15
  · replace hf := (if_neg c1).symm.trans hf
    refine mk_iconst C (v := 1) dX9_is_10 (by decide) ?_
    refine mk_goto C 15 dX9_is_11 (by decide) ?_
    have e0 := Option.some.inj hf
    exact mk_zret C hr hlk rfl e0 rfl dX9_is_15
set_option maxHeartbeats 40000000 in
set_option maxRecDepth 100000 in
theorem c_X_isSender (l : Launch) (D : va_G) (cI cJ : ClassId) (X Y : Nat → Nat) (aX : Nat → Nat) (uX : Nat → Nat → Int32) (uL : Nat → Nat → Int64) (p1 : Int32) (r : Int32) (hf : f_X_isSender uX p1 = some r) : mk_Met l yX9_isSender cX9_isSender 2 (some .boolean) ({ frames := 1, cells := 0, slots := 0, locals := 25 }) D [(cI, .int), (cJ, .long)] X Y [.ref (aX 0), .int p1] (wModel aX cI cJ uX uL) (wModel aX cI cJ uX uL) (some (.int r)) 0 0 := by
  refine mk_start (own := RX9) (by decide) rfl (Nat.le_of_ble_eq_true rfl) ?_
  intro sz p e s m args below meth c A C hr hlk hnm
  replace C : mk_Cx p s m args c cX9_isSender 2 RX9 D [(cI, .int), (cJ, .long)] X Y A := C
  show mk_Go p l e (headSpec (mk_ws yX9_isSender cX9_isSender 2 (some .boolean)) ({ frames := 1, cells := 0, slots := 0, locals := 25 })).room s m args below meth c D A 2 0 0 (MQ below (mk_Q (some (.int r)) D (wModel aX cI cJ uX uL) A) args s 0 0 A) 0 (wModel aX cI cJ uX uL) [(0, .ref (aX 0)), (1, .int p1)] []
  unfold f_X_isSender at hf
  refine mk_iload_n C 1 dX9_isSender_0 rfl ?_
  refine mk_i2l C dX9_isSender_1 ?_
  refine mk_lconst C (v := 0) dX9_isSender_2 (by decide) ?_
  refine mk_aload_n C 0 dX9_isSender_3 rfl ?_
  refine mk_get C mk_inX9 0 rfl rfl 0 (by decide) mw_902 (v := .ref (aX 1)) rfl dX9_isSender_4 ?_
  refine mk_iconst C (v := 4) dX9_isSender_7 (by decide) ?_
  refine mk_iald C 1 0 (f := (uX 0)) rfl rfl (mk_vi (by decide)) (j := 4) (by decide) dX9_isSender_8 ?_
  refine mk_iconst C (v := 1) dX9_isSender_9 (by decide) ?_
  refine mk_isub C dX9_isSender_10 ?_
  refine mk_i2l C dX9_isSender_11 ?_
  obtain ⟨r1, h2, hf⟩ := b1_some hf
  refine mk_callSi C (c_X_in l D cI cJ X Y ((p1 : Int32).toInt64) 0 (((((uX 0) 4) - 1) : Int32).toInt64) r1 h2) mw_1052 mw_1053 mw_10 mw_1054 mkn_X9_in rfl ⟨Nat.le_of_ble_eq_true rfl, Nat.le_of_ble_eq_true rfl⟩ (mk_Fr.nil _) (Nat.le_of_ble_eq_true rfl) dX9_isSender_12 rfl ?_
  obtain ⟨g3, hf⟩ := gZ_some hf
  have e0 := Option.some.inj hf
  exact mk_zret C hr hlk (mk_nz g3) e0 rfl dX9_isSender_15
set_option maxHeartbeats 40000000 in
set_option maxRecDepth 100000 in
theorem c_X_count (l : Launch) (D : va_G) (cI cJ : ClassId) (X Y : Nat → Nat) (aX : Nat → Nat) (uX : Nat → Nat → Int32) (uL : Nat → Nat → Int64) (p1 : Int32) (r : Int32) (hf : f_X_count uX p1 = some r) : mk_Met l yX9_count cX9_count 2 (some .int) ({ frames := 0, cells := 0, slots := 0, locals := 0 }) D [(cI, .int), (cJ, .long)] X Y [.ref (aX 0), .int p1] (wModel aX cI cJ uX uL) (wModel aX cI cJ uX uL) (some (.int r)) 0 0 := by
  refine mk_start (own := RX9) (by decide) rfl (Nat.le_of_ble_eq_true rfl) ?_
  intro sz p e s m args below meth c A C hr hlk hnm
  replace C : mk_Cx p s m args c cX9_count 2 RX9 D [(cI, .int), (cJ, .long)] X Y A := C
  show mk_Go p l e (headSpec (mk_ws yX9_count cX9_count 2 (some .int)) ({ frames := 0, cells := 0, slots := 0, locals := 0 })).room s m args below meth c D A 2 0 0 (MQ below (mk_Q (some (.int r)) D (wModel aX cI cJ uX uL) A) args s 0 0 A) 0 (wModel aX cI cJ uX uL) [(0, .ref (aX 0)), (1, .int p1)] []
  unfold f_X_count at hf
  refine mk_iload_n C 1 dX9_count_0 rfl ?_
  by_cases c1 : p1 = 0
  · replace hf := (if_pos c1).symm.trans hf
    refine mk_tableIn C 52 c1 dX9_count_1 (by decide) (by decide) rfl (by decide) ?_
    refine mk_aload_n C 0 dX9_count_52 rfl ?_
    refine mk_get C mk_inX9 0 rfl rfl 0 (by decide) mw_902 (v := .ref (aX 1)) rfl dX9_count_53 ?_
    refine mk_iload_n C 1 dX9_count_56 rfl ?_
    obtain ⟨g2, hf⟩ := gI_some hf
    refine mk_iald C 1 0 (f := (uX 0)) rfl rfl g2 (j := (p1 : Int32).toNatClampNeg) rfl dX9_count_57 ?_
    have e0 := Option.some.inj hf
    exact mk_iret C hr hlk e0 rfl dX9_count_58
  · replace hf := (if_neg c1).symm.trans hf
    by_cases c3 : p1 = 1
    · replace hf := (if_pos c3).symm.trans hf
      refine mk_tableIn C 52 c3 dX9_count_1 (by decide) (by decide) rfl (by decide) ?_
      refine mk_aload_n C 0 dX9_count_52 rfl ?_
      refine mk_get C mk_inX9 0 rfl rfl 0 (by decide) mw_902 (v := .ref (aX 1)) rfl dX9_count_53 ?_
      refine mk_iload_n C 1 dX9_count_56 rfl ?_
      obtain ⟨g4, hf⟩ := gI_some hf
      refine mk_iald C 1 0 (f := (uX 0)) rfl rfl g4 (j := (p1 : Int32).toNatClampNeg) rfl dX9_count_57 ?_
      have e0 := Option.some.inj hf
      exact mk_iret C hr hlk e0 rfl dX9_count_58
    · replace hf := (if_neg c3).symm.trans hf
      by_cases c5 : p1 = 2
      · replace hf := (if_pos c5).symm.trans hf
        refine mk_tableIn C 52 c5 dX9_count_1 (by decide) (by decide) rfl (by decide) ?_
        refine mk_aload_n C 0 dX9_count_52 rfl ?_
        refine mk_get C mk_inX9 0 rfl rfl 0 (by decide) mw_902 (v := .ref (aX 1)) rfl dX9_count_53 ?_
        refine mk_iload_n C 1 dX9_count_56 rfl ?_
        obtain ⟨g6, hf⟩ := gI_some hf
        refine mk_iald C 1 0 (f := (uX 0)) rfl rfl g6 (j := (p1 : Int32).toNatClampNeg) rfl dX9_count_57 ?_
        have e0 := Option.some.inj hf
        exact mk_iret C hr hlk e0 rfl dX9_count_58
      · replace hf := (if_neg c5).symm.trans hf
        by_cases c7 : p1 = 3
        · replace hf := (if_pos c7).symm.trans hf
          refine mk_tableIn C 52 c7 dX9_count_1 (by decide) (by decide) rfl (by decide) ?_
          refine mk_aload_n C 0 dX9_count_52 rfl ?_
          refine mk_get C mk_inX9 0 rfl rfl 0 (by decide) mw_902 (v := .ref (aX 1)) rfl dX9_count_53 ?_
          refine mk_iload_n C 1 dX9_count_56 rfl ?_
          obtain ⟨g8, hf⟩ := gI_some hf
          refine mk_iald C 1 0 (f := (uX 0)) rfl rfl g8 (j := (p1 : Int32).toNatClampNeg) rfl dX9_count_57 ?_
          have e0 := Option.some.inj hf
          exact mk_iret C hr hlk e0 rfl dX9_count_58
        · replace hf := (if_neg c7).symm.trans hf
          by_cases c9 : p1 = 4
          · replace hf := (if_pos c9).symm.trans hf
            refine mk_tableIn C 52 c9 dX9_count_1 (by decide) (by decide) rfl (by decide) ?_
            refine mk_aload_n C 0 dX9_count_52 rfl ?_
            refine mk_get C mk_inX9 0 rfl rfl 0 (by decide) mw_902 (v := .ref (aX 1)) rfl dX9_count_53 ?_
            refine mk_iload_n C 1 dX9_count_56 rfl ?_
            obtain ⟨g10, hf⟩ := gI_some hf
            refine mk_iald C 1 0 (f := (uX 0)) rfl rfl g10 (j := (p1 : Int32).toNatClampNeg) rfl dX9_count_57 ?_
            have e0 := Option.some.inj hf
            exact mk_iret C hr hlk e0 rfl dX9_count_58
          · replace hf := (if_neg c9).symm.trans hf
            by_cases c11 : p1 = 5
            · replace hf := (if_pos c11).symm.trans hf
              refine mk_tableIn C 52 c11 dX9_count_1 (by decide) (by decide) rfl (by decide) ?_
              refine mk_aload_n C 0 dX9_count_52 rfl ?_
              refine mk_get C mk_inX9 0 rfl rfl 0 (by decide) mw_902 (v := .ref (aX 1)) rfl dX9_count_53 ?_
              refine mk_iload_n C 1 dX9_count_56 rfl ?_
              obtain ⟨g12, hf⟩ := gI_some hf
              refine mk_iald C 1 0 (f := (uX 0)) rfl rfl g12 (j := (p1 : Int32).toNatClampNeg) rfl dX9_count_57 ?_
              have e0 := Option.some.inj hf
              exact mk_iret C hr hlk e0 rfl dX9_count_58
            · replace hf := (if_neg c11).symm.trans hf
              by_cases c13 : p1 = 6
              · replace hf := (if_pos c13).symm.trans hf
                refine mk_tableIn C 59 c13 dX9_count_1 (by decide) (by decide) rfl (by decide) ?_
                refine mk_aload_n C 0 dX9_count_59 rfl ?_
                refine mk_get C mk_inX9 0 rfl rfl 3 (by decide) mw_905 (v := .int (uX 3 0)) rfl dX9_count_60 ?_
                have e0 := Option.some.inj hf
                exact mk_iret C hr hlk e0 rfl dX9_count_63
              · replace hf := (if_neg c13).symm.trans hf
                by_cases c14 : p1 = 7
                · replace hf := (if_pos c14).symm.trans hf
                  refine mk_tableIn C 64 c14 dX9_count_1 (by decide) (by decide) rfl (by decide) ?_
                  refine mk_aload_n C 0 dX9_count_64 rfl ?_
                  refine mk_get C mk_inX9 0 rfl rfl 0 (by decide) mw_902 (v := .ref (aX 1)) rfl dX9_count_65 ?_
                  refine mk_bipush C (v := 6) dX9_count_68 (by decide) ?_
                  refine mk_iald C 1 0 (f := (uX 0)) rfl rfl (mk_vi (by decide)) (j := 6) (by decide) dX9_count_70 ?_
                  have e0 := Option.some.inj hf
                  exact mk_iret C hr hlk e0 rfl dX9_count_71
                · replace hf := (if_neg c14).symm.trans hf
                  by_cases c15 : p1 = 8
                  · replace hf := (if_pos c15).symm.trans hf
                    refine mk_tableIn C 72 c15 dX9_count_1 (by decide) (by decide) rfl (by decide) ?_
                    refine mk_aload_n C 0 dX9_count_72 rfl ?_
                    refine mk_get C mk_inX9 0 rfl rfl 5 (by decide) mw_907 (v := .int (uX 5 0)) rfl dX9_count_73 ?_
                    have e0 := Option.some.inj hf
                    exact mk_iret C hr hlk e0 rfl dX9_count_76
                  · replace hf := (if_neg c15).symm.trans hf
                    refine mk_tableOut C 77 dX9_count_1 (by have e0 := mk_ne c1 (k := 0) (by decide); have e1 := mk_ne c3 (k := 1) (by decide); have e2 := mk_ne c5 (k := 2) (by decide); have e3 := mk_ne c7 (k := 3) (by decide); have e4 := mk_ne c9 (k := 4) (by decide); have e5 := mk_ne c11 (k := 5) (by decide); have e6 := mk_ne c13 (k := 6) (by decide); have e7 := mk_ne c14 (k := 7) (by decide); have e8 := mk_ne c15 (k := 8) (by decide); omega) (by decide) ?_
                    refine mk_iconst C (v := (-1)) dX9_count_77 (by decide) ?_
                    have e0 := Option.some.inj hf
                    exact mk_iret C hr hlk e0 rfl dX9_count_78
set_option maxHeartbeats 40000000 in
set_option maxRecDepth 100000 in
theorem c_X_bitOf (l : Launch) (D : va_G) (cI cJ : ClassId) (X Y : Nat → Nat) (aX : Nat → Nat) (uX : Nat → Nat → Int32) (uL : Nat → Nat → Int64) (p1 : Int32) (p2 : Int32) (r : Int32) (hf : f_X_bitOf uX p1 p2 = some r) : mk_Met l yX9_bitOf cX9_bitOf 3 (some .int) ({ frames := 0, cells := 0, slots := 0, locals := 0 }) D [(cI, .int), (cJ, .long)] X Y [.ref (aX 0), .int p1, .int p2] (wModel aX cI cJ uX uL) (wModel aX cI cJ uX uL) (some (.int r)) 0 0 := by
  refine mk_start (own := RX9) (by decide) rfl (Nat.le_of_ble_eq_true rfl) ?_
  intro sz p e s m args below meth c A C hr hlk hnm
  replace C : mk_Cx p s m args c cX9_bitOf 3 RX9 D [(cI, .int), (cJ, .long)] X Y A := C
  show mk_Go p l e (headSpec (mk_ws yX9_bitOf cX9_bitOf 3 (some .int)) ({ frames := 0, cells := 0, slots := 0, locals := 0 })).room s m args below meth c D A 3 0 0 (MQ below (mk_Q (some (.int r)) D (wModel aX cI cJ uX uL) A) args s 0 0 A) 0 (wModel aX cI cJ uX uL) [(0, .ref (aX 0)), (1, .int p1), (2, .int p2)] []
  unfold f_X_bitOf at hf
  refine mk_aload_n C 0 dX9_bitOf_0 rfl ?_
  refine mk_get C mk_inX9 0 rfl rfl 0 (by decide) mw_902 (v := .ref (aX 1)) rfl dX9_bitOf_1 ?_
  refine mk_bipush C (v := 27) dX9_bitOf_4 (by decide) ?_
  refine mk_iload_n C 1 dX9_bitOf_6 rfl ?_
  refine mk_iadd C dX9_bitOf_7 ?_
  obtain ⟨g1, hf⟩ := gI_some hf
  refine mk_iald C 1 0 (f := (uX 0)) rfl rfl g1 (j := ((27 + p1) : Int32).toNatClampNeg) rfl dX9_bitOf_8 ?_
  refine mk_aload_n C 0 dX9_bitOf_9 rfl ?_
  refine mk_get C mk_inX9 0 rfl rfl 0 (by decide) mw_902 (v := .ref (aX 1)) rfl dX9_bitOf_10 ?_
  refine mk_bipush C (v := 17) dX9_bitOf_13 (by decide) ?_
  refine mk_iload_n C 1 dX9_bitOf_15 rfl ?_
  refine mk_iadd C dX9_bitOf_16 ?_
  obtain ⟨g2, hf⟩ := gI_some hf
  refine mk_iald C 1 0 (f := (uX 0)) rfl rfl g2 (j := ((17 + p1) : Int32).toNatClampNeg) rfl dX9_bitOf_17 ?_
  refine mk_iconst C (v := 1) dX9_bitOf_18 (by decide) ?_
  refine mk_isub C dX9_bitOf_19 ?_
  refine mk_iload_n C 2 dX9_bitOf_20 rfl ?_
  refine mk_aload_n C 0 dX9_bitOf_21 rfl ?_
  refine mk_get C mk_inX9 0 rfl rfl 0 (by decide) mw_902 (v := .ref (aX 1)) rfl dX9_bitOf_22 ?_
  refine mk_bipush C (v := 17) dX9_bitOf_25 (by decide) ?_
  refine mk_iload_n C 1 dX9_bitOf_27 rfl ?_
  refine mk_iadd C dX9_bitOf_28 ?_
  refine mk_iald C 1 0 (f := (uX 0)) rfl rfl g2 (j := ((17 + p1) : Int32).toNatClampNeg) rfl dX9_bitOf_29 ?_
  obtain ⟨g3, hf⟩ := gN_some hf
  refine mk_irem C dX9_bitOf_30 g3 ?_
  refine mk_isub C dX9_bitOf_31 ?_
  refine mk_ishr C dX9_bitOf_32 ?_
  refine mk_iconst C (v := 1) dX9_bitOf_33 (by decide) ?_
  refine mk_iand C dX9_bitOf_34 ?_
  have e0 := Option.some.inj hf
  exact mk_iret C hr hlk e0 rfl dX9_bitOf_35
set_option maxHeartbeats 40000000 in
set_option maxRecDepth 100000 in
theorem c_X_sender (l : Launch) (D : va_G) (cI cJ : ClassId) (X Y : Nat → Nat) (aX : Nat → Nat) (uX : Nat → Nat → Int32) (uL : Nat → Nat → Int64) (p1 : Int32) (p2 : Int32) (r : Int32) (hf : f_X_sender uX p1 p2 = some r) : mk_Met l yX9_sender cX9_sender 3 (some .int) ({ frames := 2, cells := 0, slots := 0, locals := 46 }) D [(cI, .int), (cJ, .long)] X Y [.ref (aX 0), .int p1, .int p2] (wModel aX cI cJ uX uL) (wModel aX cI cJ uX uL) (some (.int r)) 0 0 := by
  refine mk_start (own := RX9) (by decide) rfl (Nat.le_of_ble_eq_true rfl) ?_
  intro sz p e s m args below meth c A C hr hlk hnm
  replace C : mk_Cx p s m args c cX9_sender 3 RX9 D [(cI, .int), (cJ, .long)] X Y A := C
  show mk_Go p l e (headSpec (mk_ws yX9_sender cX9_sender 3 (some .int)) ({ frames := 2, cells := 0, slots := 0, locals := 46 })).room s m args below meth c D A 3 0 0 (MQ below (mk_Q (some (.int r)) D (wModel aX cI cJ uX uL) A) args s 0 0 A) 0 (wModel aX cI cJ uX uL) [(0, .ref (aX 0)), (1, .int p1), (2, .int p2)] []
  unfold f_X_sender at hf
  refine mk_aload_n C 0 dX9_sender_0 rfl ?_
  refine mk_iload_n C 1 dX9_sender_1 rfl ?_
  obtain ⟨r1, h2, hf⟩ := b1_some hf
  refine mk_callVi C (c_X_isSender l D cI cJ X Y aX uX uL p1 r1 h2) mw_1132 mw_1134 mw_s11 mw_10 mw_1135 mkn_X9_isSender rfl ⟨Nat.le_of_ble_eq_true rfl, Nat.le_of_ble_eq_true rfl⟩ 0 rfl rfl rfl (mk_Fr.all _ _) (Nat.le_of_ble_eq_true rfl) dX9_sender_2 rfl ?_
  refine mk_if_eq C 20 dX9_sender_5 (by decide) (fun c3 => ?_) (fun c3 => ?_)
  · replace hf := (if_pos c3).symm.trans hf
    refine mk_bipush C (v := (-2)) dX9_sender_20 (by decide) ?_
    have e0 := Option.some.inj hf
    exact mk_iret C hr hlk e0 rfl dX9_sender_22
  · replace hf := (if_neg c3).symm.trans hf
    refine mk_iload_n C 2 dX9_sender_8 rfl ?_
    refine mk_i2l C dX9_sender_9 ?_
    refine mk_lconst C (v := 0) dX9_sender_10 (by decide) ?_
    refine mk_ldc2 C (v := 13) mw_1136 dX9_sender_11 ?_
    obtain ⟨r4, h5, hf⟩ := b1_some hf
    refine mk_callSi C (c_X_in l D cI cJ X Y ((p2 : Int32).toInt64) 0 13 r4 h5) mw_1052 mw_1053 mw_10 mw_1054 mkn_X9_in rfl ⟨Nat.le_of_ble_eq_true rfl, Nat.le_of_ble_eq_true rfl⟩ (mk_Fr.nil _) (Nat.le_of_ble_eq_true rfl) dX9_sender_14 rfl ?_
    refine mk_if_ne C 23 dX9_sender_17 (by decide) (fun c6 => ?_) (fun c6 => ?_)
    · replace hf := (if_neg c6).symm.trans hf
      refine mk_iload_n C 2 dX9_sender_23 rfl ?_
      refine mk_iconst C (v := 2) dX9_sender_24 (by decide) ?_
      refine mk_icmp_ge C 47 dX9_sender_25 (by decide) (fun c7 => ?_) (fun c7 => ?_)
      · replace hf := (if_pos c7).symm.trans hf
        refine mk_iload_n C 2 dX9_sender_47 rfl ?_
        refine mk_iconst C (v := 2) dX9_sender_48 (by decide) ?_
        refine mk_isub C dX9_sender_49 ?_
        refine mk_aload_n C 0 dX9_sender_50 rfl ?_
        refine mk_get C mk_inX9 0 rfl rfl 0 (by decide) mw_902 (v := .ref (aX 1)) rfl dX9_sender_51 ?_
        refine mk_bipush C (v := 17) dX9_sender_54 (by decide) ?_
        refine mk_iload_n C 1 dX9_sender_56 rfl ?_
        refine mk_iadd C dX9_sender_57 ?_
        obtain ⟨g8, hf⟩ := gI_some hf
        refine mk_iald C 1 0 (f := (uX 0)) rfl rfl g8 (j := ((17 + p1) : Int32).toNatClampNeg) rfl dX9_sender_58 ?_
        refine mk_icmp_ge C 73 dX9_sender_59 (by decide) (fun c9 => ?_) (fun c9 => ?_)
        · replace hf := (if_pos c9).symm.trans hf
          refine mk_iconst C (v := (-1)) dX9_sender_73 (by decide) ?_
          have e0 := Option.some.inj hf
          exact mk_iret C hr hlk e0 rfl dX9_sender_74
        · replace hf := (if_neg c9).symm.trans hf
          refine mk_aload_n C 0 dX9_sender_62 rfl ?_
          refine mk_iload_n C 1 dX9_sender_63 rfl ?_
          refine mk_iload_n C 2 dX9_sender_64 rfl ?_
          refine mk_iconst C (v := 2) dX9_sender_65 (by decide) ?_
          refine mk_isub C dX9_sender_66 ?_
          obtain ⟨r10, h11, hf⟩ := b1_some hf
          refine mk_callVi C (c_X_bitOf l D cI cJ X Y aX uX uL p1 (p2 - 2) r10 h11) mw_1137 mw_1139 mw_s12 mw_10 mw_1140 mkn_X9_bitOf rfl ⟨Nat.le_of_ble_eq_true rfl, Nat.le_of_ble_eq_true rfl⟩ 0 rfl rfl rfl (mk_Fr.all _ _) (Nat.le_of_ble_eq_true rfl) dX9_sender_67 rfl ?_
          refine mk_goto C 74 dX9_sender_70 (by decide) ?_
          have e0 := Option.some.inj hf
          exact mk_iret C hr hlk e0 rfl dX9_sender_74
      · replace hf := (if_neg c7).symm.trans hf
        refine mk_aload_n C 0 dX9_sender_28 rfl ?_
        refine mk_get C mk_inX9 0 rfl rfl 0 (by decide) mw_902 (v := .ref (aX 1)) rfl dX9_sender_29 ?_
        refine mk_iload_n C 2 dX9_sender_32 rfl ?_
        refine mk_if_ne C 41 dX9_sender_33 (by decide) (fun c12 => ?_) (fun c12 => ?_)
        · replace hf := (if_neg c12).symm.trans hf
          refine mk_bipush C (v := 17) dX9_sender_41 (by decide) ?_
          refine mk_iload_n C 1 dX9_sender_43 rfl ?_
          refine mk_iadd C dX9_sender_44 ?_
          obtain ⟨g13, hf⟩ := gI_some hf
          refine mk_iald C 1 0 (f := (uX 0)) rfl rfl g13 (j := ((17 + p1) : Int32).toNatClampNeg) rfl dX9_sender_45 ?_
          have e0 := Option.some.inj hf
          exact mk_iret C hr hlk e0 rfl dX9_sender_46
        · replace hf := (if_pos c12).symm.trans hf
          refine mk_bipush C (v := 7) dX9_sender_36 (by decide) ?_
          refine mk_goto C 43 dX9_sender_38 (by decide) ?_
          refine mk_iload_n C 1 dX9_sender_43 rfl ?_
          refine mk_iadd C dX9_sender_44 ?_
          obtain ⟨g14, hf⟩ := gI_some hf
          refine mk_iald C 1 0 (f := (uX 0)) rfl rfl g14 (j := ((7 + p1) : Int32).toNatClampNeg) rfl dX9_sender_45 ?_
          have e0 := Option.some.inj hf
          exact mk_iret C hr hlk e0 rfl dX9_sender_46
    · replace hf := (if_pos c6).symm.trans hf
      refine mk_bipush C (v := (-2)) dX9_sender_20 (by decide) ?_
      have e0 := Option.some.inj hf
      exact mk_iret C hr hlk e0 rfl dX9_sender_22
set_option maxHeartbeats 40000000 in
set_option maxRecDepth 100000 in
theorem c_X_noise (l : Launch) (D : va_G) (cI cJ : ClassId) (X Y : Nat → Nat) (aX : Nat → Nat) (uX : Nat → Nat → Int32) (uL : Nat → Nat → Int64) (p1 : Int32) (p2 : Int32) (r : Int32) (hf : f_X_noise uX p1 p2 = some r) : mk_Met l yX9_noise cX9_noise 3 (some .int) ({ frames := 1, cells := 0, slots := 0, locals := 25 }) D [(cI, .int), (cJ, .long)] X Y [.ref (aX 0), .int p1, .int p2] (wModel aX cI cJ uX uL) (wModel aX cI cJ uX uL) (some (.int r)) 0 0 := by
  refine mk_start (own := RX9) (by decide) rfl (Nat.le_of_ble_eq_true rfl) ?_
  intro sz p e s m args below meth c A C hr hlk hnm
  replace C : mk_Cx p s m args c cX9_noise 3 RX9 D [(cI, .int), (cJ, .long)] X Y A := C
  show mk_Go p l e (headSpec (mk_ws yX9_noise cX9_noise 3 (some .int)) ({ frames := 1, cells := 0, slots := 0, locals := 25 })).room s m args below meth c D A 3 0 0 (MQ below (mk_Q (some (.int r)) D (wModel aX cI cJ uX uL) A) args s 0 0 A) 0 (wModel aX cI cJ uX uL) [(0, .ref (aX 0)), (1, .int p1), (2, .int p2)] []
  unfold f_X_noise at hf
  refine mk_iload_n C 1 dX9_noise_0 rfl ?_
  refine mk_i2l C dX9_noise_1 ?_
  refine mk_lconst C (v := 0) dX9_noise_2 (by decide) ?_
  refine mk_aload_n C 0 dX9_noise_3 rfl ?_
  refine mk_get C mk_inX9 0 rfl rfl 0 (by decide) mw_902 (v := .ref (aX 1)) rfl dX9_noise_4 ?_
  refine mk_iconst C (v := 5) dX9_noise_7 (by decide) ?_
  refine mk_iald C 1 0 (f := (uX 0)) rfl rfl (mk_vi (by decide)) (j := 5) (by decide) dX9_noise_8 ?_
  refine mk_iconst C (v := 1) dX9_noise_9 (by decide) ?_
  refine mk_isub C dX9_noise_10 ?_
  refine mk_i2l C dX9_noise_11 ?_
  obtain ⟨r1, h2, hf⟩ := b1_some hf
  refine mk_callSi C (c_X_in l D cI cJ X Y ((p1 : Int32).toInt64) 0 (((((uX 0) 5) - 1) : Int32).toInt64) r1 h2) mw_1052 mw_1053 mw_10 mw_1054 mkn_X9_in rfl ⟨Nat.le_of_ble_eq_true rfl, Nat.le_of_ble_eq_true rfl⟩ (mk_Fr.nil _) (Nat.le_of_ble_eq_true rfl) dX9_noise_12 rfl ?_
  refine mk_if_eq C 49 dX9_noise_15 (by decide) (fun c3 => ?_) (fun c3 => ?_)
  · replace hf := (if_pos c3).symm.trans hf
    refine mk_bipush C (v := (-2)) dX9_noise_49 (by decide) ?_
    have e0 := Option.some.inj hf
    exact mk_iret C hr hlk e0 rfl dX9_noise_51
  · replace hf := (if_neg c3).symm.trans hf
    refine mk_iload_n C 2 dX9_noise_18 rfl ?_
    refine mk_i2l C dX9_noise_19 ?_
    refine mk_lconst C (v := 0) dX9_noise_20 (by decide) ?_
    refine mk_lconst C (v := 1) dX9_noise_21 (by decide) ?_
    obtain ⟨r4, h5, hf⟩ := b1_some hf
    refine mk_callSi C (c_X_in l D cI cJ X Y ((p2 : Int32).toInt64) 0 1 r4 h5) mw_1052 mw_1053 mw_10 mw_1054 mkn_X9_in rfl ⟨Nat.le_of_ble_eq_true rfl, Nat.le_of_ble_eq_true rfl⟩ (mk_Fr.nil _) (Nat.le_of_ble_eq_true rfl) dX9_noise_22 rfl ?_
    refine mk_if_eq C 49 dX9_noise_25 (by decide) (fun c6 => ?_) (fun c6 => ?_)
    · replace hf := (if_pos c6).symm.trans hf
      refine mk_bipush C (v := (-2)) dX9_noise_49 (by decide) ?_
      have e0 := Option.some.inj hf
      exact mk_iret C hr hlk e0 rfl dX9_noise_51
    · replace hf := (if_neg c6).symm.trans hf
      refine mk_aload_n C 0 dX9_noise_28 rfl ?_
      refine mk_get C mk_inX9 0 rfl rfl 0 (by decide) mw_902 (v := .ref (aX 1)) rfl dX9_noise_29 ?_
      refine mk_iload_n C 2 dX9_noise_32 rfl ?_
      refine mk_if_ne C 41 dX9_noise_33 (by decide) (fun c7 => ?_) (fun c7 => ?_)
      · replace hf := (if_neg c7).symm.trans hf
        refine mk_bipush C (v := 47) dX9_noise_41 (by decide) ?_
        refine mk_iload_n C 1 dX9_noise_43 rfl ?_
        refine mk_iadd C dX9_noise_44 ?_
        obtain ⟨g8, hf⟩ := gI_some hf
        refine mk_iald C 1 0 (f := (uX 0)) rfl rfl g8 (j := ((47 + p1) : Int32).toNatClampNeg) rfl dX9_noise_45 ?_
        refine mk_goto C 51 dX9_noise_46 (by decide) ?_
        have e0 := Option.some.inj hf
        exact mk_iret C hr hlk e0 rfl dX9_noise_51
      · replace hf := (if_pos c7).symm.trans hf
        refine mk_bipush C (v := 37) dX9_noise_36 (by decide) ?_
        refine mk_goto C 43 dX9_noise_38 (by decide) ?_
        refine mk_iload_n C 1 dX9_noise_43 rfl ?_
        refine mk_iadd C dX9_noise_44 ?_
        obtain ⟨g9, hf⟩ := gI_some hf
        refine mk_iald C 1 0 (f := (uX 0)) rfl rfl g9 (j := ((37 + p1) : Int32).toNatClampNeg) rfl dX9_noise_45 ?_
        refine mk_goto C 51 dX9_noise_46 (by decide) ?_
        have e0 := Option.some.inj hf
        exact mk_iret C hr hlk e0 rfl dX9_noise_51
set_option maxHeartbeats 40000000 in
set_option maxRecDepth 100000 in
theorem c_X_momentOf (l : Launch) (D : va_G) (cI cJ : ClassId) (X Y : Nat → Nat) (p0 : Int32) (p1 : Int32) (r : Int32) (hf : f_X_momentOf p0 p1 = some r) : mk_Met l yX9_momentOf cX9_momentOf 2 (some .int) ({ frames := 0, cells := 0, slots := 0, locals := 0 }) D [(cI, .int), (cJ, .long)] X Y [.int p0, .int p1] ([] : va_W) ([] : va_W) (some (.int r)) 0 0 := by
  refine mk_start (own := RX9) (by decide) rfl (Nat.le_of_ble_eq_true rfl) ?_
  intro sz p e s m args below meth c A C hr hlk hnm
  replace C : mk_Cx p s m args c cX9_momentOf 2 RX9 D [(cI, .int), (cJ, .long)] X Y A := C
  show mk_Go p l e (headSpec (mk_ws yX9_momentOf cX9_momentOf 2 (some .int)) ({ frames := 0, cells := 0, slots := 0, locals := 0 })).room s m args below meth c D A 2 0 0 (MQ below (mk_Q (some (.int r)) D ([] : va_W) A) args s 0 0 A) 0 ([] : va_W) [(0, .int p0), (1, .int p1)] []
  unfold f_X_momentOf at hf
  refine mk_bipush C (v := 16) dX9_momentOf_0 (by decide) ?_
  refine mk_iload_n C 0 dX9_momentOf_2 rfl ?_
  refine mk_imul C dX9_momentOf_3 ?_
  refine mk_iload_n C 1 dX9_momentOf_4 rfl ?_
  refine mk_iadd C dX9_momentOf_5 ?_
  have e0 := Option.some.inj hf
  exact mk_iret C hr hlk e0 rfl dX9_momentOf_6
set_option maxHeartbeats 40000000 in
set_option maxRecDepth 100000 in
theorem c_X_waiting (l : Launch) (D : va_G) (cI cJ : ClassId) (X Y : Nat → Nat) (aX : Nat → Nat) (uX : Nat → Nat → Int32) (uL : Nat → Nat → Int64) (p1 : Int32) (r : Int32) (hf : f_X_waiting uX p1 = some r) : mk_Met l yX9_waiting cX9_waiting 4 (some .int) ({ frames := 0, cells := 0, slots := 0, locals := 0 }) D [(cI, .int), (cJ, .long)] X Y [.ref (aX 0), .int p1] (wModel aX cI cJ uX uL) (wModel aX cI cJ uX uL) (some (.int r)) 0 0 := by
  refine mk_start (own := RX9) (by decide) rfl (Nat.le_of_ble_eq_true rfl) ?_
  intro sz p e s m args below meth c A C hr hlk hnm
  replace C : mk_Cx p s m args c cX9_waiting 4 RX9 D [(cI, .int), (cJ, .long)] X Y A := C
  have wL4 : ∀ (n : Nat) (v2 : Int32) (v3 : Int32), f_X_waiting_4 uX p1 n v2 v3 = some r → mk_Go p l e (headSpec (mk_ws yX9_waiting cX9_waiting 4 (some .int)) ({ frames := 0, cells := 0, slots := 0, locals := 0 })).room s m args below meth c D A 4 0 0 (MQ below (mk_Q (some (.int r)) D (wModel aX cI cJ uX uL) A) args s 0 0 A) 4 (wModel aX cI cJ uX uL) [(0, .ref (aX 0)), (1, .int p1), (2, .int v2), (3, .int v3)] [] := by
    intro  n
    induction n with
    | zero => intro v2 v3 hf; exact nomatch (show (none : Option (Int32)) = some _ from hf)
    | succ n ih =>
      intro v2 v3 hf
      rw [f_X_waiting_4] at hf
      refine mk_iload_n C 3 dX9_waiting_4 rfl ?_
      refine mk_aload_n C 0 dX9_waiting_5 rfl ?_
      refine mk_get C mk_inX9 0 rfl rfl 0 (by decide) mw_902 (v := .ref (aX 1)) rfl dX9_waiting_6 ?_
      refine mk_iconst C (v := 4) dX9_waiting_9 (by decide) ?_
      refine mk_iald C 1 0 (f := (uX 0)) rfl rfl (mk_vi (by decide)) (j := 4) (by decide) dX9_waiting_10 ?_
      refine mk_icmp_ge C 61 dX9_waiting_11 (by decide) (fun c1 => ?_) (fun c1 => ?_)
      · replace hf := (if_pos c1).symm.trans hf
        refine mk_iload_n C 2 dX9_waiting_61 rfl ?_
        have e0 := Option.some.inj hf
        exact mk_iret C hr hlk e0 rfl dX9_waiting_62
      · replace hf := (if_neg c1).symm.trans hf
        refine mk_iload_n C 2 dX9_waiting_14 rfl ?_
        refine mk_iload_n C 3 dX9_waiting_15 rfl ?_
        refine mk_aload_n C 0 dX9_waiting_16 rfl ?_
        refine mk_get C mk_inX9 0 rfl rfl 17 (by decide) mw_919 (v := .int (uX 17 0)) rfl dX9_waiting_17 ?_
        refine mk_icmp_eq C 52 dX9_waiting_20 (by decide) (fun c2 => ?_) (fun c2 => ?_)
        · replace hf := (if_pos c2).symm.trans hf
          refine mk_iconst C (v := 0) dX9_waiting_52 (by decide) ?_
          refine mk_ior C dX9_waiting_53 ?_
          refine mk_istore_n C (lv' := [(2, .int (v2 ||| 0)), (0, .ref (aX 0)), (1, .int p1), (3, .int v3)]) dX9_waiting_54 (by decide) rfl ?_
          refine mk_iinc C (v := (v3 + 1)) (lv' := [(3, .int (v3 + 1)), (2, .int (v2 ||| 0)), (0, .ref (aX 0)), (1, .int p1)]) 3 dX9_waiting_55 rfl rfl (by decide) rfl ?_
          refine mk_goto C 4 dX9_waiting_58 (by decide) ?_
          exact mk_lvsub [2, 3, 1, 0] rfl (ih _ _ hf)
        · replace hf := (if_neg c2).symm.trans hf
          refine mk_aload_n C 0 dX9_waiting_23 rfl ?_
          refine mk_get C mk_inX9 0 rfl rfl 0 (by decide) mw_902 (v := .ref (aX 1)) rfl dX9_waiting_24 ?_
          refine mk_bipush C (v := 7) dX9_waiting_27 (by decide) ?_
          refine mk_iload_n C 3 dX9_waiting_29 rfl ?_
          refine mk_iadd C dX9_waiting_30 ?_
          obtain ⟨g3, hf⟩ := gI_some hf
          refine mk_iald C 1 0 (f := (uX 0)) rfl rfl g3 (j := ((7 + v3) : Int32).toNatClampNeg) rfl dX9_waiting_31 ?_
          refine mk_iload_n C 1 dX9_waiting_32 rfl ?_
          refine mk_icmp_gt C 52 dX9_waiting_33 (by decide) (fun c4 => ?_) (fun c4 => ?_)
          · replace hf := (if_pos c4).symm.trans hf
            refine mk_iconst C (v := 0) dX9_waiting_52 (by decide) ?_
            refine mk_ior C dX9_waiting_53 ?_
            refine mk_istore_n C (lv' := [(2, .int (v2 ||| 0)), (0, .ref (aX 0)), (1, .int p1), (3, .int v3)]) dX9_waiting_54 (by decide) rfl ?_
            refine mk_iinc C (v := (v3 + 1)) (lv' := [(3, .int (v3 + 1)), (2, .int (v2 ||| 0)), (0, .ref (aX 0)), (1, .int p1)]) 3 dX9_waiting_55 rfl rfl (by decide) rfl ?_
            refine mk_goto C 4 dX9_waiting_58 (by decide) ?_
            exact mk_lvsub [2, 3, 1, 0] rfl (ih _ _ hf)
          · replace hf := (if_neg c4).symm.trans hf
            refine mk_aload_n C 0 dX9_waiting_36 rfl ?_
            refine mk_get C mk_inX9 0 rfl rfl 29 (by decide) mw_931 (v := .ref (aX 30)) rfl dX9_waiting_37 ?_
            refine mk_iload_n C 3 dX9_waiting_40 rfl ?_
            obtain ⟨g5, hf⟩ := gI_some hf
            refine mk_iald C 10 0 (f := (uX 29)) rfl rfl g5 (j := (v3 : Int32).toNatClampNeg) rfl dX9_waiting_41 ?_
            refine mk_iconst C (v := (-1)) dX9_waiting_42 (by decide) ?_
            refine mk_icmp_ne C 52 dX9_waiting_43 (by decide) (fun c6 => ?_) (fun c6 => ?_)
            · replace hf := (if_neg c6).symm.trans hf
              refine mk_iconst C (v := 0) dX9_waiting_52 (by decide) ?_
              refine mk_ior C dX9_waiting_53 ?_
              refine mk_istore_n C (lv' := [(2, .int (v2 ||| 0)), (0, .ref (aX 0)), (1, .int p1), (3, .int v3)]) dX9_waiting_54 (by decide) rfl ?_
              refine mk_iinc C (v := (v3 + 1)) (lv' := [(3, .int (v3 + 1)), (2, .int (v2 ||| 0)), (0, .ref (aX 0)), (1, .int p1)]) 3 dX9_waiting_55 rfl rfl (by decide) rfl ?_
              refine mk_goto C 4 dX9_waiting_58 (by decide) ?_
              exact mk_lvsub [2, 3, 1, 0] rfl (ih _ _ hf)
            · replace hf := (if_pos c6).symm.trans hf
              refine mk_iconst C (v := 1) dX9_waiting_46 (by decide) ?_
              refine mk_iload_n C 3 dX9_waiting_47 rfl ?_
              refine mk_ishl C dX9_waiting_48 ?_
              refine mk_goto C 53 dX9_waiting_49 (by decide) ?_
              refine mk_ior C dX9_waiting_53 ?_
              refine mk_istore_n C (lv' := [(2, .int (v2 ||| (1 <<< (v3 &&& 31)))), (0, .ref (aX 0)), (1, .int p1), (3, .int v3)]) dX9_waiting_54 (by decide) rfl ?_
              refine mk_iinc C (v := (v3 + 1)) (lv' := [(3, .int (v3 + 1)), (2, .int (v2 ||| (1 <<< (v3 &&& 31)))), (0, .ref (aX 0)), (1, .int p1)]) 3 dX9_waiting_55 rfl rfl (by decide) rfl ?_
              refine mk_goto C 4 dX9_waiting_58 (by decide) ?_
              exact mk_lvsub [2, 3, 1, 0] rfl (ih _ _ hf)
  show mk_Go p l e (headSpec (mk_ws yX9_waiting cX9_waiting 4 (some .int)) ({ frames := 0, cells := 0, slots := 0, locals := 0 })).room s m args below meth c D A 4 0 0 (MQ below (mk_Q (some (.int r)) D (wModel aX cI cJ uX uL) A) args s 0 0 A) 0 (wModel aX cI cJ uX uL) [(0, .ref (aX 0)), (1, .int p1)] []
  unfold f_X_waiting at hf
  refine mk_iconst C (v := 0) dX9_waiting_0 (by decide) ?_
  refine mk_istore_n C (lv' := [(2, .int 0), (0, .ref (aX 0)), (1, .int p1)]) dX9_waiting_1 (by decide) rfl ?_
  refine mk_iconst C (v := 0) dX9_waiting_2 (by decide) ?_
  refine mk_istore_n C (lv' := [(3, .int 0), (2, .int 0), (0, .ref (aX 0)), (1, .int p1)]) dX9_waiting_3 (by decide) rfl ?_
  exact mk_lvsub [2, 3, 1, 0] rfl (wL4 600 _ _ hf)
