theorem mkq_J6_stringSize_0f7a4 : mk_nm yJ6_stringSize_0f7a4 1 := by decide +kernel
theorem mkq_J5_isLatin1_aae02 : mk_nm yJ5_isLatin1_aae02 0 := by decide +kernel
theorem mkq_J6_getChars_ba4f3 : mk_nm yJ6_getChars_ba4f3 3 := by decide +kernel
theorem mkq_J5_append_c97b9 : mk_nm yJ5_append_c97b9 1 := by decide +kernel
theorem mkq_J5_length_8abf5 : mk_nm yJ5_length_8abf5 0 := by decide +kernel
theorem mkq_J7_checkLength_df160 : mk_nm yJ7_checkLength_df160 2 := by decide +kernel
theorem mkq_J7_copyOfRangeByte_39247 : mk_nm yJ7_copyOfRangeByte_39247 3 := by decide +kernel
theorem mkq_J5_getValue_6d5f1 : mk_nm yJ5_getValue_6d5f1 0 := by decide +kernel
theorem mkq_J7_copyOfRange_39247 : mk_nm yJ7_copyOfRange_39247 3 := by decide +kernel
theorem mkq_J0_init_db425 : mk_nm yJ0_init_db425 2 := by decide +kernel
theorem mkq_J0_init_81219 : mk_nm yJ0_init_81219 1 := by decide +kernel
theorem mkq_J5_init_d00df : mk_nm yJ5_init_d00df 1 := by decide +kernel
/-! numbers into text; toString (jdk2.py) -/
theorem jk_min {n mm : Nat} (h : n ≤ mm) (hm : mm < 2 ^ 31) : (if nI n < nI mm then nI n else nI mm) = nI n := by
  by_cases q : n < mm
  · rw [if_pos (nI_lt q hm)]
  · rw [if_neg (fun z => q ((nI_ltI (by omega) hm).mp z)), show mm = n by omega]
theorem jk_d1 {v : Nat} (h : v < 10) : sb_dg v = 1 := by unfold sb_dg; rw [if_pos h]
theorem jk_d2 {v : Nat} (h : 10 ≤ v) (h2 : v < 100) : sb_dg v = 2 := by unfold sb_dg; rw [if_neg (by omega), if_pos h2]
theorem jk_d3 {v : Nat} (h : 100 ≤ v) (h2 : v < 1000) : sb_dg v = 3 := by unfold sb_dg; rw [if_neg (by omega), if_neg (by omega), if_pos h2]
def pDg (v n : Nat) (f f' : Nat → Int32) : Prop := (∀ j, (j < n ∨ n + sb_dg v ≤ j) → f' j = f j) ∧ (∀ i, i < sb_dg v → f' (n + i) = nI (sb_dec v i)) ∧ sb_Fit f'
theorem jk_g1 {v n : Nat} {f : Nat → Int32} (h : v < 10) (hf : sb_Fit f) : pDg v n f (upd f n (nI (48 + v % 10))) := by
  have e := jk_d1 h
  refine ⟨fun j hj => pk_un (by omega), fun i hi => ?_, jk_upd hf (by omega)⟩
  obtain rfl : i = 0 := by omega
  unfold sb_dec
  rw [Nat.add_zero, pk_us, e, Nat.sub_self, Nat.pow_zero, Nat.div_one]
theorem jk_g2 {v n : Nat} {f : Nat → Int32} (h : 10 ≤ v) (h2 : v < 100) (hf : sb_Fit f) : pDg v n f (upd (upd f (n + 1) (nI (48 + v % 10))) n (nI (48 + v / 10))) := by
  have e := jk_d2 h h2
  refine ⟨fun j hj => by rw [pk_un (by omega), pk_un (by omega)], fun i hi => ?_, jk_upd (jk_upd hf (by omega)) (by omega)⟩
  unfold sb_dec
  rw [e]
  obtain rfl | rfl : i = 0 ∨ i = 1 := by omega
  · rw [show n + 0 = n from rfl, pk_us]
    congr 1
    show 48 + v / 10 = 48 + v / 10 ^ 1 % 10
    omega
  · rw [pk_un (by omega), pk_us]
    congr 1
    show 48 + v % 10 = 48 + v / 10 ^ 0 % 10
    omega
theorem jk_g3 {v n : Nat} {f : Nat → Int32} (h : 100 ≤ v) (h2 : v < 1000) (hf : sb_Fit f) : pDg v n f (upd (upd (upd f (n + 2) (nI (48 + v % 100 % 10))) (n + 1) (nI (48 + v % 100 / 10))) n (nI (48 + v / 100 % 10))) := by
  have e := jk_d3 h h2
  refine ⟨fun j hj => by rw [pk_un (by omega), pk_un (by omega), pk_un (by omega)], fun i hi => ?_, jk_upd (jk_upd (jk_upd hf (by omega)) (by omega)) (by omega)⟩
  unfold sb_dec
  rw [e]
  obtain rfl | rfl | rfl : i = 0 ∨ i = 1 ∨ i = 2 := by omega
  · rw [show n + 0 = n from rfl, pk_us]
  · rw [pk_un (by omega), pk_us]
    congr 1
    show 48 + v % 100 / 10 = 48 + v / 10 ^ 1 % 10
    omega
  · rw [pk_un (by omega), pk_un (by omega), pk_us]
    congr 1
    show 48 + v % 100 % 10 = 48 + v / 10 ^ 0 % 10
    omega
set_option maxHeartbeats 4000000 in
set_option maxRecDepth 100000 in
theorem c_sSz1 (l : Launch) (D : va_G) (cI cJ cB cZ cS : ClassId) (X : Nat → Nat) (Y : mk_Y) (v : Nat) (h2 : v < 10) : mk_Met l yJ6_stringSize_0f7a4 cJ6_stringSize_0f7a4 4 (some .int) ({ frames := 0, cells := 0, slots := 0, locals := 0 }) D (mk_TY cI cJ cB cZ cS) X Y [.int (nI v)] [] [] (some (.int (nI 1))) 0 0 := by
  refine mk_start (own := "java/lang/Integer") (by decide) rfl (Nat.le_of_ble_eq_true rfl) ?_
  intro sz p e s m args below meth c A C hr hlk hnm
  replace C : mk_Cx p s m args c cJ6_stringSize_0f7a4 4 "java/lang/Integer" D (mk_TY cI cJ cB cZ cS) X Y A := C
  refine mk_iconst C (v := 1) dJ6_stringSize_0f7a4_0 (by decide) ?_
  refine mk_istore_n C (lv' := [(1, .int 1), (0, .int (nI v))]) dJ6_stringSize_0f7a4_1 (by decide) rfl ?_
  refine mk_iload_n C 1 dJ6_stringSize_0f7a4_2 rfl ?_
  refine mk_if_lt C 11 dJ6_stringSize_0f7a4_3 (by decide) (fun h9 => absurd h9 (nI_pos (by omega))) (fun _ => ?_)
  refine mk_iconst C (v := 0) dJ6_stringSize_0f7a4_6 (by decide) ?_
  refine mk_istore_n C (lv' := [(1, .int 0), (0, .int (nI v))]) dJ6_stringSize_0f7a4_7 (by decide) rfl ?_
  refine mk_iload_n C 1 dJ6_stringSize_0f7a4_8 rfl ?_
  refine mk_ineg C dJ6_stringSize_0f7a4_9 ?_
  refine mk_istore_n C (lv' := [(0, .int (-nI v)), (1, .int 0)]) dJ6_stringSize_0f7a4_10 (by decide) rfl ?_
  refine mk_bipush C (v := (-10)) dJ6_stringSize_0f7a4_11 (by decide) ?_
  refine mk_istore_n C (lv' := [(2, .int (-10)), (0, .int (-nI v)), (1, .int 0)]) dJ6_stringSize_0f7a4_13 (by decide) rfl ?_
  refine mk_iconst C (v := 1) dJ6_stringSize_0f7a4_14 (by decide) ?_
  refine mk_istore_n C (lv' := [(3, .int 1), (2, .int (-10)), (0, .int (-nI v)), (1, .int 0)]) dJ6_stringSize_0f7a4_15 (by decide) rfl ?_
  refine mk_iload_n C 0 dJ6_stringSize_0f7a4_16 rfl ?_
  refine mk_bipush C (v := 10) dJ6_stringSize_0f7a4_17 (by decide) ?_
  refine mk_icmp_ge C 42 dJ6_stringSize_0f7a4_19 (by decide) (fun h9 => absurd h9 (by decide)) (fun _ => ?_)
  refine mk_iload_n C 2 dJ6_stringSize_0f7a4_22 rfl ?_
  refine mk_iload_n C 1 dJ6_stringSize_0f7a4_23 rfl ?_
  refine mk_icmp_le C 31 dJ6_stringSize_0f7a4_24 (by decide) (fun h9 => absurd h9 (fun z => absurd ((sb_nle (a := v) (b := 10) (by omega) (by decide)).mp z) (by omega))) (fun _ => ?_)
  refine mk_iload_n C 0 dJ6_stringSize_0f7a4_27 rfl ?_
  refine mk_iload_n C 3 dJ6_stringSize_0f7a4_28 rfl ?_
  refine mk_iadd C dJ6_stringSize_0f7a4_29 ?_
  exact mk_iret C hr hlk rfl rfl dJ6_stringSize_0f7a4_30
set_option maxHeartbeats 4000000 in
set_option maxRecDepth 100000 in
theorem c_sSz2 (l : Launch) (D : va_G) (cI cJ cB cZ cS : ClassId) (X : Nat → Nat) (Y : mk_Y) (v : Nat) (h1 : 10 ≤ v) (h2 : v < 100) : mk_Met l yJ6_stringSize_0f7a4 cJ6_stringSize_0f7a4 4 (some .int) ({ frames := 0, cells := 0, slots := 0, locals := 0 }) D (mk_TY cI cJ cB cZ cS) X Y [.int (nI v)] [] [] (some (.int (nI 2))) 0 0 := by
  refine mk_start (own := "java/lang/Integer") (by decide) rfl (Nat.le_of_ble_eq_true rfl) ?_
  intro sz p e s m args below meth c A C hr hlk hnm
  replace C : mk_Cx p s m args c cJ6_stringSize_0f7a4 4 "java/lang/Integer" D (mk_TY cI cJ cB cZ cS) X Y A := C
  refine mk_iconst C (v := 1) dJ6_stringSize_0f7a4_0 (by decide) ?_
  refine mk_istore_n C (lv' := [(1, .int 1), (0, .int (nI v))]) dJ6_stringSize_0f7a4_1 (by decide) rfl ?_
  refine mk_iload_n C 1 dJ6_stringSize_0f7a4_2 rfl ?_
  refine mk_if_lt C 11 dJ6_stringSize_0f7a4_3 (by decide) (fun h9 => absurd h9 (nI_pos (by omega))) (fun _ => ?_)
  refine mk_iconst C (v := 0) dJ6_stringSize_0f7a4_6 (by decide) ?_
  refine mk_istore_n C (lv' := [(1, .int 0), (0, .int (nI v))]) dJ6_stringSize_0f7a4_7 (by decide) rfl ?_
  refine mk_iload_n C 1 dJ6_stringSize_0f7a4_8 rfl ?_
  refine mk_ineg C dJ6_stringSize_0f7a4_9 ?_
  refine mk_istore_n C (lv' := [(0, .int (-nI v)), (1, .int 0)]) dJ6_stringSize_0f7a4_10 (by decide) rfl ?_
  refine mk_bipush C (v := (-10)) dJ6_stringSize_0f7a4_11 (by decide) ?_
  refine mk_istore_n C (lv' := [(2, .int (-10)), (0, .int (-nI v)), (1, .int 0)]) dJ6_stringSize_0f7a4_13 (by decide) rfl ?_
  refine mk_iconst C (v := 1) dJ6_stringSize_0f7a4_14 (by decide) ?_
  refine mk_istore_n C (lv' := [(3, .int 1), (2, .int (-10)), (0, .int (-nI v)), (1, .int 0)]) dJ6_stringSize_0f7a4_15 (by decide) rfl ?_
  refine mk_iload_n C 0 dJ6_stringSize_0f7a4_16 rfl ?_
  refine mk_bipush C (v := 10) dJ6_stringSize_0f7a4_17 (by decide) ?_
  refine mk_icmp_ge C 42 dJ6_stringSize_0f7a4_19 (by decide) (fun h9 => absurd h9 (by decide)) (fun _ => ?_)
  refine mk_iload_n C 2 dJ6_stringSize_0f7a4_22 rfl ?_
  refine mk_iload_n C 1 dJ6_stringSize_0f7a4_23 rfl ?_
  refine mk_icmp_le C 31 dJ6_stringSize_0f7a4_24 (by decide) (fun _ => ?_) (fun h9 => absurd (show -nI v ≤ -nI 10 from (sb_nle (by omega) (by decide)).mpr (by omega)) h9)
  refine mk_bipush C (v := 10) dJ6_stringSize_0f7a4_31 (by decide) ?_
  refine mk_iload_n C 1 dJ6_stringSize_0f7a4_33 rfl ?_
  refine mk_imul C dJ6_stringSize_0f7a4_34 ?_
  refine mk_topi (y := (-100)) (by decide) ?_
  refine mk_istore_n C (lv' := [(2, .int (-100)), (3, .int 1), (0, .int (-nI v)), (1, .int 0)]) dJ6_stringSize_0f7a4_35 (by decide) rfl ?_
  refine mk_iinc C 1 (v := 2) (lv' := [(3, .int 2), (2, .int (-100)), (0, .int (-nI v)), (1, .int 0)]) dJ6_stringSize_0f7a4_36 rfl (rfl) (by decide) rfl ?_
  refine mk_goto C 16 dJ6_stringSize_0f7a4_39 (by decide) ?_
  refine mk_iload_n C 0 dJ6_stringSize_0f7a4_16 rfl ?_
  refine mk_bipush C (v := 10) dJ6_stringSize_0f7a4_17 (by decide) ?_
  refine mk_icmp_ge C 42 dJ6_stringSize_0f7a4_19 (by decide) (fun h9 => absurd h9 (by decide)) (fun _ => ?_)
  refine mk_iload_n C 2 dJ6_stringSize_0f7a4_22 rfl ?_
  refine mk_iload_n C 1 dJ6_stringSize_0f7a4_23 rfl ?_
  refine mk_icmp_le C 31 dJ6_stringSize_0f7a4_24 (by decide) (fun h9 => absurd h9 (fun z => absurd ((sb_nle (a := v) (b := 100) (by omega) (by decide)).mp z) (by omega))) (fun _ => ?_)
  refine mk_iload_n C 0 dJ6_stringSize_0f7a4_27 rfl ?_
  refine mk_iload_n C 3 dJ6_stringSize_0f7a4_28 rfl ?_
  refine mk_iadd C dJ6_stringSize_0f7a4_29 ?_
  exact mk_iret C hr hlk rfl rfl dJ6_stringSize_0f7a4_30
set_option maxHeartbeats 4000000 in
set_option maxRecDepth 100000 in
theorem c_sSz3 (l : Launch) (D : va_G) (cI cJ cB cZ cS : ClassId) (X : Nat → Nat) (Y : mk_Y) (v : Nat) (h1 : 100 ≤ v) (h2 : v < 1000) : mk_Met l yJ6_stringSize_0f7a4 cJ6_stringSize_0f7a4 4 (some .int) ({ frames := 0, cells := 0, slots := 0, locals := 0 }) D (mk_TY cI cJ cB cZ cS) X Y [.int (nI v)] [] [] (some (.int (nI 3))) 0 0 := by
  refine mk_start (own := "java/lang/Integer") (by decide) rfl (Nat.le_of_ble_eq_true rfl) ?_
  intro sz p e s m args below meth c A C hr hlk hnm
  replace C : mk_Cx p s m args c cJ6_stringSize_0f7a4 4 "java/lang/Integer" D (mk_TY cI cJ cB cZ cS) X Y A := C
  refine mk_iconst C (v := 1) dJ6_stringSize_0f7a4_0 (by decide) ?_
  refine mk_istore_n C (lv' := [(1, .int 1), (0, .int (nI v))]) dJ6_stringSize_0f7a4_1 (by decide) rfl ?_
  refine mk_iload_n C 1 dJ6_stringSize_0f7a4_2 rfl ?_
  refine mk_if_lt C 11 dJ6_stringSize_0f7a4_3 (by decide) (fun h9 => absurd h9 (nI_pos (by omega))) (fun _ => ?_)
  refine mk_iconst C (v := 0) dJ6_stringSize_0f7a4_6 (by decide) ?_
  refine mk_istore_n C (lv' := [(1, .int 0), (0, .int (nI v))]) dJ6_stringSize_0f7a4_7 (by decide) rfl ?_
  refine mk_iload_n C 1 dJ6_stringSize_0f7a4_8 rfl ?_
  refine mk_ineg C dJ6_stringSize_0f7a4_9 ?_
  refine mk_istore_n C (lv' := [(0, .int (-nI v)), (1, .int 0)]) dJ6_stringSize_0f7a4_10 (by decide) rfl ?_
  refine mk_bipush C (v := (-10)) dJ6_stringSize_0f7a4_11 (by decide) ?_
  refine mk_istore_n C (lv' := [(2, .int (-10)), (0, .int (-nI v)), (1, .int 0)]) dJ6_stringSize_0f7a4_13 (by decide) rfl ?_
  refine mk_iconst C (v := 1) dJ6_stringSize_0f7a4_14 (by decide) ?_
  refine mk_istore_n C (lv' := [(3, .int 1), (2, .int (-10)), (0, .int (-nI v)), (1, .int 0)]) dJ6_stringSize_0f7a4_15 (by decide) rfl ?_
  refine mk_iload_n C 0 dJ6_stringSize_0f7a4_16 rfl ?_
  refine mk_bipush C (v := 10) dJ6_stringSize_0f7a4_17 (by decide) ?_
  refine mk_icmp_ge C 42 dJ6_stringSize_0f7a4_19 (by decide) (fun h9 => absurd h9 (by decide)) (fun _ => ?_)
  refine mk_iload_n C 2 dJ6_stringSize_0f7a4_22 rfl ?_
  refine mk_iload_n C 1 dJ6_stringSize_0f7a4_23 rfl ?_
  refine mk_icmp_le C 31 dJ6_stringSize_0f7a4_24 (by decide) (fun _ => ?_) (fun h9 => absurd (show -nI v ≤ -nI 10 from (sb_nle (by omega) (by decide)).mpr (by omega)) h9)
  refine mk_bipush C (v := 10) dJ6_stringSize_0f7a4_31 (by decide) ?_
  refine mk_iload_n C 1 dJ6_stringSize_0f7a4_33 rfl ?_
  refine mk_imul C dJ6_stringSize_0f7a4_34 ?_
  refine mk_topi (y := (-100)) (by decide) ?_
  refine mk_istore_n C (lv' := [(2, .int (-100)), (3, .int 1), (0, .int (-nI v)), (1, .int 0)]) dJ6_stringSize_0f7a4_35 (by decide) rfl ?_
  refine mk_iinc C 1 (v := 2) (lv' := [(3, .int 2), (2, .int (-100)), (0, .int (-nI v)), (1, .int 0)]) dJ6_stringSize_0f7a4_36 rfl (rfl) (by decide) rfl ?_
  refine mk_goto C 16 dJ6_stringSize_0f7a4_39 (by decide) ?_
  refine mk_iload_n C 0 dJ6_stringSize_0f7a4_16 rfl ?_
  refine mk_bipush C (v := 10) dJ6_stringSize_0f7a4_17 (by decide) ?_
  refine mk_icmp_ge C 42 dJ6_stringSize_0f7a4_19 (by decide) (fun h9 => absurd h9 (by decide)) (fun _ => ?_)
  refine mk_iload_n C 2 dJ6_stringSize_0f7a4_22 rfl ?_
  refine mk_iload_n C 1 dJ6_stringSize_0f7a4_23 rfl ?_
  refine mk_icmp_le C 31 dJ6_stringSize_0f7a4_24 (by decide) (fun _ => ?_) (fun h9 => absurd (show -nI v ≤ -nI 100 from (sb_nle (by omega) (by decide)).mpr (by omega)) h9)
  refine mk_bipush C (v := 10) dJ6_stringSize_0f7a4_31 (by decide) ?_
  refine mk_iload_n C 1 dJ6_stringSize_0f7a4_33 rfl ?_
  refine mk_imul C dJ6_stringSize_0f7a4_34 ?_
  refine mk_topi (y := (-1000)) (by decide) ?_
  refine mk_istore_n C (lv' := [(2, .int (-1000)), (3, .int 2), (0, .int (-nI v)), (1, .int 0)]) dJ6_stringSize_0f7a4_35 (by decide) rfl ?_
  refine mk_iinc C 1 (v := 3) (lv' := [(3, .int 3), (2, .int (-1000)), (0, .int (-nI v)), (1, .int 0)]) dJ6_stringSize_0f7a4_36 rfl (rfl) (by decide) rfl ?_
  refine mk_goto C 16 dJ6_stringSize_0f7a4_39 (by decide) ?_
  refine mk_iload_n C 0 dJ6_stringSize_0f7a4_16 rfl ?_
  refine mk_bipush C (v := 10) dJ6_stringSize_0f7a4_17 (by decide) ?_
  refine mk_icmp_ge C 42 dJ6_stringSize_0f7a4_19 (by decide) (fun h9 => absurd h9 (by decide)) (fun _ => ?_)
  refine mk_iload_n C 2 dJ6_stringSize_0f7a4_22 rfl ?_
  refine mk_iload_n C 1 dJ6_stringSize_0f7a4_23 rfl ?_
  refine mk_icmp_le C 31 dJ6_stringSize_0f7a4_24 (by decide) (fun h9 => absurd h9 (fun z => absurd ((sb_nle (a := v) (b := 1000) (by omega) (by decide)).mp z) (by omega))) (fun _ => ?_)
  refine mk_iload_n C 0 dJ6_stringSize_0f7a4_27 rfl ?_
  refine mk_iload_n C 3 dJ6_stringSize_0f7a4_28 rfl ?_
  refine mk_iadd C dJ6_stringSize_0f7a4_29 ?_
  exact mk_iret C hr hlk rfl rfl dJ6_stringSize_0f7a4_30
theorem c_sSz (l : Launch) (D : va_G) (cI cJ cB cZ cS : ClassId) (X : Nat → Nat) (Y : mk_Y) (v : Nat) (hv : v < 1000) : mk_Met l yJ6_stringSize_0f7a4 cJ6_stringSize_0f7a4 4 (some .int) ({ frames := 0, cells := 0, slots := 0, locals := 0 }) D (mk_TY cI cJ cB cZ cS) X Y [.int (nI v)] [] [] (some (.int (nI (sb_dg v)))) 0 0 := by
  by_cases h1 : v < 10
  · rw [jk_d1 h1]; exact c_sSz1 l D cI cJ cB cZ cS X Y v h1
  · by_cases h2 : v < 100
    · rw [jk_d2 (by omega) h2]; exact c_sSz2 l D cI cJ cB cZ cS X Y v (by omega) h2
    · rw [jk_d3 (by omega) hv]; exact c_sSz3 l D cI cJ cB cZ cS X Y v (by omega) hv
set_option maxHeartbeats 4000000 in
set_option maxRecDepth 100000 in
theorem c_gC1 (l : Launch) (D : va_G) (cI cJ cB cZ cS : ClassId) (X : Nat → Nat) (Y : mk_Y) (a mm v n p : Nat) (f : Nat → Int32) (h2 : v < 10) (hp : p = n + 1) (hpm : p ≤ mm) (hm : mm ≤ 2002) (hf : sb_Fit f) : mk_MetG l yJ6_getChars_ba4f3 cJ6_getChars_ba4f3 7 (some .int) ({ frames := 0, cells := 0, slots := 0, locals := 0 }) D (mk_TY cI cJ cB cZ cS) X Y [.int (nI v), .int (nI p), .ref a] [(a, .inl (cB, mm, .inl f))] (fun f' : Nat → Int32 => pDg v n f f') (fun _ => some (.int (nI n))) (fun f' => [(a, .inl (cB, mm, .inl f'))]) 0 0 := by
  subst hp
  refine mk_startG (own := "java/lang/Integer") (by decide) rfl (Nat.le_of_ble_eq_true rfl) ?_
  intro sz p e s m args below meth c A C hr hlk hnm
  replace C : mk_Cx p s m args c cJ6_getChars_ba4f3 7 "java/lang/Integer" D (mk_TY cI cJ cB cZ cS) X Y A := C
  obtain ⟨t1, z1, T1⟩ := C.2.2.1.2.2.2.2.2.2.1
  obtain ⟨t2, z2, T2⟩ := C.2.2.1.2.2.2.2.2.2.2
  refine mk_iload_n C 1 dJ6_getChars_ba4f3_0 rfl ?_
  refine mk_istore C (lv' := [(5, .int (nI (n + 1))), (0, .int (nI v)), (1, .int (nI (n + 1))), (2, .ref a)]) dJ6_getChars_ba4f3_1 (by decide) rfl ?_
  refine mk_iload_n C 1 dJ6_getChars_ba4f3_3 rfl ?_
  refine mk_if_ge C 11 dJ6_getChars_ba4f3_4 (by decide) (fun _ => ?_) (fun h9 => absurd (nI_pos' (by omega)) h9)
  refine mk_iconst C (v := 0) dJ6_getChars_ba4f3_11 (by decide) ?_
  refine mk_istore C (lv' := [(6, .int 0), (5, .int (nI (n + 1))), (0, .int (nI v)), (1, .int (nI (n + 1))), (2, .ref a)]) dJ6_getChars_ba4f3_12 (by decide) rfl ?_
  refine mk_iload C 0 dJ6_getChars_ba4f3_14 rfl ?_
  refine mk_if_ne C 22 dJ6_getChars_ba4f3_16 (by decide) (fun h9 => absurd h9 (fun z => z rfl)) (fun _ => ?_)
  refine mk_iload_n C 2 dJ6_getChars_ba4f3_19 rfl ?_
  refine mk_ineg C dJ6_getChars_ba4f3_20 ?_
  refine mk_istore_n C (lv' := [(0, .int (-nI v)), (6, .int 0), (5, .int (nI (n + 1))), (1, .int (nI (n + 1))), (2, .ref a)]) dJ6_getChars_ba4f3_21 (by decide) rfl ?_
  refine mk_iload_n C 0 dJ6_getChars_ba4f3_22 rfl ?_
  refine mk_bipush C (v := (-100)) dJ6_getChars_ba4f3_23 (by decide) ?_
  refine mk_icmp_gt C 72 dJ6_getChars_ba4f3_25 (by decide) (fun _ => ?_) (fun h9 => absurd (show -nI 100 < -nI v from (sb_nlt (by decide) (by omega)).mpr (by omega)) h9)
  refine mk_aload_n C 4 dJ6_getChars_ba4f3_72 rfl ?_
  refine mk_iinc C 2 (v := nI n) (lv' := [(5, .int (nI n)), (0, .int (-nI v)), (6, .int 0), (1, .int (nI (n + 1))), (2, .ref a)]) dJ6_getChars_ba4f3_73 rfl (((show _ + Int32.ofInt (-1) = _ + (-1) from rfl).trans (pk_m1 n))) (by decide) rfl ?_
  refine mk_iload C 0 dJ6_getChars_ba4f3_76 rfl ?_
  refine mk_gets C z1 mw_836 dJ6_getChars_ba4f3_78 ?_
  refine mk_iload_n C 1 dJ6_getChars_ba4f3_81 rfl ?_
  refine mk_ineg C dJ6_getChars_ba4f3_82 ?_
  refine mk_topi (y := nI v) (Int32.neg_neg) ?_
  refine mk_baldE C T1 (vp_in_nI (by omega) (by decide)) (v := .int (nI (48 + v % 10))) (by rw [nI_clamp (by omega)]) dJ6_getChars_ba4f3_83 ?_
  refine mk_bast C 0 2 rfl rfl (vp_in_nI (by omega) (by omega)) (j := n) (nI_clamp (by omega)) (v := nI (48 + v % 10)) (jk_bb _ (by omega)).1 (ws' := [(a, .inl (cB, mm, .inl (upd f n (nI (48 + v % 10)))))]) rfl dJ6_getChars_ba4f3_84 ?_
  refine mk_iload_n C 1 dJ6_getChars_ba4f3_85 rfl ?_
  refine mk_bipush C (v := (-9)) dJ6_getChars_ba4f3_86 (by decide) ?_
  refine mk_icmp_ge C 104 dJ6_getChars_ba4f3_88 (by decide) (fun _ => ?_) (fun h9 => absurd (show -nI 9 ≤ -nI v from (sb_nle (by decide) (by omega)).mpr (by omega)) h9)
  refine mk_iload C 2 dJ6_getChars_ba4f3_104 rfl ?_
  refine mk_if_eq C 118 dJ6_getChars_ba4f3_106 (by decide) (fun _ => ?_) (fun h9 => absurd (rfl) h9)
  refine mk_iload C 0 dJ6_getChars_ba4f3_118 rfl ?_
  exact mk_iretG C hr hlk rfl _ (jk_g1 h2 hf) rfl rfl dJ6_getChars_ba4f3_120
set_option maxHeartbeats 4000000 in
set_option maxRecDepth 100000 in
theorem c_gC2 (l : Launch) (D : va_G) (cI cJ cB cZ cS : ClassId) (X : Nat → Nat) (Y : mk_Y) (a mm v n p : Nat) (f : Nat → Int32) (h1 : 10 ≤ v) (h2 : v < 100) (hp : p = n + 2) (hpm : p ≤ mm) (hm : mm ≤ 2002) (hf : sb_Fit f) : mk_MetG l yJ6_getChars_ba4f3 cJ6_getChars_ba4f3 7 (some .int) ({ frames := 0, cells := 0, slots := 0, locals := 0 }) D (mk_TY cI cJ cB cZ cS) X Y [.int (nI v), .int (nI p), .ref a] [(a, .inl (cB, mm, .inl f))] (fun f' : Nat → Int32 => pDg v n f f') (fun _ => some (.int (nI n))) (fun f' => [(a, .inl (cB, mm, .inl f'))]) 0 0 := by
  subst hp
  refine mk_startG (own := "java/lang/Integer") (by decide) rfl (Nat.le_of_ble_eq_true rfl) ?_
  intro sz p e s m args below meth c A C hr hlk hnm
  replace C : mk_Cx p s m args c cJ6_getChars_ba4f3 7 "java/lang/Integer" D (mk_TY cI cJ cB cZ cS) X Y A := C
  obtain ⟨t1, z1, T1⟩ := C.2.2.1.2.2.2.2.2.2.1
  obtain ⟨t2, z2, T2⟩ := C.2.2.1.2.2.2.2.2.2.2
  refine mk_iload_n C 1 dJ6_getChars_ba4f3_0 rfl ?_
  refine mk_istore C (lv' := [(5, .int (nI (n + 2))), (0, .int (nI v)), (1, .int (nI (n + 2))), (2, .ref a)]) dJ6_getChars_ba4f3_1 (by decide) rfl ?_
  refine mk_iload_n C 1 dJ6_getChars_ba4f3_3 rfl ?_
  refine mk_if_ge C 11 dJ6_getChars_ba4f3_4 (by decide) (fun _ => ?_) (fun h9 => absurd (nI_pos' (by omega)) h9)
  refine mk_iconst C (v := 0) dJ6_getChars_ba4f3_11 (by decide) ?_
  refine mk_istore C (lv' := [(6, .int 0), (5, .int (nI (n + 2))), (0, .int (nI v)), (1, .int (nI (n + 2))), (2, .ref a)]) dJ6_getChars_ba4f3_12 (by decide) rfl ?_
  refine mk_iload C 0 dJ6_getChars_ba4f3_14 rfl ?_
  refine mk_if_ne C 22 dJ6_getChars_ba4f3_16 (by decide) (fun h9 => absurd h9 (fun z => z rfl)) (fun _ => ?_)
  refine mk_iload_n C 2 dJ6_getChars_ba4f3_19 rfl ?_
  refine mk_ineg C dJ6_getChars_ba4f3_20 ?_
  refine mk_istore_n C (lv' := [(0, .int (-nI v)), (6, .int 0), (5, .int (nI (n + 2))), (1, .int (nI (n + 2))), (2, .ref a)]) dJ6_getChars_ba4f3_21 (by decide) rfl ?_
  refine mk_iload_n C 0 dJ6_getChars_ba4f3_22 rfl ?_
  refine mk_bipush C (v := (-100)) dJ6_getChars_ba4f3_23 (by decide) ?_
  refine mk_icmp_gt C 72 dJ6_getChars_ba4f3_25 (by decide) (fun _ => ?_) (fun h9 => absurd (show -nI 100 < -nI v from (sb_nlt (by decide) (by omega)).mpr (by omega)) h9)
  refine mk_aload_n C 4 dJ6_getChars_ba4f3_72 rfl ?_
  refine mk_iinc C 2 (v := nI (n + 1)) (lv' := [(5, .int (nI (n + 1))), (0, .int (-nI v)), (6, .int 0), (1, .int (nI (n + 2))), (2, .ref a)]) dJ6_getChars_ba4f3_73 rfl (((show _ + Int32.ofInt (-1) = _ + (-1) from rfl).trans (pk_m1 (n + 1)))) (by decide) rfl ?_
  refine mk_iload C 0 dJ6_getChars_ba4f3_76 rfl ?_
  refine mk_gets C z1 mw_836 dJ6_getChars_ba4f3_78 ?_
  refine mk_iload_n C 1 dJ6_getChars_ba4f3_81 rfl ?_
  refine mk_ineg C dJ6_getChars_ba4f3_82 ?_
  refine mk_topi (y := nI v) (Int32.neg_neg) ?_
  refine mk_baldE C T1 (vp_in_nI (by omega) (by decide)) (v := .int (nI (48 + v % 10))) (by rw [nI_clamp (by omega)]) dJ6_getChars_ba4f3_83 ?_
  refine mk_bast C 0 2 rfl rfl (vp_in_nI (by omega) (by omega)) (j := (n + 1)) (nI_clamp (by omega)) (v := nI (48 + v % 10)) (jk_bb _ (by omega)).1 (ws' := [(a, .inl (cB, mm, .inl (upd f (n + 1) (nI (48 + v % 10)))))]) rfl dJ6_getChars_ba4f3_84 ?_
  refine mk_iload_n C 1 dJ6_getChars_ba4f3_85 rfl ?_
  refine mk_bipush C (v := (-9)) dJ6_getChars_ba4f3_86 (by decide) ?_
  refine mk_icmp_ge C 104 dJ6_getChars_ba4f3_88 (by decide) (fun h9 => absurd h9 (fun z => absurd ((sb_nle (a := 9) (b := v) (by decide) (by omega)).mp z) (by omega))) (fun _ => ?_)
  refine mk_aload_n C 4 dJ6_getChars_ba4f3_91 rfl ?_
  refine mk_iinc C 0 (v := nI n) (lv' := [(5, .int (nI n)), (0, .int (-nI v)), (6, .int 0), (1, .int (nI (n + 2))), (2, .ref a)]) dJ6_getChars_ba4f3_92 rfl (((show _ + Int32.ofInt (-1) = _ + (-1) from rfl).trans (pk_m1 n))) (by decide) rfl ?_
  refine mk_iload C 0 dJ6_getChars_ba4f3_95 rfl ?_
  refine mk_gets C z2 mw_838 dJ6_getChars_ba4f3_97 ?_
  refine mk_iload_n C 1 dJ6_getChars_ba4f3_100 rfl ?_
  refine mk_ineg C dJ6_getChars_ba4f3_101 ?_
  refine mk_topi (y := nI v) (Int32.neg_neg) ?_
  refine mk_baldE C T2 (vp_in_nI (by omega) (by decide)) (v := .int (nI (48 + v / 10))) (by rw [nI_clamp (by omega)]) dJ6_getChars_ba4f3_102 ?_
  refine mk_bast C 0 2 rfl rfl (vp_in_nI (by omega) (by omega)) (j := n) (nI_clamp (by omega)) (v := nI (48 + v / 10)) (jk_bb _ (by omega)).1 (ws' := [(a, .inl (cB, mm, .inl (upd (upd f (n + 1) (nI (48 + v % 10))) n (nI (48 + v / 10)))))]) rfl dJ6_getChars_ba4f3_103 ?_
  refine mk_iload C 2 dJ6_getChars_ba4f3_104 rfl ?_
  refine mk_if_eq C 118 dJ6_getChars_ba4f3_106 (by decide) (fun _ => ?_) (fun h9 => absurd (rfl) h9)
  refine mk_iload C 0 dJ6_getChars_ba4f3_118 rfl ?_
  exact mk_iretG C hr hlk rfl _ (jk_g2 h1 h2 hf) rfl rfl dJ6_getChars_ba4f3_120
set_option maxHeartbeats 4000000 in
set_option maxRecDepth 100000 in
theorem c_gC3 (l : Launch) (D : va_G) (cI cJ cB cZ cS : ClassId) (X : Nat → Nat) (Y : mk_Y) (a mm v n p : Nat) (f : Nat → Int32) (h1 : 100 ≤ v) (h2 : v < 1000) (hp : p = n + 3) (hpm : p ≤ mm) (hm : mm ≤ 2002) (hf : sb_Fit f) : mk_MetG l yJ6_getChars_ba4f3 cJ6_getChars_ba4f3 7 (some .int) ({ frames := 0, cells := 0, slots := 0, locals := 0 }) D (mk_TY cI cJ cB cZ cS) X Y [.int (nI v), .int (nI p), .ref a] [(a, .inl (cB, mm, .inl f))] (fun f' : Nat → Int32 => pDg v n f f') (fun _ => some (.int (nI n))) (fun f' => [(a, .inl (cB, mm, .inl f'))]) 0 0 := by
  subst hp
  refine mk_startG (own := "java/lang/Integer") (by decide) rfl (Nat.le_of_ble_eq_true rfl) ?_
  intro sz p e s m args below meth c A C hr hlk hnm
  replace C : mk_Cx p s m args c cJ6_getChars_ba4f3 7 "java/lang/Integer" D (mk_TY cI cJ cB cZ cS) X Y A := C
  obtain ⟨t1, z1, T1⟩ := C.2.2.1.2.2.2.2.2.2.1
  obtain ⟨t2, z2, T2⟩ := C.2.2.1.2.2.2.2.2.2.2
  refine mk_iload_n C 1 dJ6_getChars_ba4f3_0 rfl ?_
  refine mk_istore C (lv' := [(5, .int (nI (n + 3))), (0, .int (nI v)), (1, .int (nI (n + 3))), (2, .ref a)]) dJ6_getChars_ba4f3_1 (by decide) rfl ?_
  refine mk_iload_n C 1 dJ6_getChars_ba4f3_3 rfl ?_
  refine mk_if_ge C 11 dJ6_getChars_ba4f3_4 (by decide) (fun _ => ?_) (fun h9 => absurd (nI_pos' (by omega)) h9)
  refine mk_iconst C (v := 0) dJ6_getChars_ba4f3_11 (by decide) ?_
  refine mk_istore C (lv' := [(6, .int 0), (5, .int (nI (n + 3))), (0, .int (nI v)), (1, .int (nI (n + 3))), (2, .ref a)]) dJ6_getChars_ba4f3_12 (by decide) rfl ?_
  refine mk_iload C 0 dJ6_getChars_ba4f3_14 rfl ?_
  refine mk_if_ne C 22 dJ6_getChars_ba4f3_16 (by decide) (fun h9 => absurd h9 (fun z => z rfl)) (fun _ => ?_)
  refine mk_iload_n C 2 dJ6_getChars_ba4f3_19 rfl ?_
  refine mk_ineg C dJ6_getChars_ba4f3_20 ?_
  refine mk_istore_n C (lv' := [(0, .int (-nI v)), (6, .int 0), (5, .int (nI (n + 3))), (1, .int (nI (n + 3))), (2, .ref a)]) dJ6_getChars_ba4f3_21 (by decide) rfl ?_
  refine mk_iload_n C 0 dJ6_getChars_ba4f3_22 rfl ?_
  refine mk_bipush C (v := (-100)) dJ6_getChars_ba4f3_23 (by decide) ?_
  refine mk_icmp_gt C 72 dJ6_getChars_ba4f3_25 (by decide) (fun h9 => absurd h9 (fun z => absurd ((sb_nlt (a := 100) (b := v) (by decide) (by omega)).mp z) (by omega))) (fun _ => ?_)
  refine mk_iload_n C 0 dJ6_getChars_ba4f3_28 rfl ?_
  refine mk_bipush C (v := 100) dJ6_getChars_ba4f3_29 (by decide) ?_
  refine mk_idiv C dJ6_getChars_ba4f3_31 (by decide) ?_
  refine mk_topi (y := (-nI (v / 100))) (sb_ndiv (by omega)) ?_
  refine mk_istore_n C (lv' := [(3, .int (-nI (v / 100))), (0, .int (-nI v)), (6, .int 0), (5, .int (nI (n + 3))), (1, .int (nI (n + 3))), (2, .ref a)]) dJ6_getChars_ba4f3_32 (by decide) rfl ?_
  refine mk_iload_n C 0 dJ6_getChars_ba4f3_33 rfl ?_
  refine mk_bipush C (v := 100) dJ6_getChars_ba4f3_34 (by decide) ?_
  refine mk_imul C dJ6_getChars_ba4f3_36 ?_
  refine mk_iload_n C 1 dJ6_getChars_ba4f3_37 rfl ?_
  refine mk_isub C dJ6_getChars_ba4f3_38 ?_
  refine mk_topi (y := nI (v % 100)) (sb_nrem (by omega)) ?_
  refine mk_istore C (lv' := [(4, .int (nI (v % 100))), (3, .int (-nI (v / 100))), (0, .int (-nI v)), (6, .int 0), (5, .int (nI (n + 3))), (1, .int (nI (n + 3))), (2, .ref a)]) dJ6_getChars_ba4f3_39 (by decide) rfl ?_
  refine mk_iload_n C 1 dJ6_getChars_ba4f3_41 rfl ?_
  refine mk_istore_n C (lv' := [(0, .int (-nI (v / 100))), (4, .int (nI (v % 100))), (3, .int (-nI (v / 100))), (6, .int 0), (5, .int (nI (n + 3))), (1, .int (nI (n + 3))), (2, .ref a)]) dJ6_getChars_ba4f3_42 (by decide) rfl ?_
  refine mk_aload_n C 6 dJ6_getChars_ba4f3_43 rfl ?_
  refine mk_iinc C 4 (v := nI (n + 2)) (lv' := [(5, .int (nI (n + 2))), (0, .int (-nI (v / 100))), (4, .int (nI (v % 100))), (3, .int (-nI (v / 100))), (6, .int 0), (1, .int (nI (n + 3))), (2, .ref a)]) dJ6_getChars_ba4f3_44 rfl (((show _ + Int32.ofInt (-1) = _ + (-1) from rfl).trans (pk_m1 (n + 2)))) (by decide) rfl ?_
  refine mk_iload C 0 dJ6_getChars_ba4f3_47 rfl ?_
  refine mk_gets C z1 mw_836 dJ6_getChars_ba4f3_49 ?_
  refine mk_iload C 2 dJ6_getChars_ba4f3_52 rfl ?_
  refine mk_baldE C T1 (vp_in_nI (by omega) (by decide)) (v := .int (nI (48 + v % 100 % 10))) (by rw [nI_clamp (by omega)]) dJ6_getChars_ba4f3_54 ?_
  refine mk_bast C 0 2 rfl rfl (vp_in_nI (by omega) (by omega)) (j := (n + 2)) (nI_clamp (by omega)) (v := nI (48 + v % 100 % 10)) (jk_bb _ (by omega)).1 (ws' := [(a, .inl (cB, mm, .inl (upd f (n + 2) (nI (48 + v % 100 % 10)))))]) rfl dJ6_getChars_ba4f3_55 ?_
  refine mk_aload_n C 6 dJ6_getChars_ba4f3_56 rfl ?_
  refine mk_iinc C 0 (v := nI (n + 1)) (lv' := [(5, .int (nI (n + 1))), (0, .int (-nI (v / 100))), (4, .int (nI (v % 100))), (3, .int (-nI (v / 100))), (6, .int 0), (1, .int (nI (n + 3))), (2, .ref a)]) dJ6_getChars_ba4f3_57 rfl (((show _ + Int32.ofInt (-1) = _ + (-1) from rfl).trans (pk_m1 (n + 1)))) (by decide) rfl ?_
  refine mk_iload C 0 dJ6_getChars_ba4f3_60 rfl ?_
  refine mk_gets C z2 mw_838 dJ6_getChars_ba4f3_62 ?_
  refine mk_iload C 2 dJ6_getChars_ba4f3_65 rfl ?_
  refine mk_baldE C T2 (vp_in_nI (by omega) (by decide)) (v := .int (nI (48 + v % 100 / 10))) (by rw [nI_clamp (by omega)]) dJ6_getChars_ba4f3_67 ?_
  refine mk_bast C 0 2 rfl rfl (vp_in_nI (by omega) (by omega)) (j := (n + 1)) (nI_clamp (by omega)) (v := nI (48 + v % 100 / 10)) (jk_bb _ (by omega)).1 (ws' := [(a, .inl (cB, mm, .inl (upd (upd f (n + 2) (nI (48 + v % 100 % 10))) (n + 1) (nI (48 + v % 100 / 10)))))]) rfl dJ6_getChars_ba4f3_68 ?_
  refine mk_goto C 22 dJ6_getChars_ba4f3_69 (by decide) ?_
  refine mk_iload_n C 1 dJ6_getChars_ba4f3_22 rfl ?_
  refine mk_bipush C (v := (-100)) dJ6_getChars_ba4f3_23 (by decide) ?_
  refine mk_icmp_gt C 72 dJ6_getChars_ba4f3_25 (by decide) (fun _ => ?_) (fun h9 => absurd (show -nI 100 < -nI (v / 100) from (sb_nlt (by decide) (by omega)).mpr (by omega)) h9)
  refine mk_aload_n C 6 dJ6_getChars_ba4f3_72 rfl ?_
  refine mk_iinc C 0 (v := nI n) (lv' := [(5, .int (nI n)), (0, .int (-nI (v / 100))), (4, .int (nI (v % 100))), (3, .int (-nI (v / 100))), (6, .int 0), (1, .int (nI (n + 3))), (2, .ref a)]) dJ6_getChars_ba4f3_73 rfl (((show _ + Int32.ofInt (-1) = _ + (-1) from rfl).trans (pk_m1 n))) (by decide) rfl ?_
  refine mk_iload C 0 dJ6_getChars_ba4f3_76 rfl ?_
  refine mk_gets C z1 mw_836 dJ6_getChars_ba4f3_78 ?_
  refine mk_iload_n C 1 dJ6_getChars_ba4f3_81 rfl ?_
  refine mk_ineg C dJ6_getChars_ba4f3_82 ?_
  refine mk_topi (y := nI (v / 100)) (Int32.neg_neg) ?_
  refine mk_baldE C T1 (vp_in_nI (by omega) (by decide)) (v := .int (nI (48 + v / 100 % 10))) (by rw [nI_clamp (by omega)]) dJ6_getChars_ba4f3_83 ?_
  refine mk_bast C 0 2 rfl rfl (vp_in_nI (by omega) (by omega)) (j := n) (nI_clamp (by omega)) (v := nI (48 + v / 100 % 10)) (jk_bb _ (by omega)).1 (ws' := [(a, .inl (cB, mm, .inl (upd (upd (upd f (n + 2) (nI (48 + v % 100 % 10))) (n + 1) (nI (48 + v % 100 / 10))) n (nI (48 + v / 100 % 10)))))]) rfl dJ6_getChars_ba4f3_84 ?_
  refine mk_iload_n C 1 dJ6_getChars_ba4f3_85 rfl ?_
  refine mk_bipush C (v := (-9)) dJ6_getChars_ba4f3_86 (by decide) ?_
  refine mk_icmp_ge C 104 dJ6_getChars_ba4f3_88 (by decide) (fun _ => ?_) (fun h9 => absurd (show -nI 9 ≤ -nI (v / 100) from (sb_nle (by decide) (by omega)).mpr (by omega)) h9)
  refine mk_iload C 4 dJ6_getChars_ba4f3_104 rfl ?_
  refine mk_if_eq C 118 dJ6_getChars_ba4f3_106 (by decide) (fun _ => ?_) (fun h9 => absurd (rfl) h9)
  refine mk_iload C 0 dJ6_getChars_ba4f3_118 rfl ?_
  exact mk_iretG C hr hlk rfl _ (jk_g3 h1 h2 hf) rfl rfl dJ6_getChars_ba4f3_120
theorem c_gC (l : Launch) (D : va_G) (cI cJ cB cZ cS : ClassId) (X : Nat → Nat) (Y : mk_Y) (a mm v n : Nat) (f : Nat → Int32) (hv : v < 1000) (hpm : n + sb_dg v ≤ mm) (hm : mm ≤ 2002) (hf : sb_Fit f) : mk_MetG l yJ6_getChars_ba4f3 cJ6_getChars_ba4f3 7 (some .int) ({ frames := 0, cells := 0, slots := 0, locals := 0 }) D (mk_TY cI cJ cB cZ cS) X Y [.int (nI v), .int (nI (n + sb_dg v)), .ref a] [(a, .inl (cB, mm, .inl f))] (fun f' : Nat → Int32 => pDg v n f f') (fun _ => some (.int (nI n))) (fun f' => [(a, .inl (cB, mm, .inl f'))]) 0 0 := by
  by_cases h1 : v < 10
  · exact c_gC1 l D cI cJ cB cZ cS X Y a mm v n _ f h1 (by rw [jk_d1 h1]) hpm hm hf
  · by_cases h2 : v < 100
    · exact c_gC2 l D cI cJ cB cZ cS X Y a mm v n _ f (by omega) h2 (by rw [jk_d2 (by omega) h2]) hpm hm hf
    · exact c_gC3 l D cI cJ cB cZ cS X Y a mm v n _ f (by omega) hv (by rw [jk_d3 (by omega) hv]) hpm hm hf
set_option maxHeartbeats 4000000 in
set_option maxRecDepth 100000 in
theorem c_asI (l : Launch) (D : va_G) (cI cJ cB cZ cS : ClassId) (X : Nat → Nat) (Y : mk_Y) (b v mm n x : Nat) (t : Nat → Nat) (f : Nat → Int32) (hx : x < 1000) (hp : pSB n t (v, mm, f)) (hn : n + sb_dg x ≤ 1000) : mk_MetG l yJ5_append_c97b9 cJ5_append_c97b9 4 (some (.object "java/lang/AbstractStringBuilder")) ({ frames := 4, cells := 1, slots := 4100, locals := 114 }) D (mk_TY cI cJ cB cZ cS) X Y [.ref b, .int (nI x)] [(b, .inr (11, [.ref v, .int 0, .int 0, .int (nI n)])), (v, .inl (cB, mm, .inl f))] (fun u : Nat × Nat × (Nat → Int32) => pSB (n + sb_dg x) (sb_cat t n (sb_dec x)) u) (fun _ => some (.ref b)) (fun u => wSB cB b (n + sb_dg x) u) 1 4100 := by
  refine mk_startG (own := "java/lang/AbstractStringBuilder") (by decide) rfl (Nat.le_of_ble_eq_true rfl) ?_
  intro sz p e s m args below meth c A C hr hlk hnm
  replace C : mk_Cx p s m args c cJ5_append_c97b9 4 "java/lang/AbstractStringBuilder" D (mk_TY cI cJ cB cZ cS) X Y A := C
  refine mk_aload_n C 0 dJ5_append_c97b9_0 rfl ?_
  refine mk_get C mk_inJ4 0 rfl rfl 3 (by decide) mw_715 (v := .int (nI n)) rfl dJ5_append_c97b9_1 ?_
  refine mk_istore_n C (lv' := [(2, .int (nI n)), (0, .ref b), (1, .int (nI x))]) dJ5_append_c97b9_4 (by decide) rfl ?_
  refine mk_iload_n C 0 dJ5_append_c97b9_5 rfl ?_
  refine mk_iload_n C 2 dJ5_append_c97b9_6 rfl ?_
  refine mk_callSi C (c_sSz l D cI cJ cB cZ cS X Y x hx) mw_830 mw_831 mw_22 mw_832 mkq_J6_stringSize_0f7a4 rfl ⟨Nat.le_of_ble_eq_true rfl, Nat.le_of_ble_eq_true rfl⟩ (mk_Fr.nil _) (Nat.le_of_ble_eq_true rfl) dJ5_append_c97b9_7 rfl ?_
  refine mk_iadd C dJ5_append_c97b9_10 ?_
  refine mk_topi (y := nI (n + sb_dg x)) (nI_add _ _) ?_
  refine mk_istore_n C (lv' := [(3, .int (nI (n + sb_dg x))), (2, .int (nI n)), (0, .ref b), (1, .int (nI x))]) dJ5_append_c97b9_11 (by decide) rfl ?_
  refine mk_aload_n C 2 dJ5_append_c97b9_12 rfl ?_
  refine mk_iload_n C 0 dJ5_append_c97b9_13 rfl ?_
  refine mk_callUG (wr := []) (wc := [(b, .inr (11, [.ref v, .int 0, .int 0, .int (nI n)])), (v, .inl (cB, mm, .inl f))]) C (c_ens l D cI cJ cB cZ cS X Y b v mm n (n + sb_dg x) t f hp hn) mw_737 mw_1040 mw_739 mw_p0 mw_11 mw_740 mkq_J5_ensureCapacityInternal_d00df rfl ⟨Nat.le_of_ble_eq_true rfl, Nat.le_of_ble_eq_true rfl⟩ ⟨rfl, rfl⟩ ⟨Nat.le_of_ble_eq_true rfl, Nat.le_of_ble_eq_true rfl⟩ 0 rfl (List.Perm.refl _) mk_Xt.rf (Nat.le_of_ble_eq_true rfl) dJ5_append_c97b9_14 rfl (fun u hu => ?_)
  obtain ⟨v', mm', f'⟩ := u
  have hm' : n + sb_dg x ≤ mm' := hu.2
  have h2' : mm' ≤ 2002 := hu.1.2.1
  refine mk_weq (ws' := [(b, .inr (11, [.ref v', .int 0, .int 0, .int (nI n)])), (v', .inl (cB, mm', .inl f'))]) rfl ?_
  show mk_Go p l e _ s m _ below meth c D A 4 _ _ _ _ _ _ []
  refine mk_aload_n C 2 dJ5_append_c97b9_17 rfl ?_
  refine mk_callUG (wr := [(v', .inl (cB, mm', .inl f'))]) (wc := [(b, .inr (11, [.ref v', .int 0, .int 0, .int (nI n)]))]) C (c_asL l D cI cJ cB cZ cS X Y b v' n) mw_768 mw_770 mw_769 mw_771 mw_11 mw_772 mkq_J5_isLatin1_aae02 rfl ⟨Nat.le_of_ble_eq_true rfl, Nat.le_of_ble_eq_true rfl⟩ ⟨rfl, rfl⟩ ⟨Nat.le_of_ble_eq_true rfl, Nat.le_of_ble_eq_true rfl⟩ 0 rfl (mk_px 2 [1, 0] rfl (by decide) rfl) mk_Xt.rf (Nat.le_of_ble_eq_true rfl) dJ5_append_c97b9_18 rfl (fun u _ => ?_)
  refine mk_weq (ws' := [(v', .inl (cB, mm', .inl f')), (b, .inr (11, [.ref v', .int 0, .int 0, .int (nI n)]))]) rfl ?_
  show mk_Go p l e _ s m _ below meth c D A 4 _ _ _ _ _ _ [.int 1]
  refine mk_if_eq C 37 dJ5_append_c97b9_21 (by decide) (fun h9 => absurd h9 (by decide)) (fun _ => ?_)
  refine mk_iload_n C 3 dJ5_append_c97b9_24 rfl ?_
  refine mk_iload_n C 0 dJ5_append_c97b9_25 rfl ?_
  refine mk_aload_n C 2 dJ5_append_c97b9_26 rfl ?_
  refine mk_get C mk_inJ4 1 rfl rfl 0 (by decide) mw_712 (v := .ref v') rfl dJ5_append_c97b9_27 ?_
  refine mk_callSG (wr := [(b, .inr (11, [.ref v', .int 0, .int 0, .int (nI n)]))]) (wc := [(v', .inl (cB, mm', .inl f'))]) C (c_gC l D cI cJ cB cZ cS X Y v' mm' x n f' hx hm' h2' hu.1.2.2.1) mw_833 mw_834 mw_22 mw_835 mkq_J6_getChars_ba4f3 rfl ⟨Nat.le_of_ble_eq_true rfl, Nat.le_of_ble_eq_true rfl⟩ ⟨rfl, rfl⟩ ⟨Nat.le_of_ble_eq_true rfl, Nat.le_of_ble_eq_true rfl⟩ (mk_px 2 [1, 0] rfl (by decide) rfl) mk_Xt.rf (Nat.le_of_ble_eq_true rfl) dJ5_append_c97b9_30 rfl (fun f2 h2 => ?_)
  refine mk_weq (ws' := [(b, .inr (11, [.ref v', .int 0, .int 0, .int (nI n)])), (v', .inl (cB, mm', .inl f2))]) rfl ?_
  show mk_Go p l e _ s m _ below meth c D A 4 _ _ _ _ _ _ [.int (nI n)]
  refine mk_pop C dJ5_append_c97b9_33 rfl ?_
  refine mk_goto C 48 dJ5_append_c97b9_34 (by decide) ?_
  refine mk_aload_n C 2 dJ5_append_c97b9_48 rfl ?_
  refine mk_iload_n C 0 dJ5_append_c97b9_49 rfl ?_
  refine mk_put C mk_inJ4 tyJ4 tyJ4_ok nmJ4 0 rfl rfl 3 (by decide) mw_715 rfl rfl rfl (Nat.le_of_ble_eq_true rfl) (ws' := [(b, .inr (11, [.ref v', .int 0, .int 0, .int (nI (n + sb_dg x))])), (v', .inl (cB, mm', .inl f2))]) rfl dJ5_append_c97b9_50 ?_
  refine mk_aload_n C 2 dJ5_append_c97b9_53 rfl ?_
  exact mk_aretG C hr (Or.inl ⟨_, rfl⟩) hlk (v', mm', f2) (jk_cat hu.1 hm' (fun j _ => by unfold sb_dec; omega) (fun j hj => h2.1 j (Or.inl hj)) h2.2.1 h2.2.2) rfl rfl dJ5_append_c97b9_54
set_option maxHeartbeats 4000000 in
set_option maxRecDepth 100000 in
theorem c_apI (l : Launch) (D : va_G) (cI cJ cB cZ cS : ClassId) (X : Nat → Nat) (Y : mk_Y) (b v mm n x : Nat) (t : Nat → Nat) (f : Nat → Int32) (hx : x < 1000) (hp : pSB n t (v, mm, f)) (hn : n + sb_dg x ≤ 1000) : mk_MetG l yJ4_append_bf812 cJ4_append_bf812 2 (some (.object "java/lang/StringBuilder")) ({ frames := 5, cells := 1, slots := 4100, locals := 137 }) D (mk_TY cI cJ cB cZ cS) X Y [.ref b, .int (nI x)] [(b, .inr (11, [.ref v, .int 0, .int 0, .int (nI n)])), (v, .inl (cB, mm, .inl f))] (fun u : Nat × Nat × (Nat → Int32) => pSB (n + sb_dg x) (sb_cat t n (sb_dec x)) u) (fun _ => some (.ref b)) (fun u => wSB cB b (n + sb_dg x) u) 1 4100 := by
  refine mk_startG (own := RJ4) (by decide) rfl (Nat.le_of_ble_eq_true rfl) ?_
  intro sz p e s m args below meth c A C hr hlk hnm
  replace C : mk_Cx p s m args c cJ4_append_bf812 2 RJ4 D (mk_TY cI cJ cB cZ cS) X Y A := C
  refine mk_aload_n C 0 dJ4_append_bf812_0 rfl ?_
  refine mk_iload_n C 1 dJ4_append_bf812_1 rfl ?_
  refine mk_callSU (wr := []) (wc := [(b, .inr (11, [.ref v, .int 0, .int 0, .int (nI n)])), (v, .inl (cB, mm, .inl f))]) C (c_asI l D cI cJ cB cZ cS X Y b v mm n x t f hx hp hn) mw_827 mw_1045 mw_724 mw_828 mw_11 mw_829 mkq_J5_append_c97b9 (by decide) rfl ⟨Nat.le_of_ble_eq_true rfl, Nat.le_of_ble_eq_true rfl⟩ ⟨rfl, rfl⟩ ⟨Nat.le_of_ble_eq_true rfl, Nat.le_of_ble_eq_true rfl⟩ 0 rfl (List.Perm.refl _) mk_Xt.rf (Nat.le_of_ble_eq_true rfl) dJ4_append_bf812_2 rfl (fun u hu => ?_)
  show mk_Go p l e _ s m _ below meth c D A 2 _ _ _ _ ([] ++ _) _ [.ref b]
  refine mk_pop C dJ4_append_bf812_5 rfl ?_
  refine mk_aload_n C 0 dJ4_append_bf812_6 rfl ?_
  exact mk_aretG C hr (Or.inl ⟨_, rfl⟩) hlk u hu rfl rfl dJ4_append_bf812_7
set_option maxHeartbeats 4000000 in
set_option maxRecDepth 100000 in
theorem c_gV (l : Launch) (D : va_G) (cI cJ cB cZ cS : ClassId) (X : Nat → Nat) (Y : mk_Y) (b v n : Nat) : mk_MetG l yJ5_getValue_6d5f1 cJ5_getValue_6d5f1 1 (some (.array .byte)) ({ frames := 0, cells := 0, slots := 0, locals := 0 }) D (mk_TY cI cJ cB cZ cS) X Y [.ref b] [(b, .inr (11, [.ref v, .int 0, .int 0, .int (nI n)]))] (fun _ : Unit => True) (fun _ => some (.ref v)) (fun _ => [(b, .inr (11, [.ref v, .int 0, .int 0, .int (nI n)]))]) 0 0 := by
  refine mk_startG (own := "java/lang/AbstractStringBuilder") (by decide) rfl (Nat.le_of_ble_eq_true rfl) ?_
  intro sz p e s m args below meth c A C hr hlk hnm
  replace C : mk_Cx p s m args c cJ5_getValue_6d5f1 1 "java/lang/AbstractStringBuilder" D (mk_TY cI cJ cB cZ cS) X Y A := C
  refine mk_aload_n C 0 dJ5_getValue_6d5f1_0 rfl ?_
  refine mk_get C mk_inJ4 0 rfl rfl 0 (by decide) mw_712 (v := .ref v) rfl dJ5_getValue_6d5f1_1 ?_
  exact mk_aretG C hr (Or.inr ⟨_, rfl⟩) hlk () trivial rfl rfl dJ5_getValue_6d5f1_4
set_option maxHeartbeats 4000000 in
set_option maxRecDepth 100000 in
theorem c_aLen (l : Launch) (D : va_G) (cI cJ cB cZ cS : ClassId) (X : Nat → Nat) (Y : mk_Y) (b v n : Nat) : mk_MetG l yJ5_length_8abf5 cJ5_length_8abf5 1 (some .int) ({ frames := 0, cells := 0, slots := 0, locals := 0 }) D (mk_TY cI cJ cB cZ cS) X Y [.ref b] [(b, .inr (11, [.ref v, .int 0, .int 0, .int (nI n)]))] (fun _ : Unit => True) (fun _ => some (.int (nI n))) (fun _ => [(b, .inr (11, [.ref v, .int 0, .int 0, .int (nI n)]))]) 0 0 := by
  refine mk_startG (own := "java/lang/AbstractStringBuilder") (by decide) rfl (Nat.le_of_ble_eq_true rfl) ?_
  intro sz p e s m args below meth c A C hr hlk hnm
  replace C : mk_Cx p s m args c cJ5_length_8abf5 1 "java/lang/AbstractStringBuilder" D (mk_TY cI cJ cB cZ cS) X Y A := C
  refine mk_aload_n C 0 dJ5_length_8abf5_0 rfl ?_
  refine mk_get C mk_inJ4 0 rfl rfl 3 (by decide) mw_715 (v := .int (nI n)) rfl dJ5_length_8abf5_1 ?_
  exact mk_iretG C hr hlk rfl () trivial rfl rfl dJ5_length_8abf5_4
theorem mk_callOG {p : Program} {l : Launch} {e : Env} {R : Room} {s : State} {m : MethodId} {args : Array Value} {below : List Frame} {meth : Method} {c : Code} {D : va_G} {A : Nat → Prop} {nL cells slots : Nat} {Q : State → Prop} {pc : Nat} {ws : va_W} {lv : mk_L} {st : List Value} {cc : ByteArray} {own : String} {cI cJ cB cZ cS : ClassId} {X X' : Nat → Nat} {Y Y' : mk_Y} {S : Type} {P : S → Prop} {rs : S → Option Value} {wf : S → va_W} (C : mk_Cx p s m args c cc nL own D (mk_TY cI cJ cB cZ cS) X Y A) {x y : MethodName} {cy b0 : ByteArray} {nY index n m0 : Nat} {ret r0 : Option FieldType} {rm : Room} {b : Nat} {fs : List Value} {As stk : List Value} {wr wc : va_W} {mc ms : Nat}
    (hM : mk_MetG l y cy nY ret rm D (mk_TY cI cJ cB cZ cS) X' Y' (.ref b :: As) wc P rs wf mc ms) (h1 : Cond.methodLink own index x ∈ mk_WL) (h0 : Cond.sameMethod x.cls x.cls x.name x.desc ∈ mk_WL) (hx : Cond.instanceMethod x ∈ mk_WL) (h3 : Cond.selects RJ4 x y ∈ mk_WL) (h2 : Cond.instanceMethod y ∈ mk_WL) (h4 : Cond.initialized y.cls ∈ mk_WL) (h5 : Cond.code y cy nY ret ∈ mk_WL) (h6 : Cond.code x b0 m0 r0 ∈ mk_WL) (hn : mk_nm x n) (hAs : As.length = n)
    (hR : rm.frames + 1 ≤ R.frames ∧ 8 + (nY + 11) + rm.locals ≤ R.locals) (hrm : rm.cells = mc ∧ rm.slots = ms) (hroom : cells + mc ≤ R.cells ∧ slots + ms ≤ R.slots) (q0 : Nat) (he : ws[q0]? = some (b, .inr (11, fs))) (hF : ws.Perm (wr ++ wc)) (hX : mk_Xt X X' Y Y' cB wr) (hst : (st.map fun v => v.category).sum ≤ 8)
    (hdg : decode cc pc = .ok (.invokevirtual index, 3)) (hs : stk = As.reverse ++ .ref b :: st) (kk : ∀ u : S, P u → mk_Go p l e R s m args below meth c D A nL (cells + mc) (slots + ms) Q (pc + 3) (wr ++ wf u) lv ((rs u).toList ++ st)) : mk_Go p l e R s m args below meth c D A nL cells slots Q pc ws lv stk := by
  subst hs
  intro H locs ls hP hD hS hl
  have hp := mk_preX (av := .ref b :: As) C hF hX hP hD hS
  have hG : GoodIn mk_WL (va_wsO own index RJ4 x.cls x y (mk_ws y cy nY ret)) := mk_goodM (fun w hw => by
    unfold va_wsO at hw
    rcases List.mem_append.mp hw with h | h
    · simp only [List.mem_cons, List.not_mem_nil, or_false] at h
      rcases h with rfl | rfl | rfl | rfl | rfl | rfl
      · exact h1
      · exact h0
      · exact hx
      · exact h3
      · exact h2
      · exact h4
    · exact mk_wsM h5 w h)
  exact mk_backG C hF hP hD hS hl (va_runU (As := As) (rest := st) (C := RJ4) (owner := x.cls) (n := n) C.1 (hM H.size) (va_cwO n C.1.2.2.2.2 hG rfl hrm.1 hrm.2 h6 ⟨hn.1, hn.2.1, hn.2.2⟩ hR) ⟨hp.1, va_recv C.2.1 hP (q := (RJ4, TJ4, 4)) rfl he, hp.2⟩ rfl hAs hl.1 rfl (lv_room hst) hdg hroom) kk
set_option maxHeartbeats 4000000 in
set_option maxRecDepth 100000 in
theorem c_sLen (l : Launch) (D : va_G) (cI cJ cB cZ cS : ClassId) (X : Nat → Nat) (Y : mk_Y) (b v n : Nat) : mk_MetG l yJ4_length_8abf5 cJ4_length_8abf5 1 (some .int) ({ frames := 1, cells := 0, slots := 0, locals := 20 }) D (mk_TY cI cJ cB cZ cS) X Y [.ref b] [(b, .inr (11, [.ref v, .int 0, .int 0, .int (nI n)]))] (fun _ : Unit => True) (fun _ => some (.int (nI n))) (fun _ => [(b, .inr (11, [.ref v, .int 0, .int 0, .int (nI n)]))]) 0 0 := by
  refine mk_startG (own := RJ4) (by decide) rfl (Nat.le_of_ble_eq_true rfl) ?_
  intro sz p e s m args below meth c A C hr hlk hnm
  replace C : mk_Cx p s m args c cJ4_length_8abf5 1 RJ4 D (mk_TY cI cJ cB cZ cS) X Y A := C
  refine mk_aload_n C 0 dJ4_length_8abf5_0 rfl ?_
  refine mk_callSU (wr := []) (wc := [(b, .inr (11, [.ref v, .int 0, .int 0, .int (nI n)]))]) C (c_aLen l D cI cJ cB cZ cS X Y b v n) mw_876 mw_872 mw_724 mw_871 mw_11 mw_877 mkq_J5_length_8abf5 (by decide) rfl ⟨Nat.le_of_ble_eq_true rfl, Nat.le_of_ble_eq_true rfl⟩ ⟨rfl, rfl⟩ ⟨Nat.le_of_ble_eq_true rfl, Nat.le_of_ble_eq_true rfl⟩ 0 rfl (List.Perm.refl _) mk_Xt.rf (Nat.le_of_ble_eq_true rfl) dJ4_length_8abf5_1 rfl (fun u _ => ?_)
  refine mk_weq (ws' := [(b, .inr (11, [.ref v, .int 0, .int 0, .int (nI n)]))]) rfl ?_
  show mk_Go p l e _ s m _ below meth c D A 1 _ _ _ _ _ _ [.int (nI n)]
  exact mk_iretG C hr hlk rfl () trivial rfl rfl dJ4_length_8abf5_4
set_option maxHeartbeats 4000000 in
set_option maxRecDepth 100000 in
theorem c_ckL (l : Launch) (D : va_G) (cI cJ cB cZ cS : ClassId) (X : Nat → Nat) (Y : mk_Y) (n : Nat) (hn : n < 2 ^ 31) : mk_Met l yJ7_checkLength_df160 cJ7_checkLength_df160 2 none ({ frames := 0, cells := 0, slots := 0, locals := 0 }) D (mk_TY cI cJ cB cZ cS) X Y [.int 0, .int (nI n)] [] [] none 0 0 := by
  refine mk_start (own := "java/util/Arrays") (by decide) rfl (Nat.le_of_ble_eq_true rfl) ?_
  intro sz p e s m args below meth c A C hr hlk hnm
  replace C : mk_Cx p s m args c cJ7_checkLength_df160 2 "java/util/Arrays" D (mk_TY cI cJ cB cZ cS) X Y A := C
  refine mk_iload_n C 1 dJ7_checkLength_df160_0 rfl ?_
  refine mk_iload_n C 0 dJ7_checkLength_df160_1 rfl ?_
  refine mk_icmp_ge C 37 dJ7_checkLength_df160_2 (by decide) (fun _ => ?_) (fun h9 => absurd (nI_pos' hn) h9)
  exact mk_vret C hr hlk rfl dJ7_checkLength_df160_37
set_option maxHeartbeats 4000000 in
set_option maxRecDepth 100000 in
theorem c_cRB (l : Launch) (D : va_G) (cI cJ cB cZ cS : ClassId) (X : Nat → Nat) (Y : mk_Y) (v mm n : Nat) (f : Nat → Int32) (hf : sb_Fit f) (hn : n ≤ mm) (hm : mm ≤ 2002) : mk_MetG l yJ7_copyOfRangeByte_39247 cJ7_copyOfRangeByte_39247 5 (some (.array .byte)) ({ frames := 1, cells := 1, slots := 2002, locals := 70 }) D (mk_TY cI cJ cB cZ cS) X Y [.ref v, .int 0, .int (nI n)] [(v, .inl (cB, mm, .inl f))] (fun u : Nat × (Nat → Int32) => sb_Fit u.2 ∧ ∀ j, j < n → u.2 j = f j) (fun u => some (.ref u.1)) (fun u => [(v, .inl (cB, mm, .inl f)), (u.1, .inl (cB, n, .inl u.2))]) 1 2002 := by
  refine mk_startG (own := "java/util/Arrays") (by decide) rfl (Nat.le_of_ble_eq_true rfl) ?_
  intro sz p e s m args below meth c A C hr hlk hnm
  replace C : mk_Cx p s m args c cJ7_copyOfRangeByte_39247 5 "java/util/Arrays" D (mk_TY cI cJ cB cZ cS) X Y A := C
  refine mk_iload_n C 1 dJ7_copyOfRangeByte_39247_0 rfl ?_
  refine mk_iload_n C 2 dJ7_copyOfRangeByte_39247_1 rfl ?_
  refine mk_callSv C (c_ckL l D cI cJ cB cZ cS X Y n (by omega)) mw_885 mw_886 mw_17 mw_887 mkq_J7_checkLength_df160 rfl ⟨Nat.le_of_ble_eq_true rfl, Nat.le_of_ble_eq_true rfl⟩ (mk_Fr.nil _) (Nat.le_of_ble_eq_true rfl) dJ7_copyOfRangeByte_39247_2 rfl ?_
  refine mk_iload_n C 2 dJ7_copyOfRangeByte_39247_5 rfl ?_
  refine mk_iload_n C 1 dJ7_copyOfRangeByte_39247_6 rfl ?_
  refine mk_isub C dJ7_copyOfRangeByte_39247_7 ?_
  refine mk_topi (y := nI n) (Int32.sub_zero _) ?_
  refine mk_istore_n C (lv' := [(3, .int (nI n)), (0, .ref v), (1, .int 0), (2, .int (nI n))]) dJ7_copyOfRangeByte_39247_8 (by decide) rfl ?_
  refine mk_iload_n C 0 dJ7_copyOfRangeByte_39247_9 rfl ?_
  refine mk_newB C mw_619 (nI_pos (by omega)) (N := n) (nI_clamp (by omega)) (by omega) ⟨Nat.le_of_ble_eq_true rfl, by show 0 + n ≤ 2002; omega⟩ dJ7_copyOfRangeByte_39247_10 (fun q => ?_)
  refine mk_weq (ws' := [(v, .inl (cB, mm, .inl f)), (q, .inl (cB, n, .inl (fun _ => 0)))]) rfl ?_
  refine mk_astore C (lv' := [(4, .ref q), (3, .int (nI n)), (0, .ref v), (1, .int 0), (2, .int (nI n))]) dJ7_copyOfRangeByte_39247_12 (by decide) rfl ?_
  refine mk_aload_n C 2 dJ7_copyOfRangeByte_39247_14 rfl ?_
  refine mk_iload_n C 3 dJ7_copyOfRangeByte_39247_15 rfl ?_
  refine mk_aload C 0 dJ7_copyOfRangeByte_39247_16 rfl ?_
  refine mk_iconst C (v := 0) dJ7_copyOfRangeByte_39247_18 (by decide) ?_
  refine mk_aload_n C 2 dJ7_copyOfRangeByte_39247_19 rfl ?_
  refine mk_alen C 0 2 rfl rfl (v := nI mm) rfl dJ7_copyOfRangeByte_39247_20 ?_
  refine mk_iload_n C 3 dJ7_copyOfRangeByte_39247_21 rfl ?_
  refine mk_isub C dJ7_copyOfRangeByte_39247_22 ?_
  refine mk_topi (y := nI mm) (Int32.sub_zero _) ?_
  refine mk_iload_n C 1 dJ7_copyOfRangeByte_39247_23 rfl ?_
  refine mk_mmin C mw_764 mw_546 mw_16 mw_547 ⟨Nat.le_of_ble_eq_true rfl, Nat.le_of_ble_eq_true rfl⟩ ⟨Nat.le_of_ble_eq_true rfl, by show 0 + n ≤ 2002; omega⟩ dJ7_copyOfRangeByte_39247_24 ?_
  refine mk_topi (y := nI n) (jk_min hn (by omega)) ?_
  refine mk_copyB (sp := 0) (dp := 0) (n := n) C mw_765 mw_767 mw_766 mw_18 0 1 2 rfl rfl rfl (by omega) (by omega) (by omega) (by omega) hf ⟨Nat.le_of_ble_eq_true rfl, Nat.le_of_ble_eq_true rfl⟩ (ws' := [(v, .inl (cB, mm, .inl f)), (q, .inl (cB, n, .inl (va_cpy f (fun _ => 0) 0 0 n)))]) rfl dJ7_copyOfRangeByte_39247_27 ?_
  refine mk_aload C 0 dJ7_copyOfRangeByte_39247_30 rfl ?_
  refine mk_widen (k := 1) (n := 2002) (by omega) (by omega) ?_
  exact mk_aretG C hr (Or.inr ⟨_, rfl⟩) hlk (q, va_cpy f (fun _ => 0) 0 0 n) ⟨sb_fitC hf sb_fit0, fun j hj => (show va_cpy f (fun _ => 0) 0 0 n j = f j from sb_cpy0 hj)⟩ rfl rfl dJ7_copyOfRangeByte_39247_32
set_option maxHeartbeats 4000000 in
set_option maxRecDepth 100000 in
theorem c_cR (l : Launch) (D : va_G) (cI cJ cB cZ cS : ClassId) (X : Nat → Nat) (Y : mk_Y) (v mm n : Nat) (f : Nat → Int32) (hf : sb_Fit f) (hn : n ≤ mm) (hm : mm ≤ 2002) : mk_MetG l yJ7_copyOfRange_39247 cJ7_copyOfRange_39247 3 (some (.array .byte)) ({ frames := 2, cells := 1, slots := 2002, locals := 94 }) D (mk_TY cI cJ cB cZ cS) X Y [.ref v, .int 0, .int (nI n)] [(v, .inl (cB, mm, .inl f))] (fun u : Nat × (Nat → Int32) => sb_Fit u.2 ∧ ∀ j, j < n → u.2 j = f j) (fun u => some (.ref u.1)) (fun u => [(v, .inl (cB, mm, .inl f)), (u.1, .inl (cB, n, .inl u.2))]) 1 2002 := by
  refine mk_startG (own := "java/util/Arrays") (by decide) rfl (Nat.le_of_ble_eq_true rfl) ?_
  intro sz p e s m args below meth c A C hr hlk hnm
  replace C : mk_Cx p s m args c cJ7_copyOfRange_39247 3 "java/util/Arrays" D (mk_TY cI cJ cB cZ cS) X Y A := C
  refine mk_iload_n C 1 dJ7_copyOfRange_39247_0 rfl ?_
  refine mk_if_ne C 10 dJ7_copyOfRange_39247_1 (by decide) (fun h9 => absurd h9 (fun z => z rfl)) (fun _ => ?_)
  refine mk_iload_n C 2 dJ7_copyOfRange_39247_4 rfl ?_
  refine mk_aload_n C 0 dJ7_copyOfRange_39247_5 rfl ?_
  refine mk_alen C 0 2 rfl rfl (v := nI mm) rfl dJ7_copyOfRange_39247_6 ?_
  refine mk_icmp_eq C 17 dJ7_copyOfRange_39247_7 (by decide) (fun hc => ?_) (fun hc => ?_)
  · have e : n = mm := (nI_eq (by omega) (by omega)).mp hc
    subst e
    refine mk_aload_n C 0 dJ7_copyOfRange_39247_17 rfl ?_
    refine mk_clone C mw_757 mw_758 mw_759 mw_760 mw_761 0 2 rfl rfl hf ⟨Nat.le_of_ble_eq_true rfl, Nat.le_of_ble_eq_true rfl⟩ ⟨Nat.le_of_ble_eq_true rfl, by show 0 + n ≤ 2002; omega⟩ dJ7_copyOfRange_39247_18 (fun q => ?_)
    refine mk_weq (ws' := [(v, .inl (cB, n, .inl f)), (q, .inl (cB, n, .inl f))]) rfl ?_
    refine mk_castA C mw_763 1 2 rfl rfl dJ7_copyOfRange_39247_21 ?_
    refine mk_widen (k := 1) (n := 2002) (by omega) (by omega) ?_
    exact mk_aretG C hr (Or.inr ⟨_, rfl⟩) hlk (q, f) ⟨hf, fun j hj => rfl⟩ rfl rfl dJ7_copyOfRange_39247_24
  · refine mk_aload_n C 0 dJ7_copyOfRange_39247_10 rfl ?_
    refine mk_iload_n C 1 dJ7_copyOfRange_39247_11 rfl ?_
    refine mk_iload_n C 2 dJ7_copyOfRange_39247_12 rfl ?_
    refine mk_callSG (wr := []) (wc := [(v, .inl (cB, mm, .inl f))]) C (c_cRB l D cI cJ cB cZ cS X Y v mm n f hf hn hm) mw_882 mw_883 mw_17 mw_884 mkq_J7_copyOfRangeByte_39247 rfl ⟨Nat.le_of_ble_eq_true rfl, Nat.le_of_ble_eq_true rfl⟩ ⟨rfl, rfl⟩ ⟨Nat.le_of_ble_eq_true rfl, Nat.le_of_ble_eq_true rfl⟩ (List.Perm.refl _) mk_Xt.rf (Nat.le_of_ble_eq_true rfl) dJ7_copyOfRange_39247_13 rfl (fun u hu => ?_)
    refine mk_weq (ws' := [(v, .inl (cB, mm, .inl f)), (u.1, .inl (cB, n, .inl u.2))]) rfl ?_
    show mk_Go p l e _ s m _ below meth c D A 3 _ _ _ _ _ _ [.ref u.1]
    exact mk_aretG C hr (Or.inr ⟨_, rfl⟩) hlk u hu rfl rfl dJ7_copyOfRange_39247_16
set_option maxHeartbeats 4000000 in
set_option maxRecDepth 100000 in
theorem c_sI1 (l : Launch) (D : va_G) (cI cJ cB cZ cS : ClassId) (X : Nat → Nat) (Y : mk_Y) (x b v mm n : Nat) (t : Nat → Nat) (f : Nat → Int32) (hp : pSB n t (v, mm, f)) : mk_MetG l yJ0_init_db425 cJ0_init_db425 5 none ({ frames := 3, cells := 1, slots := 2002, locals := 116 }) D (mk_TY cI cJ cB cZ cS) X Y [.ref x, .ref b, .null] [(x, .inr (10, [.null, .int 0, .int 0, .int 0])), (b, .inr (11, [.ref v, .int 0, .int 0, .int (nI n)])), (v, .inl (cB, mm, .inl f))] (fun u : Nat × (Nat → Int32) => ∀ j, j < n → u.2 j = nI (t j)) (fun _ => none) (fun u => [(x, .inr (10, [.ref u.1, .int 0, .int 0, .int 0])), (b, .inr (11, [.ref v, .int 0, .int 0, .int (nI n)])), (v, .inl (cB, mm, .inl f)), (u.1, .inl (cB, n, .inl u.2))]) 1 2002 := by
  refine mk_startG (own := RJ0) (by decide) rfl (Nat.le_of_ble_eq_true rfl) ?_
  intro sz p e s m args below meth c A C hr hlk hnm
  replace C : mk_Cx p s m args c cJ0_init_db425 5 RJ0 D (mk_TY cI cJ cB cZ cS) X Y A := C
  replace hnm : meth.name = "<init>" := hnm
  obtain ⟨hp1, hp2, hp3, hp4⟩ := id hp
  have hp2 : mm ≤ 2002 := hp2
  have hp1 : n ≤ mm := hp1
  refine mk_lvsub [0, 1] (lv' := [(0, .ref x), (1, .ref b)]) rfl ?_
  refine mk_aload_n C 0 dJ0_init_db425_0 rfl ?_
  refine mk_objI C mw_864 mw_29 mw_30 ⟨Nat.le_of_ble_eq_true rfl, Nat.le_of_ble_eq_true rfl⟩ dJ0_init_db425_1 ?_
  refine mk_aload_n C 1 dJ0_init_db425_4 rfl ?_
  refine mk_callUG (wr := [(x, .inr (10, [.null, .int 0, .int 0, .int 0])), (v, .inl (cB, mm, .inl f))]) (wc := [(b, .inr (11, [.ref v, .int 0, .int 0, .int (nI n)]))]) C (c_gV l D cI cJ cB cZ cS X Y b v n) mw_865 mw_867 mw_866 mw_868 mw_11 mw_869 mkq_J5_getValue_6d5f1 rfl ⟨Nat.le_of_ble_eq_true rfl, Nat.le_of_ble_eq_true rfl⟩ ⟨rfl, rfl⟩ ⟨Nat.le_of_ble_eq_true rfl, Nat.le_of_ble_eq_true rfl⟩ 1 rfl (mk_px 3 [0, 2, 1] rfl (by decide) rfl) mk_Xt.rf (Nat.le_of_ble_eq_true rfl) dJ0_init_db425_5 rfl (fun u _ => ?_)
  refine mk_weq (ws' := [(x, .inr (10, [.null, .int 0, .int 0, .int 0])), (v, .inl (cB, mm, .inl f)), (b, .inr (11, [.ref v, .int 0, .int 0, .int (nI n)]))]) rfl ?_
  show mk_Go p l e _ s m _ below meth c D A 5 _ _ _ _ _ _ [.ref v]
  refine mk_astore_n C (lv' := [(3, .ref v), (0, .ref x), (1, .ref b)]) dJ0_init_db425_8 (by decide) rfl ?_
  refine mk_aload_n C 2 dJ0_init_db425_9 rfl ?_
  refine mk_callOG (wr := [(x, .inr (10, [.null, .int 0, .int 0, .int 0])), (v, .inl (cB, mm, .inl f))]) (wc := [(b, .inr (11, [.ref v, .int 0, .int 0, .int (nI n)]))]) C (c_sLen l D cI cJ cB cZ cS X Y b v n) mw_870 mw_872 mw_871 mw_873 mw_874 mw_12 mw_875 mw_877 mkq_J5_length_8abf5 rfl ⟨Nat.le_of_ble_eq_true rfl, Nat.le_of_ble_eq_true rfl⟩ ⟨rfl, rfl⟩ ⟨Nat.le_of_ble_eq_true rfl, Nat.le_of_ble_eq_true rfl⟩ 2 rfl (List.Perm.refl _) mk_Xt.rf (Nat.le_of_ble_eq_true rfl) dJ0_init_db425_10 rfl (fun u _ => ?_)
  refine mk_weq (ws' := [(x, .inr (10, [.null, .int 0, .int 0, .int 0])), (v, .inl (cB, mm, .inl f)), (b, .inr (11, [.ref v, .int 0, .int 0, .int (nI n)]))]) rfl ?_
  show mk_Go p l e _ s m _ below meth c D A 5 _ _ _ _ _ _ [.int (nI n)]
  refine mk_istore C (lv' := [(4, .int (nI n)), (3, .ref v), (0, .ref x), (1, .ref b)]) dJ0_init_db425_13 (by decide) rfl ?_
  refine mk_aload_n C 3 dJ0_init_db425_15 rfl ?_
  refine mk_callUG (wr := [(x, .inr (10, [.null, .int 0, .int 0, .int 0])), (v, .inl (cB, mm, .inl f))]) (wc := [(b, .inr (11, [.ref v, .int 0, .int 0, .int (nI n)]))]) C (c_asL l D cI cJ cB cZ cS X Y b v n) mw_878 mw_770 mw_769 mw_771 mw_11 mw_772 mkq_J5_isLatin1_aae02 rfl ⟨Nat.le_of_ble_eq_true rfl, Nat.le_of_ble_eq_true rfl⟩ ⟨rfl, rfl⟩ ⟨Nat.le_of_ble_eq_true rfl, Nat.le_of_ble_eq_true rfl⟩ 2 rfl (List.Perm.refl _) mk_Xt.rf (Nat.le_of_ble_eq_true rfl) dJ0_init_db425_16 rfl (fun u _ => ?_)
  refine mk_weq (ws' := [(x, .inr (10, [.null, .int 0, .int 0, .int 0])), (v, .inl (cB, mm, .inl f)), (b, .inr (11, [.ref v, .int 0, .int 0, .int (nI n)]))]) rfl ?_
  show mk_Go p l e _ s m _ below meth c D A 5 _ _ _ _ _ _ [.int 1]
  refine mk_if_eq C 41 dJ0_init_db425_19 (by decide) (fun h9 => absurd h9 (by decide)) (fun _ => ?_)
  refine mk_aload_n C 2 dJ0_init_db425_22 rfl ?_
  refine mk_iconst C (v := 0) dJ0_init_db425_23 (by decide) ?_
  refine mk_putF C hnm mk_inJ0 tyJ0 tyJ0_ok nmJ0 0 rfl rfl 1 (by decide) mw_899 rfl rfl rfl rfl (Nat.le_of_ble_eq_true rfl) (ws' := [(x, .inr (10, [.null, .int 0, .int 0, .int 0])), (v, .inl (cB, mm, .inl f)), (b, .inr (11, [.ref v, .int 0, .int 0, .int (nI n)]))]) rfl dJ0_init_db425_24 ?_
  refine mk_aload_n C 2 dJ0_init_db425_27 rfl ?_
  refine mk_aload_n C 1 dJ0_init_db425_28 rfl ?_
  refine mk_iconst C (v := 0) dJ0_init_db425_29 (by decide) ?_
  refine mk_iload C 0 dJ0_init_db425_30 rfl ?_
  refine mk_callSG (wr := [(x, .inr (10, [.null, .int 0, .int 0, .int 0])), (b, .inr (11, [.ref v, .int 0, .int 0, .int (nI n)]))]) (wc := [(v, .inl (cB, mm, .inl f))]) C (c_cR l D cI cJ cB cZ cS X Y v mm n f hp3 hp1 hp2) mw_879 mw_880 mw_17 mw_881 mkq_J7_copyOfRange_39247 rfl ⟨Nat.le_of_ble_eq_true rfl, Nat.le_of_ble_eq_true rfl⟩ ⟨rfl, rfl⟩ ⟨Nat.le_of_ble_eq_true rfl, Nat.le_of_ble_eq_true rfl⟩ (mk_px 3 [0, 2, 1] rfl (by decide) rfl) mk_Xt.rf (Nat.le_of_ble_eq_true rfl) dJ0_init_db425_32 rfl (fun u hu => ?_)
  refine mk_weq (ws' := [(x, .inr (10, [.null, .int 0, .int 0, .int 0])), (b, .inr (11, [.ref v, .int 0, .int 0, .int (nI n)])), (v, .inl (cB, mm, .inl f)), (u.1, .inl (cB, n, .inl u.2))]) rfl ?_
  show mk_Go p l e _ s m _ below meth c D A 5 _ _ _ _ _ _ [.ref u.1, .ref x]
  refine mk_putF C hnm mk_inJ0 tyJ0 tyJ0_ok nmJ0 0 rfl rfl 0 (by decide) mw_898 rfl rfl rfl rfl (Nat.le_of_ble_eq_true rfl) (ws' := [(x, .inr (10, [.ref u.1, .int 0, .int 0, .int 0])), (b, .inr (11, [.ref v, .int 0, .int 0, .int (nI n)])), (v, .inl (cB, mm, .inl f)), (u.1, .inl (cB, n, .inl u.2))]) rfl dJ0_init_db425_35 ?_
  refine mk_goto C 97 dJ0_init_db425_38 (by decide) ?_
  exact mk_vretG C hr hlk u (fun j hj => by rw [hu.2 j hj]; exact hp4 j hj) rfl dJ0_init_db425_97
set_option maxHeartbeats 4000000 in
set_option maxRecDepth 100000 in
theorem c_sI2 (l : Launch) (D : va_G) (cI cJ cB cZ cS : ClassId) (X : Nat → Nat) (Y : mk_Y) (x b v mm n : Nat) (t : Nat → Nat) (f : Nat → Int32) (hp : pSB n t (v, mm, f)) : mk_MetG l yJ0_init_81219 cJ0_init_81219 2 none ({ frames := 4, cells := 1, slots := 2002, locals := 140 }) D (mk_TY cI cJ cB cZ cS) X Y [.ref x, .ref b] [(x, .inr (10, [.null, .int 0, .int 0, .int 0])), (b, .inr (11, [.ref v, .int 0, .int 0, .int (nI n)])), (v, .inl (cB, mm, .inl f))] (fun u : Nat × (Nat → Int32) => ∀ j, j < n → u.2 j = nI (t j)) (fun _ => none) (fun u => [(x, .inr (10, [.ref u.1, .int 0, .int 0, .int 0])), (b, .inr (11, [.ref v, .int 0, .int 0, .int (nI n)])), (v, .inl (cB, mm, .inl f)), (u.1, .inl (cB, n, .inl u.2))]) 1 2002 := by
  refine mk_startG (own := RJ0) (by decide) rfl (Nat.le_of_ble_eq_true rfl) ?_
  intro sz p e s m args below meth c A C hr hlk hnm
  replace C : mk_Cx p s m args c cJ0_init_81219 2 RJ0 D (mk_TY cI cJ cB cZ cS) X Y A := C
  refine mk_aload_n C 0 dJ0_init_81219_0 rfl ?_
  refine mk_aload_n C 1 dJ0_init_81219_1 rfl ?_
  refine mk_anull C dJ0_init_81219_2 ?_
  refine mk_callIG (wr := []) (wc := [(x, .inr (10, [.null, .int 0, .int 0, .int 0])), (b, .inr (11, [.ref v, .int 0, .int 0, .int (nI n)])), (v, .inl (cB, mm, .inl f))]) C (c_sI1 l D cI cJ cB cZ cS X Y x b v mm n t f hp) mw_861 mw_862 mw_13 mw_863 mkq_J0_init_db425 rfl rfl ⟨Nat.le_of_ble_eq_true rfl, Nat.le_of_ble_eq_true rfl⟩ ⟨rfl, rfl⟩ ⟨Nat.le_of_ble_eq_true rfl, Nat.le_of_ble_eq_true rfl⟩ (List.Perm.refl _) mk_Xt.rf (Nat.le_of_ble_eq_true rfl) dJ0_init_81219_3 rfl (fun u hu => ?_)
  refine mk_weq (ws' := [(x, .inr (10, [.ref u.1, .int 0, .int 0, .int 0])), (b, .inr (11, [.ref v, .int 0, .int 0, .int (nI n)])), (v, .inl (cB, mm, .inl f)), (u.1, .inl (cB, n, .inl u.2))]) rfl ?_
  show mk_Go p l e _ s m _ below meth c D A 2 _ _ _ _ _ _ []
  exact mk_vretG C hr hlk u hu rfl dJ0_init_81219_6
set_option maxHeartbeats 4000000 in
set_option maxRecDepth 100000 in
theorem c_toS (l : Launch) (D : va_G) (cI cJ cB cZ cS : ClassId) (X : Nat → Nat) (Y : mk_Y) (b v mm n : Nat) (t : Nat → Nat) (f : Nat → Int32) (hp : pSB n t (v, mm, f)) : mk_MetG l yJ4_toString_0e30d cJ4_toString_0e30d 1 (some (.object "java/lang/String")) ({ frames := 5, cells := 2, slots := 2006, locals := 161 }) D (mk_TY cI cJ cB cZ cS) X Y [.ref b] [(b, .inr (11, [.ref v, .int 0, .int 0, .int (nI n)])), (v, .inl (cB, mm, .inl f))] (fun u : Nat × Nat × (Nat → Int32) => ∀ j, j < n → u.2.2 j = nI (t j)) (fun u => some (.ref u.1)) (fun u => [(b, .inr (11, [.ref v, .int 0, .int 0, .int (nI n)])), (v, .inl (cB, mm, .inl f)), (u.1, .inr (10, [.ref u.2.1, .int 0, .int 0, .int 0])), (u.2.1, .inl (cB, n, .inl u.2.2))]) 2 2006 := by
  refine mk_startG (own := RJ4) (by decide) rfl (Nat.le_of_ble_eq_true rfl) ?_
  intro sz p e s m args below meth c A C hr hlk hnm
  replace C : mk_Cx p s m args c cJ4_toString_0e30d 1 RJ4 D (mk_TY cI cJ cB cZ cS) X Y A := C
  refine mk_new C (ci := 10) mk_inJ0 tyJ0 tyJ0_ok mw_856 mw_857 mw_13 rfl mk_dfJ0 ⟨Nat.le_of_ble_eq_true rfl, Nat.le_of_ble_eq_true rfl⟩ dJ4_toString_0e30d_0 (fun x => ?_)
  refine mk_weq (ws' := [(b, .inr (11, [.ref v, .int 0, .int 0, .int (nI n)])), (v, .inl (cB, mm, .inl f)), (x, .inr (10, [.null, .int 0, .int 0, .int 0]))]) rfl ?_
  refine mk_dup C dJ4_toString_0e30d_3 rfl ?_
  refine mk_aload_n C 0 dJ4_toString_0e30d_4 rfl ?_
  refine mk_callIG (wr := []) (wc := [(x, .inr (10, [.null, .int 0, .int 0, .int 0])), (b, .inr (11, [.ref v, .int 0, .int 0, .int (nI n)])), (v, .inl (cB, mm, .inl f))]) C (c_sI2 l D cI cJ cB cZ cS X Y x b v mm n t f hp) mw_858 mw_859 mw_13 mw_860 mkq_J0_init_81219 rfl rfl ⟨Nat.le_of_ble_eq_true rfl, Nat.le_of_ble_eq_true rfl⟩ ⟨rfl, rfl⟩ ⟨Nat.le_of_ble_eq_true rfl, Nat.le_of_ble_eq_true rfl⟩ (mk_px 3 [2, 0, 1] rfl (by decide) rfl) mk_Xt.rf (Nat.le_of_ble_eq_true rfl) dJ4_toString_0e30d_5 rfl (fun u hu => ?_)
  refine mk_weq (ws' := [(x, .inr (10, [.ref u.1, .int 0, .int 0, .int 0])), (b, .inr (11, [.ref v, .int 0, .int 0, .int (nI n)])), (v, .inl (cB, mm, .inl f)), (u.1, .inl (cB, n, .inl u.2))]) rfl ?_
  show mk_Go p l e _ s m _ below meth c D A 1 _ _ _ _ _ _ [.ref x]
  refine mk_perm (ws' := [(b, .inr (11, [.ref v, .int 0, .int 0, .int (nI n)])), (v, .inl (cB, mm, .inl f)), (x, .inr (10, [.ref u.1, .int 0, .int 0, .int 0])), (u.1, .inl (cB, n, .inl u.2))]) (mk_px 4 [1, 2, 0, 3] rfl (by decide) rfl) ?_
  exact mk_aretG C hr (Or.inl ⟨_, rfl⟩) hlk (x, u.1, u.2) hu rfl rfl dJ4_toString_0e30d_8
set_option maxHeartbeats 4000000 in
set_option maxRecDepth 100000 in
theorem c_aNew (l : Launch) (D : va_G) (cI cJ cB cZ cS : ClassId) (X : Nat → Nat) (Y : mk_Y) (b : Nat) : mk_MetG l yJ5_init_d00df cJ5_init_d00df 2 none ({ frames := 1, cells := 1, slots := 16, locals := 30 }) D (mk_TY cI cJ cB cZ cS) X Y [.ref b, .int 16] [(b, .inr (11, [.null, .int 0, .int 0, .int 0]))] (fun u : Nat × Nat × (Nat → Int32) => ∀ t, pSB 0 t u) (fun _ => none) (fun u => wSB cB b 0 u) 1 16 := by
  refine mk_startG (own := "java/lang/AbstractStringBuilder") (by decide) rfl (Nat.le_of_ble_eq_true rfl) ?_
  intro sz p e s m args below meth c A C hr hlk hnm
  replace C : mk_Cx p s m args c cJ5_init_d00df 2 "java/lang/AbstractStringBuilder" D (mk_TY cI cJ cB cZ cS) X Y A := C
  replace hnm : meth.name = "<init>" := hnm
  refine mk_aload_n C 0 dJ5_init_d00df_0 rfl ?_
  refine mk_objI C mw_703 mw_29 mw_30 ⟨Nat.le_of_ble_eq_true rfl, Nat.le_of_ble_eq_true rfl⟩ dJ5_init_d00df_1 ?_
  refine mk_gets C C.2.2.1.2.2.2.2.1 mw_704 dJ5_init_d00df_4 ?_
  refine mk_if_eq C 25 dJ5_init_d00df_7 (by decide) (fun h9 => absurd h9 (by decide)) (fun _ => ?_)
  refine mk_aload_n C 0 dJ5_init_d00df_10 rfl ?_
  refine mk_iload_n C 1 dJ5_init_d00df_11 rfl ?_
  refine mk_newB C mw_619 (by decide) (N := 16) (by decide) (by decide) ⟨Nat.le_of_ble_eq_true rfl, Nat.le_of_ble_eq_true rfl⟩ dJ5_init_d00df_12 (fun q => ?_)
  refine mk_weq (ws' := [(b, .inr (11, [.null, .int 0, .int 0, .int 0])), (q, .inl (cB, 16, .inl (fun _ => 0)))]) rfl ?_
  refine mk_put C mk_inJ4 tyJ4 tyJ4_ok nmJ4 0 rfl rfl 0 (by decide) mw_712 rfl rfl rfl (Nat.le_of_ble_eq_true rfl) (ws' := [(b, .inr (11, [.ref q, .int 0, .int 0, .int 0])), (q, .inl (cB, 16, .inl (fun _ => 0)))]) rfl dJ5_init_d00df_14 ?_
  refine mk_aload_n C 0 dJ5_init_d00df_17 rfl ?_
  refine mk_iconst C (v := 0) dJ5_init_d00df_18 (by decide) ?_
  refine mk_put C mk_inJ4 tyJ4 tyJ4_ok nmJ4 0 rfl rfl 1 (by decide) mw_713 rfl rfl rfl (Nat.le_of_ble_eq_true rfl) (ws' := [(b, .inr (11, [.ref q, .int 0, .int 0, .int 0])), (q, .inl (cB, 16, .inl (fun _ => 0)))]) rfl dJ5_init_d00df_19 ?_
  refine mk_goto C 38 dJ5_init_d00df_22 (by decide) ?_
  exact mk_vretG C hr hlk (q, 16, fun _ => 0) (fun t => ⟨Nat.zero_le _, (show 16 ≤ 2002 by decide), sb_fit0, fun j hj => absurd hj (Nat.not_lt_zero j)⟩) rfl dJ5_init_d00df_38
set_option maxHeartbeats 4000000 in
set_option maxRecDepth 100000 in
theorem c_bNew (l : Launch) (D : va_G) (cI cJ cB cZ cS : ClassId) (X : Nat → Nat) (Y : mk_Y) (b : Nat) : mk_MetG l yJ4_init_da8c8 cJ4_init_da8c8 1 none ({ frames := 2, cells := 1, slots := 16, locals := 51 }) D (mk_TY cI cJ cB cZ cS) X Y [.ref b] [(b, .inr (11, [.null, .int 0, .int 0, .int 0]))] (fun u : Nat × Nat × (Nat → Int32) => ∀ t, pSB 0 t u) (fun _ => none) (fun u => wSB cB b 0 u) 1 16 := by
  refine mk_startG (own := RJ4) (by decide) rfl (Nat.le_of_ble_eq_true rfl) ?_
  intro sz p e s m args below meth c A C hr hlk hnm
  replace C : mk_Cx p s m args c cJ4_init_da8c8 1 RJ4 D (mk_TY cI cJ cB cZ cS) X Y A := C
  refine mk_aload_n C 0 dJ4_init_da8c8_0 rfl ?_
  refine mk_bipush C (v := 16) dJ4_init_da8c8_1 (by decide) ?_
  refine mk_callIG (wr := []) (wc := [(b, .inr (11, [.null, .int 0, .int 0, .int 0]))]) C (c_aNew l D cI cJ cB cZ cS X Y b) mw_700 mw_701 mw_11 mw_702 mkq_J5_init_d00df rfl rfl ⟨Nat.le_of_ble_eq_true rfl, Nat.le_of_ble_eq_true rfl⟩ ⟨rfl, rfl⟩ ⟨Nat.le_of_ble_eq_true rfl, Nat.le_of_ble_eq_true rfl⟩ (List.Perm.refl _) mk_Xt.rf (Nat.le_of_ble_eq_true rfl) dJ4_init_da8c8_3 rfl (fun u hu => ?_)
  exact mk_vretG C hr hlk u hu rfl dJ4_init_da8c8_6
