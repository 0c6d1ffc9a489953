theorem mkq_J8_newLength_cabcc : mk_nm yJ8_newLength_cabcc 3 := by decide +kernel
theorem mkq_J5_newCapacity_0f7a4 : mk_nm yJ5_newCapacity_0f7a4 1 := by decide +kernel
theorem mkq_J7_copyOf_9075b : mk_nm yJ7_copyOf_9075b 2 := by decide +kernel
theorem mkq_J0_coder_7d493 : mk_nm yJ0_coder_7d493 0 := by decide +kernel
theorem mkq_J5_inflateIfNeededFor_a7421 : mk_nm yJ5_inflateIfNeededFor_a7421 1 := by decide +kernel
theorem mkq_J0_getBytes_840e7 : mk_nm yJ0_getBytes_840e7 3 := by decide +kernel
theorem mkq_J0_length_8abf5 : mk_nm yJ0_length_8abf5 0 := by decide +kernel
theorem mkq_J5_ensureCapacityInternal_d00df : mk_nm yJ5_ensureCapacityInternal_d00df 1 := by decide +kernel
theorem mkq_J5_putStringAt_47b60 : mk_nm yJ5_putStringAt_47b60 2 := by decide +kernel
theorem mkq_J5_append_cf1ce : mk_nm yJ5_append_cf1ce 1 := by decide +kernel
/-! the JDK's StringBuilder and String (Latin 1 alone), method by method (jdk.py) -/
theorem jk_ne {a b : Nat} (h : a ≠ b) (ha : a < 2 ^ 31) (hb : b < 2 ^ 31) : ¬ nI a = nI b := fun e => h ((nI_eq ha hb).mp e)
theorem jk_max {g f : Nat} (hg : g < 2 ^ 31) (hf : f < 2 ^ 31) : (if nI g < nI f then nI f else nI g) = nI (if g < f then f else g) := by
  by_cases h : g < f
  · rw [if_pos h, if_pos ((nI_ltI hg hf).mpr h)]
  · rw [if_neg h, if_neg (fun z => h ((nI_ltI hg hf).mp z))]
theorem jk_nle {a b : Nat} (h : b < a) (ha : a < 2 ^ 31) : ¬ nI a ≤ nI b := nI_ge h ha
theorem jk_sub0 {q mm : Nat} (hq : q < 2 ^ 30) (hm : mm < 2 ^ 30) : (nI q - nI mm ≤ 0) ↔ q ≤ mm := by
  rw [Int32.le_iff_toInt_le, pk_sub_toInt hq hm, Int32.toInt_zero]
  omega
theorem jk_bb : ∀ c : Nat, c < 128 → vp_nar .byte (nI c) = nI c ∧ fits .byte (.int (nI c)) = true := by decide +kernel
theorem jk_upd {f : Nat → Int32} {k c : Nat} (h : sb_Fit f) (hc : c < 128) : sb_Fit (upd f k (nI c)) := sb_fitU h (jk_bb c hc).2
theorem jk_10 : ∀ i : Nat, i ≤ 3 → 10 * (-nI (10 ^ i)) = -nI (10 ^ (i + 1)) := by decide +kernel
def wSB (cB : ClassId) (b n : Nat) (u : Nat × Nat × (Nat → Int32)) : va_W := [(b, .inr (11, [.ref u.1, .int 0, .int 0, .int (nI n)])), (u.1, .inl (cB, u.2.1, .inl u.2.2))]
def pSB (n : Nat) (t : Nat → Nat) (u : Nat × Nat × (Nat → Int32)) : Prop := n ≤ u.2.1 ∧ u.2.1 ≤ 2002 ∧ sb_Fit u.2.2 ∧ ∀ j, j < n → u.2.2 j = nI (t j)
theorem mk_dfJ4 : ∀ j, j < 4 → defaultValue (tyJ4 j) = vp_V [.null, .int 0, .int 0, .int 0] j := by
  intro j hj
  rcases (show j = 0 ∨ j = 1 ∨ j = 2 ∨ j = 3 by omega) with rfl | rfl | rfl | rfl <;> rfl
theorem mk_dfJ0 : ∀ j, j < 4 → defaultValue (tyJ0 j) = vp_V [.null, .int 0, .int 0, .int 0] j := by
  intro j hj
  rcases (show j = 0 ∨ j = 1 ∨ j = 2 ∨ j = 3 by omega) with rfl | rfl | rfl | rfl <;> rfl
set_option maxHeartbeats 4000000 in
set_option maxRecDepth 100000 in
theorem c_newLen (l : Launch) (D : va_G) (cI cJ cB cZ cS : ClassId) (X : Nat → Nat) (Y : mk_Y) (a g f r : Nat) (hr0 : r = a + (if g < f then f else g)) (h1 : 0 < r) (h2 : r < 1000000) : mk_Met l yJ8_newLength_cabcc cJ8_newLength_cabcc 4 (some .int) ({ frames := 1, cells := 0, slots := 0, locals := 30 }) D (mk_TY cI cJ cB cZ cS) X Y [.int (nI a), .int (nI g), .int (nI f)] [] [] (some (.int (nI r))) 0 0 := by
  refine mk_start (own := "jdk/internal/util/ArraysSupport") (by decide) rfl (Nat.le_of_ble_eq_true rfl) ?_
  intro sz p e s m args below meth c A C hr hlk hnm
  replace C : mk_Cx p s m args c cJ8_newLength_cabcc 4 "jdk/internal/util/ArraysSupport" D (mk_TY cI cJ cB cZ cS) X Y A := C
  refine mk_iload_n C 0 dJ8_newLength_cabcc_0 rfl ?_
  refine mk_iload_n C 1 dJ8_newLength_cabcc_1 rfl ?_
  refine mk_iload_n C 2 dJ8_newLength_cabcc_2 rfl ?_
  refine mk_mmax C mw_748 mw_567 mw_16 mw_568 ⟨Nat.le_of_ble_eq_true rfl, Nat.le_of_ble_eq_true rfl⟩ ⟨Nat.le_of_ble_eq_true rfl, Nat.le_of_ble_eq_true rfl⟩ dJ8_newLength_cabcc_3 ?_
  refine mk_topi (y := nI (if g < f then f else g)) (jk_max (by rw [hr0] at h2; split at h2 <;> omega) (by rw [hr0] at h2; split at h2 <;> omega)) ?_
  refine mk_iadd C dJ8_newLength_cabcc_6 ?_
  refine mk_topi (y := nI r) (by rw [nI_add, hr0]) ?_
  refine mk_istore_n C (lv' := [(3, .int (nI r)), (0, .int (nI a)), (1, .int (nI g)), (2, .int (nI f))]) dJ8_newLength_cabcc_7 (by decide) rfl ?_
  refine mk_iconst C (v := 0) dJ8_newLength_cabcc_8 (by decide) ?_
  refine mk_iload_n C 0 dJ8_newLength_cabcc_9 rfl ?_
  refine mk_icmp_ge C 21 dJ8_newLength_cabcc_10 (by decide) (fun h9 => absurd h9 (show ¬ nI r ≤ nI 0 from jk_nle h1 (by omega))) (fun _ => ?_)
  refine mk_iload_n C 0 dJ8_newLength_cabcc_13 rfl ?_
  refine mk_ldc C (v := 2147483639) mw_749 dJ8_newLength_cabcc_14 ?_
  refine mk_icmp_gt C 21 dJ8_newLength_cabcc_16 (by decide) (fun h9 => absurd h9 (show ¬ nI 2147483639 < nI r from nI_nlt (by omega) (by decide))) (fun _ => ?_)
  refine mk_iload_n C 0 dJ8_newLength_cabcc_19 rfl ?_
  exact mk_iret C hr hlk rfl rfl dJ8_newLength_cabcc_20
set_option maxHeartbeats 4000000 in
set_option maxRecDepth 100000 in
theorem c_newCap (l : Launch) (D : va_G) (cI cJ cB cZ cS : ClassId) (X : Nat → Nat) (Y : mk_Y) (b v mm n q r : Nat) (f : Nat → Int32) (hq : mm < q) (hq2 : q ≤ 1000) (hr0 : r = mm + (if q - mm < mm + 2 then mm + 2 else q - mm)) : mk_MetG l yJ5_newCapacity_0f7a4 cJ5_newCapacity_0f7a4 6 (some .int) ({ frames := 2, cells := 0, slots := 0, locals := 53 }) D (mk_TY cI cJ cB cZ cS) X Y [.ref b, .int (nI q)] [(b, .inr (11, [.ref v, .int 0, .int 0, .int (nI n)])), (v, .inl (cB, mm, .inl f))] (fun _ : Unit => True) (fun _ => some (.int (nI r))) (fun _ => [(b, .inr (11, [.ref v, .int 0, .int 0, .int (nI n)])), (v, .inl (cB, mm, .inl f))]) 0 0 := by
  refine mk_startG (own := "java/lang/AbstractStringBuilder") (by decide) rfl (Nat.le_of_ble_eq_true rfl) ?_
  intro sz p e s m args below meth c A C hr hlk hnm
  replace C : mk_Cx p s m args c cJ5_newCapacity_0f7a4 6 "java/lang/AbstractStringBuilder" D (mk_TY cI cJ cB cZ cS) X Y A := C
  refine mk_aload_n C 0 dJ5_newCapacity_0f7a4_0 rfl ?_
  refine mk_get C mk_inJ4 0 rfl rfl 0 (by decide) mw_712 (v := .ref v) rfl dJ5_newCapacity_0f7a4_1 ?_
  refine mk_alen C 1 2 rfl rfl (v := nI mm) rfl dJ5_newCapacity_0f7a4_4 ?_
  refine mk_istore_n C (lv' := [(2, .int (nI mm)), (0, .ref b), (1, .int (nI q))]) dJ5_newCapacity_0f7a4_5 (by decide) rfl ?_
  refine mk_iload_n C 2 dJ5_newCapacity_0f7a4_6 rfl ?_
  refine mk_aload_n C 1 dJ5_newCapacity_0f7a4_7 rfl ?_
  refine mk_get C mk_inJ4 0 rfl rfl 1 (by decide) mw_713 (v := .int 0) rfl dJ5_newCapacity_0f7a4_8 ?_
  refine mk_ishl C dJ5_newCapacity_0f7a4_11 ?_
  refine mk_topi (y := nI q) (sb_shl0 _) ?_
  refine mk_istore_n C (lv' := [(3, .int (nI q)), (2, .int (nI mm)), (0, .ref b), (1, .int (nI q))]) dJ5_newCapacity_0f7a4_12 (by decide) rfl ?_
  refine mk_iload_n C 0 dJ5_newCapacity_0f7a4_13 rfl ?_
  refine mk_iload_n C 1 dJ5_newCapacity_0f7a4_14 rfl ?_
  refine mk_isub C dJ5_newCapacity_0f7a4_15 ?_
  refine mk_topi (y := nI (q - mm)) (pk_sub (by omega)) ?_
  refine mk_istore C (lv' := [(4, .int (nI (q - mm))), (3, .int (nI q)), (2, .int (nI mm)), (0, .ref b), (1, .int (nI q))]) dJ5_newCapacity_0f7a4_16 (by decide) rfl ?_
  refine mk_iload_n C 2 dJ5_newCapacity_0f7a4_18 rfl ?_
  refine mk_iload C 0 dJ5_newCapacity_0f7a4_19 rfl ?_
  refine mk_iload_n C 2 dJ5_newCapacity_0f7a4_21 rfl ?_
  refine mk_iconst C (v := 2) dJ5_newCapacity_0f7a4_22 (by decide) ?_
  refine mk_aload_n C 3 dJ5_newCapacity_0f7a4_23 rfl ?_
  refine mk_get C mk_inJ4 0 rfl rfl 1 (by decide) mw_713 (v := .int 0) rfl dJ5_newCapacity_0f7a4_24 ?_
  refine mk_ishl C dJ5_newCapacity_0f7a4_27 ?_
  refine mk_topi (y := 2) (sb_shl0 _) ?_
  refine mk_iadd C dJ5_newCapacity_0f7a4_28 ?_
  refine mk_topi (y := nI (mm + 2)) (nI_add mm 2) ?_
  refine mk_callSi C (c_newLen l D cI cJ cB cZ cS X Y mm (q - mm) (mm + 2) r hr0 (by rw [hr0]; split <;> omega) (by rw [hr0]; split <;> omega)) mw_745 mw_746 mw_15 mw_747 mkq_J8_newLength_cabcc rfl ⟨Nat.le_of_ble_eq_true rfl, Nat.le_of_ble_eq_true rfl⟩ (mk_Fr.nil _) (Nat.le_of_ble_eq_true rfl) dJ5_newCapacity_0f7a4_29 rfl ?_
  refine mk_istore C (lv' := [(5, .int (nI r)), (4, .int (nI (q - mm))), (3, .int (nI q)), (2, .int (nI mm)), (0, .ref b), (1, .int (nI q))]) dJ5_newCapacity_0f7a4_32 (by decide) rfl ?_
  refine mk_iload C 0 dJ5_newCapacity_0f7a4_34 rfl ?_
  refine mk_ldc C (v := 2147483647) mw_753 dJ5_newCapacity_0f7a4_36 ?_
  refine mk_icmp_ne C 51 dJ5_newCapacity_0f7a4_38 (by decide) (fun _ => ?_) (fun h9 => absurd h9 (show ¬ nI r = nI 2147483647 from jk_ne (by rw [hr0]; split <;> omega) (by rw [hr0]; split <;> omega) (by decide)))
  refine mk_iload C 0 dJ5_newCapacity_0f7a4_51 rfl ?_
  refine mk_aload_n C 4 dJ5_newCapacity_0f7a4_53 rfl ?_
  refine mk_get C mk_inJ4 0 rfl rfl 1 (by decide) mw_713 (v := .int 0) rfl dJ5_newCapacity_0f7a4_54 ?_
  refine mk_ishr C dJ5_newCapacity_0f7a4_57 ?_
  refine mk_topi (y := nI r) (sb_shr0 _) ?_
  exact mk_iretG C hr hlk rfl () trivial rfl rfl dJ5_newCapacity_0f7a4_58
set_option maxHeartbeats 4000000 in
set_option maxRecDepth 100000 in
theorem c_cpOf (l : Launch) (D : va_G) (cI cJ cB cZ cS : ClassId) (X : Nat → Nat) (Y : mk_Y) (v mm k : Nat) (f : Nat → Int32) (hf : sb_Fit f) (hk : mm < k) (hk2 : k ≤ 4100) : mk_MetG l yJ7_copyOf_9075b cJ7_copyOf_9075b 3 (some (.array .byte)) ({ frames := 1, cells := 1, slots := 4100, locals := 70 }) D (mk_TY cI cJ cB cZ cS) X Y [.ref v, .int (nI k)] [(v, .inl (cB, mm, .inl f))] (fun _ : Nat => True) (fun q => some (.ref q)) (fun q => [(v, .inl (cB, mm, .inl f)), (q, .inl (cB, k, .inl (va_cpy f (fun _ => 0) 0 0 mm)))]) 1 4100 := by
  refine mk_startG (own := "java/util/Arrays") (by decide) rfl (Nat.le_of_ble_eq_true rfl) ?_
  intro sz p e s m args below meth c A C hr hlk hnm
  replace C : mk_Cx p s m args c cJ7_copyOf_9075b 3 "java/util/Arrays" D (mk_TY cI cJ cB cZ cS) X Y A := C
  refine mk_iload_n C 1 dJ7_copyOf_9075b_0 rfl ?_
  refine mk_aload_n C 0 dJ7_copyOf_9075b_1 rfl ?_
  refine mk_alen C 0 2 rfl rfl (v := nI mm) rfl dJ7_copyOf_9075b_2 ?_
  refine mk_icmp_ne C 14 dJ7_copyOf_9075b_3 (by decide) (fun _ => ?_) (fun h9 => absurd h9 (show ¬ nI k = nI mm from jk_ne (by omega) (by omega) (by omega)))
  refine mk_iload_n C 1 dJ7_copyOf_9075b_14 rfl ?_
  refine mk_newB C mw_619 (nI_pos (by omega)) (N := k) (nI_clamp (by omega)) (by omega) ⟨Nat.le_of_ble_eq_true rfl, by show 0 + k ≤ 4100; omega⟩ dJ7_copyOf_9075b_15 (fun q => ?_)
  refine mk_weq (ws' := [(v, .inl (cB, mm, .inl f)), (q, .inl (cB, k, .inl (fun _ => 0)))]) rfl ?_
  refine mk_astore_n C (lv' := [(2, .ref q), (0, .ref v), (1, .int (nI k))]) dJ7_copyOf_9075b_17 (by decide) rfl ?_
  refine mk_aload_n C 1 dJ7_copyOf_9075b_18 rfl ?_
  refine mk_iconst C (v := 0) dJ7_copyOf_9075b_19 (by decide) ?_
  refine mk_aload_n C 0 dJ7_copyOf_9075b_20 rfl ?_
  refine mk_iconst C (v := 0) dJ7_copyOf_9075b_21 (by decide) ?_
  refine mk_aload_n C 1 dJ7_copyOf_9075b_22 rfl ?_
  refine mk_alen C 0 2 rfl rfl (v := nI mm) rfl dJ7_copyOf_9075b_23 ?_
  refine mk_iload_n C 2 dJ7_copyOf_9075b_24 rfl ?_
  refine mk_mmin C mw_764 mw_546 mw_16 mw_547 ⟨Nat.le_of_ble_eq_true rfl, Nat.le_of_ble_eq_true rfl⟩ ⟨Nat.le_of_ble_eq_true rfl, by show 0 + k ≤ 4100; omega⟩ dJ7_copyOf_9075b_25 ?_
  refine mk_topi (y := nI mm) (if_neg (nI_nlt (by omega) (by omega))) ?_
  refine mk_copyB (sp := 0) (dp := 0) (n := mm) C mw_765 mw_767 mw_766 mw_18 0 1 2 rfl rfl rfl (by omega) (by omega) (by omega) (by omega) hf ⟨Nat.le_of_ble_eq_true rfl, Nat.le_of_ble_eq_true rfl⟩ (ws' := [(v, .inl (cB, mm, .inl f)), (q, .inl (cB, k, .inl (va_cpy f (fun _ => 0) 0 0 mm)))]) rfl dJ7_copyOf_9075b_28 ?_
  refine mk_aload_n C 0 dJ7_copyOf_9075b_31 rfl ?_
  refine mk_widen (k := 1) (n := 4100) (by omega) (by omega) ?_
  exact mk_aretG C hr (Or.inr ⟨_, rfl⟩) hlk q trivial rfl rfl dJ7_copyOf_9075b_32
set_option maxHeartbeats 4000000 in
set_option maxRecDepth 100000 in
theorem c_ens (l : Launch) (D : va_G) (cI cJ cB cZ cS : ClassId) (X : Nat → Nat) (Y : mk_Y) (b v mm n q : Nat) (t : Nat → Nat) (f : Nat → Int32) (hp : pSB n t (v, mm, f)) (hq2 : q ≤ 1000) : mk_MetG l yJ5_ensureCapacityInternal_d00df cJ5_ensureCapacityInternal_d00df 3 none ({ frames := 3, cells := 1, slots := 4100, locals := 92 }) D (mk_TY cI cJ cB cZ cS) X Y [.ref b, .int (nI q)] [(b, .inr (11, [.ref v, .int 0, .int 0, .int (nI n)])), (v, .inl (cB, mm, .inl f))] (fun u : Nat × Nat × (Nat → Int32) => pSB n t u ∧ q ≤ u.2.1) (fun _ => none) (fun u => wSB cB b n u) 1 4100 := by
  refine mk_startG (own := "java/lang/AbstractStringBuilder") (by decide) rfl (Nat.le_of_ble_eq_true rfl) ?_
  intro sz p e s m args below meth c A C hr hlk hnm
  replace C : mk_Cx p s m args c cJ5_ensureCapacityInternal_d00df 3 "java/lang/AbstractStringBuilder" D (mk_TY cI cJ cB cZ cS) X Y A := C
  obtain ⟨hp1, hp2, hp3, hp4⟩ := id hp
  have hp2 : mm ≤ 2002 := hp2
  have hp1 : n ≤ mm := hp1
  refine mk_aload_n C 0 dJ5_ensureCapacityInternal_d00df_0 rfl ?_
  refine mk_get C mk_inJ4 0 rfl rfl 0 (by decide) mw_712 (v := .ref v) rfl dJ5_ensureCapacityInternal_d00df_1 ?_
  refine mk_alen C 1 2 rfl rfl (v := nI mm) rfl dJ5_ensureCapacityInternal_d00df_4 ?_
  refine mk_aload_n C 0 dJ5_ensureCapacityInternal_d00df_5 rfl ?_
  refine mk_get C mk_inJ4 0 rfl rfl 1 (by decide) mw_713 (v := .int 0) rfl dJ5_ensureCapacityInternal_d00df_6 ?_
  refine mk_ishr C dJ5_ensureCapacityInternal_d00df_9 ?_
  refine mk_topi (y := nI mm) (sb_shr0 _) ?_
  refine mk_istore_n C (lv' := [(2, .int (nI mm)), (0, .ref b), (1, .int (nI q))]) dJ5_ensureCapacityInternal_d00df_10 (by decide) rfl ?_
  refine mk_iload_n C 2 dJ5_ensureCapacityInternal_d00df_11 rfl ?_
  refine mk_iload_n C 0 dJ5_ensureCapacityInternal_d00df_12 rfl ?_
  refine mk_isub C dJ5_ensureCapacityInternal_d00df_13 ?_
  refine mk_if_le C 38 dJ5_ensureCapacityInternal_d00df_14 (by decide) (fun hc => ?_) (fun hc => ?_)
  · have hqm : q ≤ mm := (jk_sub0 (by omega) (by omega)).mp hc
    refine mk_widen (k := 1) (n := 4100) (by decide) (by decide) ?_
    exact mk_vretG C hr hlk (v, mm, f) ⟨hp, hqm⟩ rfl dJ5_ensureCapacityInternal_d00df_38
  · have hqm : mm < q := Nat.lt_of_not_le (fun z => hc ((jk_sub0 (by omega) (by omega)).mpr z))
    obtain ⟨r, hr0⟩ : ∃ r, r = mm + (if q - mm < mm + 2 then mm + 2 else q - mm) := ⟨_, rfl⟩
    have hr1 : q ≤ r ∧ mm < r ∧ r ≤ 2002 := by rw [hr0]; split <;> omega
    refine mk_aload_n C 1 dJ5_ensureCapacityInternal_d00df_17 rfl ?_
    refine mk_aload_n C 1 dJ5_ensureCapacityInternal_d00df_18 rfl ?_
    refine mk_get C mk_inJ4 0 rfl rfl 0 (by decide) mw_712 (v := .ref v) rfl dJ5_ensureCapacityInternal_d00df_19 ?_
    refine mk_aload_n C 1 dJ5_ensureCapacityInternal_d00df_22 rfl ?_
    refine mk_iload_n C 2 dJ5_ensureCapacityInternal_d00df_23 rfl ?_
    refine mk_callUG (wr := []) (wc := [(b, .inr (11, [.ref v, .int 0, .int 0, .int (nI n)])), (v, .inl (cB, mm, .inl f))]) C (c_newCap l D cI cJ cB cZ cS X Y b v mm n q r f hqm hq2 hr0) mw_741 mw_1041 mw_743 mw_p1 mw_11 mw_744 mkq_J5_newCapacity_0f7a4 rfl ⟨Nat.le_of_ble_eq_true rfl, Nat.le_of_ble_eq_true rfl⟩ ⟨rfl, rfl⟩ ⟨Nat.le_of_ble_eq_true rfl, Nat.le_of_ble_eq_true rfl⟩ 0 rfl (List.Perm.refl _) mk_Xt.rf (Nat.le_of_ble_eq_true rfl) dJ5_ensureCapacityInternal_d00df_24 rfl (fun u _ => ?_)
    refine mk_weq (ws' := [(b, .inr (11, [.ref v, .int 0, .int 0, .int (nI n)])), (v, .inl (cB, mm, .inl f))]) rfl ?_
    show mk_Go p l e _ s m _ below meth c D A 3 _ _ _ _ _ _ [.int (nI r), .ref v, .ref b]
    refine mk_aload_n C 1 dJ5_ensureCapacityInternal_d00df_27 rfl ?_
    refine mk_get C mk_inJ4 0 rfl rfl 1 (by decide) mw_713 (v := .int 0) rfl dJ5_ensureCapacityInternal_d00df_28 ?_
    refine mk_ishl C dJ5_ensureCapacityInternal_d00df_31 ?_
    refine mk_topi (y := nI r) (sb_shl0 _) ?_
    refine mk_callSG (wr := [(b, .inr (11, [.ref v, .int 0, .int 0, .int (nI n)]))]) (wc := [(v, .inl (cB, mm, .inl f))]) C (c_cpOf l D cI cJ cB cZ cS X Y v mm r f hp3 hr1.2.1 (by omega)) mw_754 mw_755 mw_17 mw_756 mkq_J7_copyOf_9075b rfl ⟨Nat.le_of_ble_eq_true rfl, Nat.le_of_ble_eq_true rfl⟩ ⟨rfl, rfl⟩ ⟨Nat.le_of_ble_eq_true rfl, Nat.le_of_ble_eq_true rfl⟩ (List.Perm.refl _) mk_Xt.rf (Nat.le_of_ble_eq_true rfl) dJ5_ensureCapacityInternal_d00df_32 rfl (fun q2 _ => ?_)
    refine mk_weq (ws' := [(b, .inr (11, [.ref v, .int 0, .int 0, .int (nI n)])), (v, .inl (cB, mm, .inl f)), (q2, .inl (cB, r, .inl (va_cpy f (fun _ => 0) 0 0 mm)))]) rfl ?_
    show mk_Go p l e _ s m _ below meth c D A 3 _ _ _ _ _ _ [.ref q2, .ref b]
    refine mk_put C mk_inJ4 tyJ4 tyJ4_ok nmJ4 0 rfl rfl 0 (by decide) mw_712 rfl rfl rfl (Nat.le_of_ble_eq_true rfl) (ws' := [(b, .inr (11, [.ref q2, .int 0, .int 0, .int (nI n)])), (v, .inl (cB, mm, .inl f)), (q2, .inl (cB, r, .inl (va_cpy f (fun _ => 0) 0 0 mm)))]) rfl dJ5_ensureCapacityInternal_d00df_35 ?_
    refine mk_drop [(v, .inl (cB, mm, .inl f))] (ws' := [(b, .inr (11, [.ref q2, .int 0, .int 0, .int (nI n)])), (q2, .inl (cB, r, .inl (va_cpy f (fun _ => 0) 0 0 mm)))]) (mk_px 3 [1, 0, 2] rfl (by decide) rfl) ?_
    exact mk_vretG C hr hlk (q2, r, va_cpy f (fun _ => 0) 0 0 mm) ⟨⟨by show n ≤ r; omega, by show r ≤ 2002; omega, sb_fitC hp3 sb_fit0, fun j hj => (by show va_cpy f (fun _ => 0) 0 0 mm j = _; rw [sb_cpy0 (by omega)]; exact hp4 j hj)⟩, by show q ≤ r; omega⟩ rfl dJ5_ensureCapacityInternal_d00df_38
set_option maxHeartbeats 4000000 in
set_option maxRecDepth 100000 in
theorem c_asL (l : Launch) (D : va_G) (cI cJ cB cZ cS : ClassId) (X : Nat → Nat) (Y : mk_Y) (b v n : Nat) : mk_MetG l yJ5_isLatin1_aae02 cJ5_isLatin1_aae02 1 (some .boolean) ({ frames := 0, cells := 0, slots := 0, locals := 0 }) D (mk_TY cI cJ cB cZ cS) X Y [.ref b] [(b, .inr (11, [.ref v, .int 0, .int 0, .int (nI n)]))] (fun _ : Unit => True) (fun _ => some (.int 1)) (fun _ => [(b, .inr (11, [.ref v, .int 0, .int 0, .int (nI n)]))]) 0 0 := by
  refine mk_startG (own := "java/lang/AbstractStringBuilder") (by decide) rfl (Nat.le_of_ble_eq_true rfl) ?_
  intro sz p e s m args below meth c A C hr hlk hnm
  replace C : mk_Cx p s m args c cJ5_isLatin1_aae02 1 "java/lang/AbstractStringBuilder" D (mk_TY cI cJ cB cZ cS) X Y A := C
  refine mk_gets C C.2.2.1.2.2.2.2.1 mw_704 dJ5_isLatin1_aae02_0 ?_
  refine mk_if_eq C 17 dJ5_isLatin1_aae02_3 (by decide) (fun h9 => absurd h9 (by decide)) (fun _ => ?_)
  refine mk_aload_n C 0 dJ5_isLatin1_aae02_6 rfl ?_
  refine mk_get C mk_inJ4 0 rfl rfl 1 (by decide) mw_713 (v := .int 0) rfl dJ5_isLatin1_aae02_7 ?_
  refine mk_if_ne C 17 dJ5_isLatin1_aae02_10 (by decide) (fun h9 => absurd h9 (fun z => z rfl)) (fun _ => ?_)
  refine mk_iconst C (v := 1) dJ5_isLatin1_aae02_13 (by decide) ?_
  refine mk_goto C 18 dJ5_isLatin1_aae02_14 (by decide) ?_
  exact mk_iretG C hr hlk rfl () trivial rfl rfl dJ5_isLatin1_aae02_18
set_option maxHeartbeats 4000000 in
set_option maxRecDepth 100000 in
theorem c_infl (l : Launch) (D : va_G) (cI cJ cB cZ cS : ClassId) (X : Nat → Nat) (Y : mk_Y) (b v n k : Nat) : mk_MetG l yJ5_inflateIfNeededFor_a7421 cJ5_inflateIfNeededFor_a7421 2 none ({ frames := 1, cells := 0, slots := 0, locals := 20 }) D (mk_TY cI cJ cB cZ cS) X Y [.ref b, .ref (X k)] [(b, .inr (11, [.ref v, .int 0, .int 0, .int (nI n)]))] (fun _ : Unit => True) (fun _ => none) (fun _ => [(b, .inr (11, [.ref v, .int 0, .int 0, .int (nI n)]))]) 0 0 := by
  refine mk_startG (own := "java/lang/AbstractStringBuilder") (by decide) rfl (Nat.le_of_ble_eq_true rfl) ?_
  intro sz p e s m args below meth c A C hr hlk hnm
  replace C : mk_Cx p s m args c cJ5_inflateIfNeededFor_a7421 2 "java/lang/AbstractStringBuilder" D (mk_TY cI cJ cB cZ cS) X Y A := C
  refine mk_gets C C.2.2.1.2.2.2.2.1 mw_704 dJ5_inflateIfNeededFor_a7421_0 ?_
  refine mk_if_eq C 21 dJ5_inflateIfNeededFor_a7421_3 (by decide) (fun h9 => absurd h9 (by decide)) (fun _ => ?_)
  refine mk_aload_n C 0 dJ5_inflateIfNeededFor_a7421_6 rfl ?_
  refine mk_get C mk_inJ4 0 rfl rfl 1 (by decide) mw_713 (v := .int 0) rfl dJ5_inflateIfNeededFor_a7421_7 ?_
  refine mk_aload_n C 1 dJ5_inflateIfNeededFor_a7421_10 rfl ?_
  refine mk_callEg C (c_coder l D cI cJ cB cZ cS X Y k) mw_797 mw_399 mw_400 mw_13 mw_401 mkq_J0_coder_7d493 rfl ⟨Nat.le_of_ble_eq_true rfl, Nat.le_of_ble_eq_true rfl⟩ rfl (Nat.le_of_ble_eq_true rfl) dJ5_inflateIfNeededFor_a7421_11 rfl ?_
  refine mk_icmp_eq C 21 dJ5_inflateIfNeededFor_a7421_14 (by decide) (fun _ => ?_) (fun h9 => absurd (rfl) h9)
  exact mk_vretG C hr hlk () trivial rfl dJ5_inflateIfNeededFor_a7421_21
set_option maxHeartbeats 4000000 in
set_option maxRecDepth 100000 in
theorem c_gBy (l : Launch) (D : va_G) (cI cJ cB cZ cS : ClassId) (X : Nat → Nat) (Y : mk_Y) (v mm n k : Nat) (f : Nat → Int32) (hY : mk_Sp (Y.1 k)) (hn : n + (Y.1 k).2.1 ≤ mm) (hm : mm ≤ 2002) : mk_MetG l yJ0_getBytes_840e7 cJ0_getBytes_840e7 4 none ({ frames := 1, cells := 0, slots := 0, locals := 70 }) D (mk_TY cI cJ cB cZ cS) X Y [.ref (X k), .ref v, .int (nI n), .int 0] [(v, .inl (cB, mm, .inl f))] (fun _ : Unit => True) (fun _ => none) (fun _ => [(v, .inl (cB, mm, .inl (va_cpy (fun j => nI ((Y.1 k).2.2 j)) f 0 n (Y.1 k).2.1)))]) 0 0 := by
  refine mk_startG (own := RJ0) (by decide) rfl (Nat.le_of_ble_eq_true rfl) ?_
  intro sz p e s m args below meth c A C hr hlk hnm
  replace C : mk_Cx p s m args c cJ0_getBytes_840e7 4 RJ0 D (mk_TY cI cJ cB cZ cS) X Y A := C
  refine mk_aload_n C 0 dJ0_getBytes_840e7_0 rfl ?_
  refine mk_callEg C (c_coder l D cI cJ cB cZ cS X Y k) mw_398 mw_399 mw_400 mw_13 mw_401 mkq_J0_coder_7d493 rfl ⟨Nat.le_of_ble_eq_true rfl, Nat.le_of_ble_eq_true rfl⟩ rfl (Nat.le_of_ble_eq_true rfl) dJ0_getBytes_840e7_1 rfl ?_
  refine mk_iload_n C 3 dJ0_getBytes_840e7_4 rfl ?_
  refine mk_icmp_ne C 28 dJ0_getBytes_840e7_5 (by decide) (fun h9 => absurd h9 (fun z => z rfl)) (fun _ => ?_)
  refine mk_aload_n C 0 dJ0_getBytes_840e7_8 rfl ?_
  refine mk_getE C (C.2.2.1.2.1 k).2.2.1 mw_898 dJ0_getBytes_840e7_9 ?_
  refine mk_iconst C (v := 0) dJ0_getBytes_840e7_12 (by decide) ?_
  refine mk_aload_n C 1 dJ0_getBytes_840e7_13 rfl ?_
  refine mk_iload_n C 2 dJ0_getBytes_840e7_14 rfl ?_
  refine mk_iload_n C 3 dJ0_getBytes_840e7_15 rfl ?_
  refine mk_ishl C dJ0_getBytes_840e7_16 ?_
  refine mk_topi (y := nI n) (sb_shl0 _) ?_
  refine mk_aload_n C 0 dJ0_getBytes_840e7_17 rfl ?_
  refine mk_getE C (C.2.2.1.2.1 k).2.2.1 mw_898 dJ0_getBytes_840e7_18 ?_
  refine mk_lenE C (C.2.2.1.2.1 k).2.2.2 (v := nI (Y.1 k).2.1) rfl dJ0_getBytes_840e7_21 ?_
  refine mk_copyE (sp := 0) (dp := n) (n := (Y.1 k).2.1) C mw_821 mw_767 mw_766 mw_18 (f := fun j => nI ((Y.1 k).2.2 j)) (C.2.2.1.2.1 k).2.2.2 0 2 rfl rfl (by omega) (by omega) (Nat.lt_of_le_of_lt hY.1 (by decide)) (by omega) (fun i hi => (jk_bb _ (hY.2 i hi)).2) ⟨Nat.le_of_ble_eq_true rfl, Nat.le_of_ble_eq_true rfl⟩ (ws' := [(v, .inl (cB, mm, .inl (va_cpy (fun j => nI ((Y.1 k).2.2 j)) f 0 n (Y.1 k).2.1)))]) rfl dJ0_getBytes_840e7_22 ?_
  refine mk_goto C 43 dJ0_getBytes_840e7_25 (by decide) ?_
  exact mk_vretG C hr hlk () trivial rfl dJ0_getBytes_840e7_43
set_option maxHeartbeats 4000000 in
set_option maxRecDepth 100000 in
theorem c_puts (l : Launch) (D : va_G) (cI cJ cB cZ cS : ClassId) (X : Nat → Nat) (Y : mk_Y) (b v mm n k : Nat) (f : Nat → Int32) (hY : mk_Sp (Y.1 k)) (hn : n + (Y.1 k).2.1 ≤ mm) (hm : mm ≤ 2002) : mk_MetG l yJ5_putStringAt_47b60 cJ5_putStringAt_47b60 3 none ({ frames := 2, cells := 0, slots := 0, locals := 93 }) D (mk_TY cI cJ cB cZ cS) X Y [.ref b, .int (nI n), .ref (X k)] [(b, .inr (11, [.ref v, .int 0, .int 0, .int (nI n)])), (v, .inl (cB, mm, .inl f))] (fun _ : Unit => True) (fun _ => none) (fun _ => [(b, .inr (11, [.ref v, .int 0, .int 0, .int (nI n)])), (v, .inl (cB, mm, .inl (va_cpy (fun j => nI ((Y.1 k).2.2 j)) f 0 n (Y.1 k).2.1)))]) 0 0 := by
  refine mk_startG (own := "java/lang/AbstractStringBuilder") (by decide) rfl (Nat.le_of_ble_eq_true rfl) ?_
  intro sz p e s m args below meth c A C hr hlk hnm
  replace C : mk_Cx p s m args c cJ5_putStringAt_47b60 3 "java/lang/AbstractStringBuilder" D (mk_TY cI cJ cB cZ cS) X Y A := C
  refine mk_aload_n C 0 dJ5_putStringAt_47b60_0 rfl ?_
  refine mk_aload_n C 2 dJ5_putStringAt_47b60_1 rfl ?_
  refine mk_callUG (wr := [(v, .inl (cB, mm, .inl f))]) (wc := [(b, .inr (11, [.ref v, .int 0, .int 0, .int (nI n)]))]) C (c_infl l D cI cJ cB cZ cS X Y b v n k) mw_793 mw_1043 mw_795 mw_p3 mw_11 mw_796 mkq_J5_inflateIfNeededFor_a7421 rfl ⟨Nat.le_of_ble_eq_true rfl, Nat.le_of_ble_eq_true rfl⟩ ⟨rfl, rfl⟩ ⟨Nat.le_of_ble_eq_true rfl, Nat.le_of_ble_eq_true rfl⟩ 0 rfl (mk_px 2 [1, 0] rfl (by decide) rfl) mk_Xt.rf (Nat.le_of_ble_eq_true rfl) dJ5_putStringAt_47b60_2 rfl (fun u _ => ?_)
  refine mk_perm (ws' := [(b, .inr (11, [.ref v, .int 0, .int 0, .int (nI n)])), (v, .inl (cB, mm, .inl f))]) (mk_px 2 [1, 0] rfl (by decide) rfl) ?_
  show mk_Go p l e _ s m _ below meth c D A 3 _ _ _ _ _ _ []
  refine mk_aload_n C 2 dJ5_putStringAt_47b60_5 rfl ?_
  refine mk_aload_n C 0 dJ5_putStringAt_47b60_6 rfl ?_
  refine mk_get C mk_inJ4 0 rfl rfl 0 (by decide) mw_712 (v := .ref v) rfl dJ5_putStringAt_47b60_7 ?_
  refine mk_iload_n C 1 dJ5_putStringAt_47b60_10 rfl ?_
  refine mk_aload_n C 0 dJ5_putStringAt_47b60_11 rfl ?_
  refine mk_get C mk_inJ4 0 rfl rfl 1 (by decide) mw_713 (v := .int 0) rfl dJ5_putStringAt_47b60_12 ?_
  refine mk_callEG (wr := [(b, .inr (11, [.ref v, .int 0, .int 0, .int (nI n)]))]) (wc := [(v, .inl (cB, mm, .inl f))]) C (c_gBy l D cI cJ cB cZ cS X Y v mm n k f hY hn hm) mw_817 mw_818 mw_819 mw_13 mw_820 mkq_J0_getBytes_840e7 rfl ⟨Nat.le_of_ble_eq_true rfl, Nat.le_of_ble_eq_true rfl⟩ ⟨rfl, rfl⟩ ⟨Nat.le_of_ble_eq_true rfl, Nat.le_of_ble_eq_true rfl⟩ rfl (List.Perm.refl _) (Nat.le_of_ble_eq_true rfl) dJ5_putStringAt_47b60_15 rfl (fun u _ => ?_)
  refine mk_weq (ws' := [(b, .inr (11, [.ref v, .int 0, .int 0, .int (nI n)])), (v, .inl (cB, mm, .inl (va_cpy (fun j => nI ((Y.1 k).2.2 j)) f 0 n (Y.1 k).2.1)))]) rfl ?_
  show mk_Go p l e _ s m _ below meth c D A 3 _ _ _ _ _ _ []
  exact mk_vretG C hr hlk () trivial rfl dJ5_putStringAt_47b60_18
theorem jk_cat {n w mm : Nat} {t s : Nat → Nat} {v : Nat} {f : Nat → Int32} (hp : pSB n t (v, mm, f)) (hm : n + w ≤ mm) (hs : ∀ j, j < w → s j < 128) {g : Nat → Int32} (h1 : ∀ j, j < n → g j = f j) (h2 : ∀ i, i < w → g (n + i) = nI (s i)) (h3 : sb_Fit g) : pSB (n + w) (sb_cat t n s) (v, mm, g) := by
  obtain ⟨p1, p2, p3, p4⟩ := hp
  refine ⟨hm, p2, h3, fun j hj => ?_⟩
  show g j = _
  by_cases q : j < n
  · rw [h1 j q, sb_cat_lo q]; exact p4 j q
  · obtain ⟨i, rfl⟩ : ∃ i, j = n + i := ⟨j - n, by omega⟩
    rw [h2 i (by omega), sb_cat_hi]
theorem jk_cpS {Y : mk_Y} {k n w mm v : Nat} {t : Nat → Nat} {f : Nat → Int32} (hY : mk_Sp (Y.1 k)) (hw : w = (Y.1 k).2.1) (hp : pSB n t (v, mm, f)) (hm : n + w ≤ mm) : pSB (n + w) (sb_cat t n (Y.1 k).2.2) (v, mm, va_cpy (fun j => nI ((Y.1 k).2.2 j)) f 0 n w) := by
  subst hw
  refine jk_cat hp hm hY.2 (fun j hj => ?_) (fun i hi => ?_) (fun j => ?_)
  · rw [pk_cpy_out (by omega)]
  · rw [pk_cpy_in (by omega) (by omega)]
    rw [show 0 + (n + i - n) = i by omega]
  · by_cases q : n ≤ j ∧ j < n + (Y.1 k).2.1
    · rw [pk_cpy_in q.1 q.2]; exact (jk_bb _ (hY.2 _ (by omega))).2
    · rw [pk_cpy_out (by omega)]; exact hp.2.2.1 j
set_option maxHeartbeats 4000000 in
set_option maxRecDepth 100000 in
theorem c_asS (l : Launch) (D : va_G) (cI cJ cB cZ cS : ClassId) (X : Nat → Nat) (Y : mk_Y) (b v mm n k : Nat) (t : Nat → Nat) (f : Nat → Int32) (hY : mk_Sp (Y.1 k)) (hp : pSB n t (v, mm, f)) (hn : n + (Y.1 k).2.1 ≤ 1000) : mk_MetG l yJ5_append_cf1ce cJ5_append_cf1ce 3 (some (.object "java/lang/AbstractStringBuilder")) ({ frames := 4, cells := 1, slots := 4100, locals := 115 }) D (mk_TY cI cJ cB cZ cS) X Y [.ref b, .ref (X k)] [(b, .inr (11, [.ref v, .int 0, .int 0, .int (nI n)])), (v, .inl (cB, mm, .inl f))] (fun u : Nat × Nat × (Nat → Int32) => pSB (n + (Y.1 k).2.1) (sb_cat t n (Y.1 k).2.2) u) (fun _ => some (.ref b)) (fun u => wSB cB b (n + (Y.1 k).2.1) u) 1 4100 := by
  refine mk_startG (own := "java/lang/AbstractStringBuilder") (by decide) rfl (Nat.le_of_ble_eq_true rfl) ?_
  intro sz p e s m args below meth c A C hr hlk hnm
  replace C : mk_Cx p s m args c cJ5_append_cf1ce 3 "java/lang/AbstractStringBuilder" D (mk_TY cI cJ cB cZ cS) X Y A := C
  refine mk_aload_n C 1 dJ5_append_cf1ce_0 rfl ?_
  refine mk_ifnn C 9 dJ5_append_cf1ce_1 (by decide) ?_
  refine mk_aload_n C 1 dJ5_append_cf1ce_9 rfl ?_
  refine mk_callEg C (c_slenG l D cI cJ cB cZ cS X Y k) mw_788 mw_395 mw_396 mw_13 mw_397 mkq_J0_length_8abf5 rfl ⟨Nat.le_of_ble_eq_true rfl, Nat.le_of_ble_eq_true rfl⟩ rfl (Nat.le_of_ble_eq_true rfl) dJ5_append_cf1ce_10 rfl ?_
  refine mk_istore_n C (lv' := [(2, .int (nI (Y.1 k).2.1)), (0, .ref b), (1, .ref (X k))]) dJ5_append_cf1ce_13 (by decide) rfl ?_
  refine mk_aload_n C 1 dJ5_append_cf1ce_14 rfl ?_
  refine mk_aload_n C 1 dJ5_append_cf1ce_15 rfl ?_
  refine mk_get C mk_inJ4 0 rfl rfl 3 (by decide) mw_715 (v := .int (nI n)) rfl dJ5_append_cf1ce_16 ?_
  refine mk_iload_n C 0 dJ5_append_cf1ce_19 rfl ?_
  refine mk_iadd C dJ5_append_cf1ce_20 ?_
  refine mk_topi (y := nI (n + (Y.1 k).2.1)) (nI_add _ _) ?_
  refine mk_callUG (wr := []) (wc := [(b, .inr (11, [.ref v, .int 0, .int 0, .int (nI n)])), (v, .inl (cB, mm, .inl f))]) C (c_ens l D cI cJ cB cZ cS X Y b v mm n (n + (Y.1 k).2.1) t f hp hn) mw_737 mw_1040 mw_739 mw_p0 mw_11 mw_740 mkq_J5_ensureCapacityInternal_d00df rfl ⟨Nat.le_of_ble_eq_true rfl, Nat.le_of_ble_eq_true rfl⟩ ⟨rfl, rfl⟩ ⟨Nat.le_of_ble_eq_true rfl, Nat.le_of_ble_eq_true rfl⟩ 0 rfl (List.Perm.refl _) mk_Xt.rf (Nat.le_of_ble_eq_true rfl) dJ5_append_cf1ce_21 rfl (fun u hu => ?_)
  obtain ⟨v', mm', f'⟩ := u
  have hm' : n + (Y.1 k).2.1 ≤ mm' := hu.2
  have h2' : mm' ≤ 2002 := hu.1.2.1
  refine mk_weq (ws' := [(b, .inr (11, [.ref v', .int 0, .int 0, .int (nI n)])), (v', .inl (cB, mm', .inl f'))]) rfl ?_
  show mk_Go p l e _ s m _ below meth c D A 3 _ _ _ _ _ _ []
  refine mk_aload_n C 1 dJ5_append_cf1ce_24 rfl ?_
  refine mk_aload_n C 1 dJ5_append_cf1ce_25 rfl ?_
  refine mk_get C mk_inJ4 0 rfl rfl 3 (by decide) mw_715 (v := .int (nI n)) rfl dJ5_append_cf1ce_26 ?_
  refine mk_aload_n C 2 dJ5_append_cf1ce_29 rfl ?_
  refine mk_callUG (wr := []) (wc := [(b, .inr (11, [.ref v', .int 0, .int 0, .int (nI n)])), (v', .inl (cB, mm', .inl f'))]) C (c_puts l D cI cJ cB cZ cS X Y b v' mm' n k f' hY hm' h2') mw_789 mw_1042 mw_791 mw_p2 mw_11 mw_792 mkq_J5_putStringAt_47b60 rfl ⟨Nat.le_of_ble_eq_true rfl, Nat.le_of_ble_eq_true rfl⟩ ⟨rfl, rfl⟩ ⟨Nat.le_of_ble_eq_true rfl, Nat.le_of_ble_eq_true rfl⟩ 0 rfl (List.Perm.refl _) mk_Xt.rf (Nat.le_of_ble_eq_true rfl) dJ5_append_cf1ce_30 rfl (fun u _ => ?_)
  refine mk_weq (ws' := [(b, .inr (11, [.ref v', .int 0, .int 0, .int (nI n)])), (v', .inl (cB, mm', .inl (va_cpy (fun j => nI ((Y.1 k).2.2 j)) f' 0 n (Y.1 k).2.1)))]) rfl ?_
  show mk_Go p l e _ s m _ below meth c D A 3 _ _ _ _ _ _ []
  refine mk_aload_n C 1 dJ5_append_cf1ce_33 rfl ?_
  refine mk_dup C dJ5_append_cf1ce_34 rfl ?_
  refine mk_get C mk_inJ4 0 rfl rfl 3 (by decide) mw_715 (v := .int (nI n)) rfl dJ5_append_cf1ce_35 ?_
  refine mk_iload_n C 0 dJ5_append_cf1ce_38 rfl ?_
  refine mk_iadd C dJ5_append_cf1ce_39 ?_
  refine mk_topi (y := nI (n + (Y.1 k).2.1)) (nI_add _ _) ?_
  refine mk_put C mk_inJ4 tyJ4 tyJ4_ok nmJ4 0 rfl rfl 3 (by decide) mw_715 rfl rfl rfl (Nat.le_of_ble_eq_true rfl) (ws' := [(b, .inr (11, [.ref v', .int 0, .int 0, .int (nI (n + (Y.1 k).2.1))])), (v', .inl (cB, mm', .inl (va_cpy (fun j => nI ((Y.1 k).2.2 j)) f' 0 n (Y.1 k).2.1)))]) rfl dJ5_append_cf1ce_40 ?_
  refine mk_aload_n C 1 dJ5_append_cf1ce_43 rfl ?_
  exact mk_aretG C hr (Or.inl ⟨_, rfl⟩) hlk (v', mm', _) (jk_cpS hY rfl hu.1 hm') rfl rfl dJ5_append_cf1ce_44
set_option maxHeartbeats 4000000 in
set_option maxRecDepth 100000 in
theorem c_apS (l : Launch) (D : va_G) (cI cJ cB cZ cS : ClassId) (X : Nat → Nat) (Y : mk_Y) (b v mm n k : Nat) (t : Nat → Nat) (f : Nat → Int32) (hY : mk_Sp (Y.1 k)) (hp : pSB n t (v, mm, f)) (hn : n + (Y.1 k).2.1 ≤ 1000) : mk_MetG l yJ4_append_15ec4 cJ4_append_15ec4 2 (some (.object "java/lang/StringBuilder")) ({ frames := 5, cells := 1, slots := 4100, locals := 137 }) D (mk_TY cI cJ cB cZ cS) X Y [.ref b, .ref (X k)] [(b, .inr (11, [.ref v, .int 0, .int 0, .int (nI n)])), (v, .inl (cB, mm, .inl f))] (fun u : Nat × Nat × (Nat → Int32) => pSB (n + (Y.1 k).2.1) (sb_cat t n (Y.1 k).2.2) u) (fun _ => some (.ref b)) (fun u => wSB cB b (n + (Y.1 k).2.1) u) 1 4100 := by
  refine mk_startG (own := RJ4) (by decide) rfl (Nat.le_of_ble_eq_true rfl) ?_
  intro sz p e s m args below meth c A C hr hlk hnm
  replace C : mk_Cx p s m args c cJ4_append_15ec4 2 RJ4 D (mk_TY cI cJ cB cZ cS) X Y A := C
  refine mk_aload_n C 0 dJ4_append_15ec4_0 rfl ?_
  refine mk_aload_n C 1 dJ4_append_15ec4_1 rfl ?_
  refine mk_callSU (wr := []) (wc := [(b, .inr (11, [.ref v, .int 0, .int 0, .int (nI n)])), (v, .inl (cB, mm, .inl f))]) C (c_asS l D cI cJ cB cZ cS X Y b v mm n k t f hY hp hn) mw_730 mw_1038 mw_724 mw_731 mw_11 mw_732 mkq_J5_append_cf1ce (by decide) rfl ⟨Nat.le_of_ble_eq_true rfl, Nat.le_of_ble_eq_true rfl⟩ ⟨rfl, rfl⟩ ⟨Nat.le_of_ble_eq_true rfl, Nat.le_of_ble_eq_true rfl⟩ 0 rfl (List.Perm.refl _) mk_Xt.rf (Nat.le_of_ble_eq_true rfl) dJ4_append_15ec4_2 rfl (fun u hu => ?_)
  show mk_Go p l e _ s m _ below meth c D A 2 _ _ _ _ ([] ++ _) _ [.ref b]
  refine mk_pop C dJ4_append_15ec4_5 rfl ?_
  refine mk_aload_n C 0 dJ4_append_15ec4_6 rfl ?_
  exact mk_aretG C hr (Or.inl ⟨_, rfl⟩) hlk u hu rfl rfl dJ4_append_15ec4_7
