/-! contracts of what works on rows: at, put, Arrays.fill, Integer.bitCount -/
theorem mk_nlt {x y : Int32} (h : ¬ x < y) : y ≤ x := Int32.not_lt.mp h
theorem mk_nle {x y : Int32} (h : ¬ x ≤ y) : y < x := Int32.not_le.mp h
theorem mk_lt_nle {x y : Int32} (h : x < y) : ¬ y ≤ x := Int32.not_le.mpr h
theorem mk_le_nlt {x y : Int32} (h : x ≤ y) : ¬ y < x := Int32.not_lt.mpr h
theorem mk_inr {i : Int32} {n : Nat} (hn : n < 2 ^ 31) (h1 : ¬ i < 0) (h2 : ¬ nI n ≤ i) : vp_in i n := by
  rcases pk_ix i hn with q | q | ⟨j, hj, rfl⟩
  · exact absurd q h1
  · exact absurd q h2
  · exact vp_in_nI hj hn
set_option maxRecDepth 100000 in
theorem c_at (l : Launch) (D : va_G) (cI cJ cB cZ cS : ClassId) (X : Nat → Nat) (Y : mk_Y) (h : Nat) (n : Nat) (f : Nat → Int32) (i : Int32) (hn : n < 2 ^ 31 := by decide) : mk_Met l yX8_at cX8_at 2 (some .int) ({ frames := 0, cells := 0, slots := 0, locals := 0 }) D (mk_TY cI cJ cB cZ cS) X Y [.ref h, .int i] [(h, .inl (cI, n, .inl f))] [(h, .inl (cI, n, .inl f))] (some (.int (mkAt n f i))) 0 0 := by
  refine mk_start (own := RX8) (by decide) rfl (Nat.le_of_ble_eq_true rfl) ?_
  intro sz p e s m args below meth c A C hr hlk hnm
  replace C : mk_Cx p s m args c cX8_at 2 RX8 D (mk_TY cI cJ cB cZ cS) X Y A := C
  refine mk_iload_n C 1 dX8_at_0 rfl ?_
  refine mk_if_lt C 16 dX8_at_1 (by decide) (fun c1 => ?_) (fun c1 => ?_)
  · refine mk_iconst C (v := 0) dX8_at_16 (by decide) ?_
    exact mk_iret C hr hlk (by rw [mkAt, if_neg (mk_lt_nle c1)]) rfl dX8_at_17
  · refine mk_iload_n C 1 dX8_at_4 rfl ?_
    refine mk_aload_n C 0 dX8_at_5 rfl ?_
    refine mk_alen C 0 0 rfl rfl (v := nI n) rfl dX8_at_6 ?_
    refine mk_icmp_ge C 16 dX8_at_7 (by decide) (fun c2 => ?_) (fun c2 => ?_)
    · refine mk_iconst C (v := 0) dX8_at_16 (by decide) ?_
      exact mk_iret C hr hlk (by rw [mkAt, if_pos (mk_nlt c1), if_neg (mk_le_nlt c2)]) rfl dX8_at_17
    · refine mk_aload_n C 0 dX8_at_10 rfl ?_
      refine mk_iload_n C 1 dX8_at_11 rfl ?_
      refine mk_iald C 0 0 (f := f) rfl rfl (mk_inr hn c1 c2) (j := i.toNatClampNeg) rfl dX8_at_12 ?_
      refine mk_goto C 17 dX8_at_13 (by decide) ?_
      exact mk_iret C hr hlk (by rw [mkAt, if_pos (mk_nlt c1), if_pos (mk_nle c2)]) rfl dX8_at_17
set_option maxRecDepth 100000 in
theorem c_put (l : Launch) (D : va_G) (cI cJ cB cZ cS : ClassId) (X : Nat → Nat) (Y : mk_Y) (h : Nat) (n : Nat) (f : Nat → Int32) (i : Int32) (v : Int32) (hn : n < 2 ^ 31 := by decide) : mk_Met l yX8_put cX8_put 3 none ({ frames := 0, cells := 0, slots := 0, locals := 0 }) D (mk_TY cI cJ cB cZ cS) X Y [.ref h, .int i, .int v] [(h, .inl (cI, n, .inl (f)))] [(h, .inl (cI, n, .inl (mkPut n f i v)))] none 0 0 := by
  refine mk_start (own := RX8) (by decide) rfl (Nat.le_of_ble_eq_true rfl) ?_
  intro sz p e s m args below meth c A C hr hlk hnm
  replace C : mk_Cx p s m args c cX8_put 3 RX8 D (mk_TY cI cJ cB cZ cS) X Y A := C
  refine mk_iload_n C 1 dX8_put_0 rfl ?_
  refine mk_if_lt C 14 dX8_put_1 (by decide) (fun c1 => ?_) (fun c1 => ?_)
  · exact mk_vret C hr hlk (by rw [mkPut, if_neg (mk_lt_nle c1)]) dX8_put_14
  · refine mk_iload_n C 1 dX8_put_4 rfl ?_
    refine mk_aload_n C 0 dX8_put_5 rfl ?_
    refine mk_alen C 0 0 rfl rfl (v := nI n) rfl dX8_put_6 ?_
    refine mk_icmp_ge C 14 dX8_put_7 (by decide) (fun c2 => ?_) (fun c2 => ?_)
    · exact mk_vret C hr hlk (by rw [mkPut, if_pos (mk_nlt c1), if_neg (mk_le_nlt c2)]) dX8_put_14
    · refine mk_aload_n C 0 dX8_put_10 rfl ?_
      refine mk_iload_n C 1 dX8_put_11 rfl ?_
      refine mk_iload_n C 2 dX8_put_12 rfl ?_
      refine mk_iast C 0 0 (f := f) rfl rfl (mk_inr hn c1 c2) (j := i.toNatClampNeg) rfl (ws' := [(h, .inl (cI, n, .inl (upd f i.toNatClampNeg v)))]) rfl dX8_put_13 ?_
      exact mk_vret C hr hlk (by rw [mkPut, if_pos (mk_nlt c1), if_pos (mk_nle c2)]) dX8_put_14
theorem mkFill_0 {α : Type} (f : Nat → α) (v : α) : mkFill 0 f v = f := by funext j; simp [mkFill]
theorem mkFill_s (f : Nat → Int32) (v : Int32) (i : Nat) : upd (mkFill i f v) i v = mkFill (i + 1) f v := by
  funext j
  unfold upd mkFill
  rcases Nat.lt_trichotomy j i with q | q | q
  · rw [if_neg (by omega), if_pos q, if_pos (by omega)]
  · rw [if_pos q, if_pos (by omega)]
  · rw [if_neg (by omega), if_neg (by omega), if_neg (by omega)]
theorem mkFill_sL (f : Nat → Int64) (v : Int64) (i : Nat) : vp_updL (mkFill i f v) i v = mkFill (i + 1) f v := by
  funext j
  unfold vp_updL mkFill
  rcases Nat.lt_trichotomy j i with q | q | q
  · rw [if_neg (by omega), if_pos q, if_pos (by omega)]
  · rw [if_pos q, if_pos (by omega)]
  · rw [if_neg (by omega), if_neg (by omega), if_neg (by omega)]
set_option maxRecDepth 100000 in
theorem c_fill (l : Launch) (D : va_G) (cI cJ cB cZ cS : ClassId) (X : Nat → Nat) (Y : mk_Y) (h : Nat) (n : Nat) (f : Nat → Int32) (v : Int32) (hn : n < 2 ^ 31) : mk_Met l yJ7_fill_53178 cJ7_fill_53178 4 none ({ frames := 0, cells := 0, slots := 0, locals := 0 }) D (mk_TY cI cJ cB cZ cS) X Y [.ref h, .int v] [(h, .inl (cI, n, .inl (f)))] [(h, .inl (cI, n, .inl (mkFill n f v)))] none 0 0 := by
  refine mk_start (own := RJ7) (by decide) rfl (Nat.le_of_ble_eq_true rfl) ?_
  intro sz p e s m args below meth c A C hr hlk hnm
  replace C : mk_Cx p s m args c cJ7_fill_53178 4 RJ7 D (mk_TY cI cJ cB cZ cS) X Y A := C
  have w : ∀ (k i : Nat), i + k = n → mk_Go p l e (headSpec (mk_ws yJ7_fill_53178 cJ7_fill_53178 4 none) ({ frames := 0, cells := 0, slots := 0, locals := 0 })).room s m args below meth c D A 4 0 0 (MQ below (mk_Q none D [(h, .inl (cI, n, .inl (mkFill n f v)))] A) args s 0 0 A) 5 [(h, .inl (cI, n, .inl (mkFill i f v)))] [(0, .ref h), (1, .int v), (2, .int (nI i)), (3, .int (nI n))] [] := by
    intro k
    induction k with
    | zero =>
      intro i hi
      obtain rfl : i = n := by omega
      refine mk_iload_n C 2 dJ7_fill_53178_5 rfl ?_
      refine mk_iload_n C 3 dJ7_fill_53178_6 rfl ?_
      refine mk_icmp_ge C 20 dJ7_fill_53178_7 (by decide) (fun c1 => ?_) (fun c1 => ?_)
      · exact mk_vret C hr hlk rfl dJ7_fill_53178_20
      · exact absurd (nI_le (Nat.le_refl _) hn) c1
    | succ k ih =>
      intro i hi
      refine mk_iload_n C 2 dJ7_fill_53178_5 rfl ?_
      refine mk_iload_n C 3 dJ7_fill_53178_6 rfl ?_
      refine mk_icmp_ge C 20 dJ7_fill_53178_7 (by decide) (fun c1 => ?_) (fun c1 => ?_)
      · exact absurd c1 (nI_ge (by omega) hn)
      · refine mk_aload_n C 0 dJ7_fill_53178_10 rfl ?_
        refine mk_iload_n C 2 dJ7_fill_53178_11 rfl ?_
        refine mk_iload_n C 1 dJ7_fill_53178_12 rfl ?_
        refine mk_iast C 0 0 (f := mkFill i f v) rfl rfl (vp_in_nI (by omega) hn) (j := i) (nI_clamp (by omega)) (ws' := [(h, .inl (cI, n, .inl (mkFill (i + 1) f v)))]) (by rw [← mkFill_s]; rfl) dJ7_fill_53178_13 ?_
        refine mk_iinc C (v := nI (i + 1)) (lv' := [(2, .int (nI (i + 1))), (0, .ref h), (1, .int v), (3, .int (nI n))]) 2 dJ7_fill_53178_14 rfl (nI_1 i) (by decide) rfl ?_
        refine mk_goto C 5 dJ7_fill_53178_17 (by decide) ?_
        exact mk_lvsub [1, 2, 0, 3] rfl (ih (i + 1) (by omega))
  refine mk_iconst C (v := 0) dJ7_fill_53178_0 (by decide) ?_
  refine mk_istore_n C (lv' := [(2, .int 0), (0, .ref h), (1, .int v)]) dJ7_fill_53178_1 (by decide) rfl ?_
  refine mk_aload_n C 1 dJ7_fill_53178_2 rfl ?_
  refine mk_alen C 0 0 rfl rfl (v := nI n) rfl dJ7_fill_53178_3 ?_
  refine mk_istore_n C (lv' := [(3, .int (nI n)), (2, .int 0), (0, .ref h), (1, .int v)]) dJ7_fill_53178_4 (by decide) rfl ?_
  refine mk_lvsub [2, 3, 1, 0] (lv' := [(0, .ref h), (1, .int v), (2, .int (nI 0)), (3, .int (nI n))]) rfl ?_
  refine mk_weq (ws' := [(h, .inl (cI, n, .inl (mkFill 0 f v)))]) (by rw [mkFill_0]) ?_
  exact w n 0 (by omega)
def bc1 (x : Int32) : Int32 := x - (((x.toUInt32 >>> ((1 : Int32).toUInt32 &&& Int32.toUInt32 31)).toInt32) &&& 1431655765)
def bc2 (x : Int32) : Int32 := (x &&& 858993459) + (((x.toUInt32 >>> ((2 : Int32).toUInt32 &&& Int32.toUInt32 31)).toInt32) &&& 858993459)
def bc3 (x : Int32) : Int32 := (x + ((x.toUInt32 >>> ((4 : Int32).toUInt32 &&& Int32.toUInt32 31)).toInt32)) &&& 252645135
def bc4 (x : Int32) : Int32 := x + ((x.toUInt32 >>> ((8 : Int32).toUInt32 &&& Int32.toUInt32 31)).toInt32)
def bc5 (x : Int32) : Int32 := x + ((x.toUInt32 >>> ((16 : Int32).toUInt32 &&& Int32.toUInt32 31)).toInt32)
def mkBits (x : Int32) : Int32 := bc5 (bc4 (bc3 (bc2 (bc1 x)))) &&& 63
set_option maxRecDepth 100000 in
theorem c_bits (l : Launch) (D : va_G) (cI cJ cB cZ cS : ClassId) (X : Nat → Nat) (Y : mk_Y) (x : Int32) : mk_Met l yJ6_bitCount_0f7a4 cJ6_bitCount_0f7a4 1 (some .int) ({ frames := 0, cells := 0, slots := 0, locals := 0 }) D (mk_TY cI cJ cB cZ cS) X Y [.int x] [] [] (some (.int (mkBits x))) 0 0 := by
  refine mk_start (own := RJ6) (by decide) rfl (Nat.le_of_ble_eq_true rfl) ?_
  intro sz p e s m args below meth c A C hr hlk hnm
  replace C : mk_Cx p s m args c cJ6_bitCount_0f7a4 1 RJ6 D (mk_TY cI cJ cB cZ cS) X Y A := C
  refine mk_iload_n C 0 dJ6_bitCount_0f7a4_0 rfl ?_
  refine mk_iload_n C 0 dJ6_bitCount_0f7a4_1 rfl ?_
  refine mk_iconst C (v := 1) dJ6_bitCount_0f7a4_2 (by decide) ?_
  refine mk_iushr C dJ6_bitCount_0f7a4_3 ?_
  refine mk_ldcw C (v := 1431655765) mw_542 dJ6_bitCount_0f7a4_4 ?_
  refine mk_iand C dJ6_bitCount_0f7a4_7 ?_
  refine mk_isub C dJ6_bitCount_0f7a4_8 ?_
  refine mk_topi (y := (bc1 x)) rfl ?_
  refine mk_istore_n C (lv' := [(0, .int (bc1 x))]) dJ6_bitCount_0f7a4_9 (by decide) rfl ?_
  refine mk_iload_n C 0 dJ6_bitCount_0f7a4_10 rfl ?_
  refine mk_ldcw C (v := 858993459) mw_543 dJ6_bitCount_0f7a4_11 ?_
  refine mk_iand C dJ6_bitCount_0f7a4_14 ?_
  refine mk_iload_n C 0 dJ6_bitCount_0f7a4_15 rfl ?_
  refine mk_iconst C (v := 2) dJ6_bitCount_0f7a4_16 (by decide) ?_
  refine mk_iushr C dJ6_bitCount_0f7a4_17 ?_
  refine mk_ldcw C (v := 858993459) mw_543 dJ6_bitCount_0f7a4_18 ?_
  refine mk_iand C dJ6_bitCount_0f7a4_21 ?_
  refine mk_iadd C dJ6_bitCount_0f7a4_22 ?_
  refine mk_topi (y := (bc2 (bc1 x))) rfl ?_
  refine mk_istore_n C (lv' := [(0, .int (bc2 (bc1 x)))]) dJ6_bitCount_0f7a4_23 (by decide) rfl ?_
  refine mk_iload_n C 0 dJ6_bitCount_0f7a4_24 rfl ?_
  refine mk_iload_n C 0 dJ6_bitCount_0f7a4_25 rfl ?_
  refine mk_iconst C (v := 4) dJ6_bitCount_0f7a4_26 (by decide) ?_
  refine mk_iushr C dJ6_bitCount_0f7a4_27 ?_
  refine mk_iadd C dJ6_bitCount_0f7a4_28 ?_
  refine mk_ldcw C (v := 252645135) mw_544 dJ6_bitCount_0f7a4_29 ?_
  refine mk_iand C dJ6_bitCount_0f7a4_32 ?_
  refine mk_topi (y := (bc3 (bc2 (bc1 x)))) rfl ?_
  refine mk_istore_n C (lv' := [(0, .int (bc3 (bc2 (bc1 x))))]) dJ6_bitCount_0f7a4_33 (by decide) rfl ?_
  refine mk_iload_n C 0 dJ6_bitCount_0f7a4_34 rfl ?_
  refine mk_iload_n C 0 dJ6_bitCount_0f7a4_35 rfl ?_
  refine mk_bipush C (v := 8) dJ6_bitCount_0f7a4_36 (by decide) ?_
  refine mk_iushr C dJ6_bitCount_0f7a4_38 ?_
  refine mk_iadd C dJ6_bitCount_0f7a4_39 ?_
  refine mk_topi (y := (bc4 (bc3 (bc2 (bc1 x))))) rfl ?_
  refine mk_istore_n C (lv' := [(0, .int (bc4 (bc3 (bc2 (bc1 x)))))]) dJ6_bitCount_0f7a4_40 (by decide) rfl ?_
  refine mk_iload_n C 0 dJ6_bitCount_0f7a4_41 rfl ?_
  refine mk_iload_n C 0 dJ6_bitCount_0f7a4_42 rfl ?_
  refine mk_bipush C (v := 16) dJ6_bitCount_0f7a4_43 (by decide) ?_
  refine mk_iushr C dJ6_bitCount_0f7a4_45 ?_
  refine mk_iadd C dJ6_bitCount_0f7a4_46 ?_
  refine mk_topi (y := (bc5 (bc4 (bc3 (bc2 (bc1 x)))))) rfl ?_
  refine mk_istore_n C (lv' := [(0, .int (bc5 (bc4 (bc3 (bc2 (bc1 x))))))]) dJ6_bitCount_0f7a4_47 (by decide) rfl ?_
  refine mk_iload_n C 0 dJ6_bitCount_0f7a4_48 rfl ?_
  refine mk_bipush C (v := 63) dJ6_bitCount_0f7a4_49 (by decide) ?_
  refine mk_iand C dJ6_bitCount_0f7a4_51 ?_
  exact mk_iret C hr hlk rfl rfl dJ6_bitCount_0f7a4_52
