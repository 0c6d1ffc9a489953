/-! String.length and String.charAt of the constants (Latin 1), over the JDK's own code -/
section MKSTR
variable {p : Program} {l : Launch} {e : Env} {R : Room} {s : State} {m : MethodId} {args : Array Value} {below : List Frame} {meth : Method} {c : Code} {D : va_G} {A : Nat → Prop} {nL cells slots : Nat} {Q : State → Prop} {pc : Nat} {ws : va_W} {lv : mk_L} {st : List Value} {cc : ByteArray} {own : String} {tys : List (ClassId × FieldType)} {X : Nat → Nat} {Y : mk_Y}
theorem mk_getE (C : mk_Cx p s m args c cc nL own D tys X Y A) {q : Nat} {n d : String} {v : Value} {index : Nat} (hE : va_OF "java/lang/String" n d v q A s s.heap) (hlink : Cond.fieldLink own index "java/lang/String" n d ∈ mk_WL) (hdg : decode cc pc = .ok (.getfield index, 3)) (kk : mk_Go p l e R s m args below meth c D A nL cells slots Q (pc + 3) ws lv (v :: st)) : mk_Go p l e R s m args below meth c D A nL cells slots Q pc ws lv (.ref q :: st) :=
  fun H locs ls hP hD hS hl => vk_getf C.1.1 C.1.2.1 hE hS C.1.2.2.2.1 (C.1.2.2.2.2 _ hlink) (fun _ h => h) hdg (kk H locs ls hP hD hS hl)
theorem mk_lenE (C : mk_Cx p s m args c cc nL own D tys X Y A) {t N : Nat} {f : Nat → Value} {ty : FieldType} (hT : va_T ty t N f A s s.heap) {v : Int32} (hv : Int32.ofNat N = v) (hdg : decode cc pc = .ok (.arraylength, 1)) (kk : mk_Go p l e R s m args below meth c D A nL cells slots Q (pc + 1) ws lv (.int v :: st)) : mk_Go p l e R s m args below meth c D A nL cells slots Q pc ws lv (.ref t :: st) :=
  fun H locs ls hP hD hS hl => va_tlen C.1.1 C.1.2.1 hT hS hv hdg (kk H locs ls hP hD hS hl)
theorem mk_baldE (C : mk_Cx p s m args c cc nL own D tys X Y A) {t N : Nat} {f : Nat → Value} (hT : va_T .byte t N f A s s.heap) {i : Int32} (hin : vp_in i N) {v : Value} (hv : f i.toNatClampNeg = v) (hdg : decode cc pc = .ok (.baload, 1)) (kk : mk_Go p l e R s m args below meth c D A nL cells slots Q (pc + 1) ws lv (v :: st)) : mk_Go p l e R s m args below meth c D A nL cells slots Q pc ws lv (.int i :: .ref t :: st) :=
  fun H locs ls hP hD hS hl => va_tb C.1.1 C.1.2.1 hT hS hin hv hdg (kk H locs ls hP hD hS hl)
theorem mk_gets (C : mk_Cx p s m args c cc nL own D tys X Y A) {Cn n d : String} {v : Value} {index : Nat} (hZ : va_Z Cn n d v A s s.heap) (hlink : Cond.fieldLink own index Cn n d ∈ mk_WL) (hdg : decode cc pc = .ok (.getstatic index, 3)) (kk : mk_Go p l e R s m args below meth c D A nL cells slots Q (pc + 3) ws lv (v :: st)) : mk_Go p l e R s m args below meth c D A nL cells slots Q pc ws lv st :=
  fun H locs ls hP hD hS hl => va_gets C.1.1 C.1.2.1 hZ hS C.1.2.2.2.1 (C.1.2.2.2.2 _ hlink) (fun _ h => h) hdg (kk H locs ls hP hD hS hl)
theorem mk_i2c (C : mk_Cx p s m args c cc nL own D tys X Y A) {x v : Int32} (hv : (x.toUInt32 % 65536).toInt32 = v) (hdg : decode cc pc = .ok (.i2c, 1)) (kk : mk_Go p l e R s m args below meth c D A nL cells slots Q (pc + 1) ws lv (.int v :: st)) : mk_Go p l e R s m args below meth c D A nL cells slots Q pc ws lv (.int x :: st) :=
  fun H locs ls hP hD hS hl => lv_i2c C.1.1 C.1.2.1 hdg hv (kk H locs ls hP hD hS hl)
end MKSTR
theorem mkn_J0_coder : mk_nm yJ0_coder_7d493 0 := by decide +kernel
theorem mkn_J0_isLatin1 : mk_nm yJ0_isLatin1_aae02 0 := by decide +kernel
theorem mkn_J1_charAt : mk_nm yJ1_charAt_3b067 2 := by decide +kernel
theorem mkn_J0_checkIndex : mk_nm yJ0_checkIndex_df160 2 := by decide +kernel
theorem mkn_J3_checkIndex : mk_nm yJ3_checkIndex_8e157 3 := by decide +kernel
set_option maxRecDepth 100000 in
theorem c_coder (l : Launch) (D : va_G) (cI cJ cB cZ cS : ClassId) (X : Nat → Nat) (Y : mk_Y) (k : Nat) : mk_Met l yJ0_coder_7d493 cJ0_coder_7d493 1 (some .byte) ({ frames := 0, cells := 0, slots := 0, locals := 0 }) D (mk_TY cI cJ cB cZ cS) X Y [.ref (X k)] [] [] (some (.int 0)) 0 0 := by
  refine mk_start (own := RJ0) (by decide) rfl (Nat.le_of_ble_eq_true rfl) ?_
  intro sz p e s m args below meth c A C hr hlk hnm
  replace C : mk_Cx p s m args c cJ0_coder_7d493 1 RJ0 D (mk_TY cI cJ cB cZ cS) X Y A := C
  refine mk_gets C C.2.2.1.2.2.2.2.1 mw_402 dJ0_coder_7d493_0 ?_
  refine mk_if_eq C 13 dJ0_coder_7d493_3 (by decide) (fun c1 => absurd c1 (by decide)) (fun _ => ?_)
  refine mk_aload_n C 0 dJ0_coder_7d493_6 rfl ?_
  refine mk_getE C (C.2.2.1.2.1 k).2.1 mw_899 dJ0_coder_7d493_7 ?_
  refine mk_goto C 14 dJ0_coder_7d493_10 (by decide) ?_
  exact mk_zret C hr hlk rfl rfl rfl dJ0_coder_7d493_14
set_option maxRecDepth 100000 in
theorem c_isL (l : Launch) (D : va_G) (cI cJ cB cZ cS : ClassId) (X : Nat → Nat) (Y : mk_Y) (k : Nat) : mk_Met l yJ0_isLatin1_aae02 cJ0_isLatin1_aae02 1 (some .boolean) ({ frames := 0, cells := 0, slots := 0, locals := 0 }) D (mk_TY cI cJ cB cZ cS) X Y [.ref (X k)] [] [] (some (.int 1)) 0 0 := by
  refine mk_start (own := RJ0) (by decide) rfl (Nat.le_of_ble_eq_true rfl) ?_
  intro sz p e s m args below meth c A C hr hlk hnm
  replace C : mk_Cx p s m args c cJ0_isLatin1_aae02 1 RJ0 D (mk_TY cI cJ cB cZ cS) X Y A := C
  refine mk_gets C C.2.2.1.2.2.2.2.1 mw_402 dJ0_isLatin1_aae02_0 ?_
  refine mk_if_eq C 17 dJ0_isLatin1_aae02_3 (by decide) (fun c1 => absurd c1 (by decide)) (fun _ => ?_)
  refine mk_aload_n C 0 dJ0_isLatin1_aae02_6 rfl ?_
  refine mk_getE C (C.2.2.1.2.1 k).2.1 mw_899 dJ0_isLatin1_aae02_7 ?_
  refine mk_if_ne C 17 dJ0_isLatin1_aae02_10 (by decide) (fun c1 => absurd rfl c1) (fun _ => ?_)
  refine mk_iconst C (v := 1) dJ0_isLatin1_aae02_13 (by decide) ?_
  refine mk_goto C 18 dJ0_isLatin1_aae02_14 (by decide) ?_
  exact mk_zret C hr hlk rfl rfl rfl dJ0_isLatin1_aae02_18
set_option maxRecDepth 100000 in
theorem c_slenG (l : Launch) (D : va_G) (cI cJ cB cZ cS : ClassId) (X : Nat → Nat) (Y : mk_Y) (k : Nat) : mk_Met l yJ0_length_8abf5 cJ0_length_8abf5 1 (some .int) ({ frames := 1, cells := 0, slots := 0, locals := 40 }) D (mk_TY cI cJ cB cZ cS) X Y [.ref (X k)] [] [] (some (.int (nI (Y.1 k).2.1))) 0 0 := by
  refine mk_start (own := RJ0) (by decide) rfl (Nat.le_of_ble_eq_true rfl) ?_
  intro sz p e s m args below meth c A C hr hlk hnm
  replace C : mk_Cx p s m args c cJ0_length_8abf5 1 RJ0 D (mk_TY cI cJ cB cZ cS) X Y A := C
  refine mk_aload_n C 0 dJ0_length_8abf5_0 rfl ?_
  refine mk_getE C (C.2.2.1.2.1 k).2.2.1 mw_898 dJ0_length_8abf5_1 ?_
  refine mk_lenE C (C.2.2.1.2.1 k).2.2.2 (v := nI (Y.1 k).2.1) rfl dJ0_length_8abf5_4 ?_
  refine mk_aload_n C 0 dJ0_length_8abf5_5 rfl ?_
  refine mk_callEg C (c_coder l D cI cJ cB cZ cS X Y k) mw_398 mw_399 mw_400 mw_13 mw_401 mkn_J0_coder rfl ⟨Nat.le_of_ble_eq_true rfl, Nat.le_of_ble_eq_true rfl⟩ rfl (Nat.le_of_ble_eq_true rfl) dJ0_length_8abf5_6 rfl ?_
  refine mk_ishr C dJ0_length_8abf5_9 ?_
  exact mk_iret C hr hlk (sb_shr0 _) rfl dJ0_length_8abf5_10
set_option maxRecDepth 100000 in
theorem c_ckI (l : Launch) (D : va_G) (cI cJ cB cZ cS : ClassId) (X : Nat → Nat) (Y : mk_Y) (i n : Int32) (v : Value) (hv : v = .null ∨ ∃ t : Nat, v = .ref t) (h0 : ¬ i < 0) (h1 : i < n) : mk_Met l yJ3_checkIndex_8e157 cJ3_checkIndex_8e157 3 (some .int) ({ frames := 0, cells := 0, slots := 0, locals := 0 }) D (mk_TY cI cJ cB cZ cS) X Y [.int i, .int n, v] [] [] (some (.int i)) 0 0 := by
  refine mk_start (own := RJ3) (by decide) rfl (by rcases hv with rfl | ⟨t, rfl⟩ <;> exact Nat.le_of_ble_eq_true rfl) ?_
  intro sz p e s m args below meth c A C hr hlk hnm
  replace C : mk_Cx p s m args c cJ3_checkIndex_8e157 3 RJ3 D (mk_TY cI cJ cB cZ cS) X Y A := C
  refine mk_lvsub [0, 1] (lv' := [(0, .int i), (1, .int n)]) (by rcases hv with rfl | ⟨t, rfl⟩ <;> rfl) ?_
  refine mk_iload_n C 0 dJ3_checkIndex_8e157_0 rfl ?_
  refine mk_if_lt C 9 dJ3_checkIndex_8e157_1 (by decide) (fun c1 => absurd c1 h0) (fun _ => ?_)
  refine mk_iload_n C 0 dJ3_checkIndex_8e157_4 rfl ?_
  refine mk_iload_n C 1 dJ3_checkIndex_8e157_5 rfl ?_
  refine mk_icmp_lt C 16 dJ3_checkIndex_8e157_6 (by decide) (fun _ => ?_) (fun c1 => absurd h1 c1)
  refine mk_iload_n C 0 dJ3_checkIndex_8e157_16 rfl ?_
  exact mk_iret C hr hlk rfl rfl dJ3_checkIndex_8e157_17
set_option maxRecDepth 100000 in
theorem c_ckS (l : Launch) (D : va_G) (cI cJ cB cZ cS : ClassId) (X : Nat → Nat) (Y : mk_Y) (i n : Int32) (h0 : ¬ i < 0) (h1 : i < n) : mk_Met l yJ0_checkIndex_df160 cJ0_checkIndex_df160 2 none ({ frames := 1, cells := 0, slots := 0, locals := 40 }) D (mk_TY cI cJ cB cZ cS) X Y [.int i, .int n] [] [] none 0 0 := by
  refine mk_start (own := RJ0) (by decide) rfl (Nat.le_of_ble_eq_true rfl) ?_
  intro sz p e s m args below meth c A C hr hlk hnm
  replace C : mk_Cx p s m args c cJ0_checkIndex_df160 2 RJ0 D (mk_TY cI cJ cB cZ cS) X Y A := C
  refine mk_iload_n C 0 dJ0_checkIndex_df160_0 rfl ?_
  refine mk_iload_n C 1 dJ0_checkIndex_df160_1 rfl ?_
  rcases C.2.2.1.2.2.2.2.2.1 with hz | ⟨t, hz⟩
  · refine mk_gets C hz mw_418 dJ0_checkIndex_df160_2 ?_
    refine mk_callSi C (c_ckI l D cI cJ cB cZ cS X Y i n .null (Or.inl rfl) h0 h1) mw_420 mw_421 mw_19 mw_422 mkn_J3_checkIndex rfl ⟨Nat.le_of_ble_eq_true rfl, Nat.le_of_ble_eq_true rfl⟩ (mk_Fr.nil _) (Nat.le_of_ble_eq_true rfl) dJ0_checkIndex_df160_5 rfl ?_
    refine mk_pop C dJ0_checkIndex_df160_8 rfl ?_
    exact mk_vret C hr hlk rfl dJ0_checkIndex_df160_9
  · refine mk_gets C hz mw_418 dJ0_checkIndex_df160_2 ?_
    refine mk_callSi C (c_ckI l D cI cJ cB cZ cS X Y i n (.ref t) (Or.inr ⟨t, rfl⟩) h0 h1) mw_420 mw_421 mw_19 mw_422 mkn_J3_checkIndex rfl ⟨Nat.le_of_ble_eq_true rfl, Nat.le_of_ble_eq_true rfl⟩ (mk_Fr.nil _) (Nat.le_of_ble_eq_true rfl) dJ0_checkIndex_df160_5 rfl ?_
    refine mk_pop C dJ0_checkIndex_df160_8 rfl ?_
    exact mk_vret C hr hlk rfl dJ0_checkIndex_df160_9
theorem mk_chr : ∀ c : Nat, c < 128 → ((nI c &&& 255).toUInt32 % 65536).toInt32 = nI c ∧ narrow .char (.int (nI c)) = .int (nI c) := by decide +kernel
/-- what is told of the strings without a state -/
theorem mk_pure {l : Launch} {y : MethodName} {cc : ByteArray} {nL : Nat} {ret : Option FieldType} {rm : Room} {D : va_G} {tys : List (ClassId × FieldType)} {X : Nat → Nat} {Y : mk_Y} {av : List Value} {ws0 w1 : va_W} {res : Option Value} {mc ms : Nat} (h : mk_Pu Y → mk_Met l y cc nL ret rm D tys X Y av ws0 w1 res mc ms) : mk_Met l y cc nL ret rm D tys X Y av ws0 w1 res mc ms := by
  by_cases hY : mk_Pu Y
  · exact h hY
  · intro sz
    unfold Met MetFree
    intro p e ha hc hk s m args below hf happ hP
    exact absurd hP.2.2.2.2.2.2.2.1 hY
set_option maxRecDepth 100000 in
theorem c_l1 (l : Launch) (D : va_G) (cI cJ cB cZ cS : ClassId) (X : Nat → Nat) (Y : mk_Y) (k j : Nat) (hj : j < (Y.1 k).2.1) (hY : mk_Sp (Y.1 k)) : mk_Met l yJ1_charAt_3b067 cJ1_charAt_3b067 2 (some .char) ({ frames := 2, cells := 0, slots := 0, locals := 80 }) D (mk_TY cI cJ cB cZ cS) X Y [.ref (Y.1 k).1, .int (nI j)] [] [] (some (.int (nI ((Y.1 k).2.2 j)))) 0 0 := by
  have hn31 : (Y.1 k).2.1 < 2 ^ 31 := Nat.lt_of_le_of_lt hY.1 (by decide)
  have hj31 : j < 2 ^ 31 := Nat.lt_trans hj hn31
  have hi : vp_in (nI j) (Y.1 k).2.1 := vp_in_nI hj hn31
  refine mk_start (own := RJ1) (by decide) rfl (Nat.le_of_ble_eq_true rfl) ?_
  intro sz p e s m args below meth c A C hr hlk hnm
  replace C : mk_Cx p s m args c cJ1_charAt_3b067 2 RJ1 D (mk_TY cI cJ cB cZ cS) X Y A := C
  refine mk_iload_n C 1 dJ1_charAt_3b067_0 rfl ?_
  refine mk_aload_n C 0 dJ1_charAt_3b067_1 rfl ?_
  refine mk_lenE C (C.2.2.1.2.1 k).2.2.2 (v := nI (Y.1 k).2.1) rfl dJ1_charAt_3b067_2 ?_
  refine mk_callSv C (c_ckS l D cI cJ cB cZ cS X Y (nI j) (nI (Y.1 k).2.1) (nI_pos hj31) (nI_lt hj hn31)) mw_415 mw_416 mw_13 mw_417 mkn_J0_checkIndex rfl ⟨Nat.le_of_ble_eq_true rfl, Nat.le_of_ble_eq_true rfl⟩ (mk_Fr.nil _) (Nat.le_of_ble_eq_true rfl) dJ1_charAt_3b067_3 rfl ?_
  refine mk_aload_n C 0 dJ1_charAt_3b067_6 rfl ?_
  refine mk_iload_n C 1 dJ1_charAt_3b067_7 rfl ?_
  refine mk_baldE C (C.2.2.1.2.1 k).2.2.2 hi (v := .int (nI ((Y.1 k).2.2 j))) (by rw [nI_clamp hj31]) dJ1_charAt_3b067_8 ?_
  refine mk_sipush C (v := 255) dJ1_charAt_3b067_9 (by decide) ?_
  refine mk_iand C dJ1_charAt_3b067_12 ?_
  refine mk_i2c C (mk_chr _ (hY.2 j hj)).1 dJ1_charAt_3b067_13 ?_
  exact mk_zret C hr hlk (mk_chr _ (hY.2 j hj)).2 rfl rfl dJ1_charAt_3b067_14
set_option maxRecDepth 100000 in
theorem c_satG (l : Launch) (D : va_G) (cI cJ cB cZ cS : ClassId) (X : Nat → Nat) (Y : mk_Y) (k j : Nat) (hj : j < (Y.1 k).2.1) (hY : mk_Sp (Y.1 k)) : mk_Met l yJ0_charAt_5068e cJ0_charAt_5068e 2 (some .char) ({ frames := 5, cells := 0, slots := 0, locals := 160 }) D (mk_TY cI cJ cB cZ cS) X Y [.ref (X k), .int (nI j)] [] [] (some (.int (nI ((Y.1 k).2.2 j)))) 0 0 := by
  refine mk_start (own := RJ0) (by decide) rfl (Nat.le_of_ble_eq_true rfl) ?_
  intro sz p e s m args below meth c A C hr hlk hnm
  replace C : mk_Cx p s m args c cJ0_charAt_5068e 2 RJ0 D (mk_TY cI cJ cB cZ cS) X Y A := C
  have hn : narrow .char (.int (nI ((Y.1 k).2.2 j))) = .int (nI ((Y.1 k).2.2 j)) := (mk_chr _ (hY.2 j hj)).2
  refine mk_aload_n C 0 dJ0_charAt_5068e_0 rfl ?_
  refine mk_callEg C (c_isL l D cI cJ cB cZ cS X Y k) mw_408 mw_409 mw_410 mw_13 mw_411 mkn_J0_isLatin1 rfl ⟨Nat.le_of_ble_eq_true rfl, Nat.le_of_ble_eq_true rfl⟩ rfl (Nat.le_of_ble_eq_true rfl) dJ0_charAt_5068e_1 rfl ?_
  refine mk_if_eq C 16 dJ0_charAt_5068e_4 (by decide) (fun c1 => absurd c1 (by decide)) (fun _ => ?_)
  refine mk_aload_n C 0 dJ0_charAt_5068e_7 rfl ?_
  refine mk_getE C (C.2.2.1.2.1 k).2.2.1 mw_898 dJ0_charAt_5068e_8 ?_
  refine mk_iload_n C 1 dJ0_charAt_5068e_11 rfl ?_
  refine mk_callSi C (c_l1 l D cI cJ cB cZ cS X Y k j hj hY) mw_412 mw_413 mw_20 mw_414 mkn_J1_charAt rfl ⟨Nat.le_of_ble_eq_true rfl, Nat.le_of_ble_eq_true rfl⟩ (mk_Fr.nil _) (Nat.le_of_ble_eq_true rfl) dJ0_charAt_5068e_12 rfl ?_
  exact mk_zret C hr hlk hn rfl rfl dJ0_charAt_5068e_15

theorem c_slen (l : Launch) (D : va_G) (cI cJ cB cZ cS : ClassId) (X : Nat → Nat) (Y : mk_Y) (k : Nat) (hk : k < 13) : mk_Met l yJ0_length_8abf5 cJ0_length_8abf5 1 (some .int) ({ frames := 1, cells := 0, slots := 0, locals := 40 }) D (mk_TY cI cJ cB cZ cS) X Y [.ref (X k)] [] [] (some (.int (mkLen k))) 0 0 :=
  mk_pure (fun h => by
    have e := (h.2 k (by omega)).1
    have c := c_slenG l D cI cJ cB cZ cS X Y k
    rw [e] at c
    exact c)
theorem c_sat (l : Launch) (D : va_G) (cI cJ cB cZ cS : ClassId) (X : Nat → Nat) (Y : mk_Y) (k : Nat) (hk : k < 13) (i : Int32) (hi : vp_in i (mk_len.getD k 0)) : mk_Met l yJ0_charAt_5068e cJ0_charAt_5068e 2 (some .char) ({ frames := 5, cells := 0, slots := 0, locals := 160 }) D (mk_TY cI cJ cB cZ cS) X Y [.ref (X k), .int i] [] [] (some (.int (mkChr k i))) 0 0 :=
  mk_pure (fun h => by
    have e := h.2 k (by omega)
    have h13 : mk_len.getD k 0 < 2 ^ 31 := by rw [← e.1]; exact Nat.lt_of_le_of_lt (h.1 k).1 (by decide)
    obtain ⟨j, hj, rfl⟩ := vp_in_of hi h13
    have c := c_satG l D cI cJ cB cZ cS X Y k j (by rw [e.1]; exact hj) (h.1 k)
    rw [e.2 j hj] at c
    rw [mkChr, nI_clamp (Nat.lt_trans hj h13)]
    exact c)
