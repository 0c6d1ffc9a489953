/-! further rows of the law's walk -/
section MKL
variable {p : Program} {l : Launch} {e : Env} {R : Room} {s : State} {m : MethodId} {args : Array Value} {below : List Frame} {meth : Method} {c : Code} {D : va_G} {A : Nat → Prop} {nL cells slots : Nat} {Q : State → Prop} {pc : Nat} {ws : va_W} {lv : mk_L} {st : List Value} {cc : ByteArray} {own : String} {tys : List (ClassId × FieldType)} {X : Nat → Nat} {Y : mk_Y}
/-- calls that make nothing and answer an int, whatever was made before -/
theorem mk_callXi (C : mk_Cx p s m args c cc nL own D tys X Y A) {y : MethodName} {cy : ByteArray} {nY index n : Nat} {ret : Option FieldType} {fr lo : Nat} {b ci : Nat} {fs : List Value} {r : vw_C} {As stk : List Value} {wc w1 ws' : va_W} {v : Int32}
    (hM : mk_Met l y cy nY ret ({ frames := fr, cells := 0, slots := 0, locals := lo } : Room) D tys X Y (.ref b :: As) wc w1 (some (.int v)) 0 0) (h1 : Cond.methodLink own index y ∈ mk_WL) (h2 : Cond.instanceMethod y ∈ mk_WL) (h3 : Cond.selects y.cls y y ∈ mk_WL) (h4 : Cond.initialized y.cls ∈ mk_WL) (h5 : Cond.code y cy nY ret ∈ mk_WL) (hn : mk_nm y n) (hAs : As.length = n)
    (hR : fr + 1 ≤ R.frames ∧ 8 + (nY + 11) + lo ≤ R.locals) (hroom : cells ≤ R.cells ∧ slots ≤ R.slots) (q0 : Nat) (he : ws[q0]? = some (b, .inr (ci, fs))) (hc : vwCl[ci]? = some r) (hr : r.1 = y.cls) (hF : mk_Fr ws wc w1 ws') (hst : (st.map fun v => v.category).sum ≤ 8)
    (hdg : decode cc pc = .ok (.invokevirtual index, 3)) (hs : stk = As.reverse ++ .ref b :: st) (kk : mk_Go p l e R s m args below meth c D A nL cells slots Q (pc + 3) ws' lv (.int v :: st)) : mk_Go p l e R s m args below meth c D A nL cells slots Q pc ws lv stk :=
  mk_callV C hM h1 h2 h3 h4 h5 hn hAs hR ⟨rfl, rfl⟩ hroom q0 he hc hr hF hst hdg hs kk
theorem mk_callXs (C : mk_Cx p s m args c cc nL own D tys X Y A) {y : MethodName} {cy : ByteArray} {nY index n : Nat} {ret : Option FieldType} {fr lo : Nat} {As stk : List Value} {wc w1 ws' : va_W} {v : Int32}
    (hM : mk_Met l y cy nY ret ({ frames := fr, cells := 0, slots := 0, locals := lo } : Room) D tys X Y As wc w1 (some (.int v)) 0 0) (h1 : Cond.methodLink own index y ∈ mk_WL) (h2 : Cond.static y ∈ mk_WL) (h4 : Cond.initialized y.cls ∈ mk_WL) (h5 : Cond.code y cy nY ret ∈ mk_WL) (hn : mk_nm y n) (hAs : As.length = n)
    (hR : fr + 1 ≤ R.frames ∧ 8 + (nY + 11) + lo ≤ R.locals) (hroom : cells ≤ R.cells ∧ slots ≤ R.slots) (hF : mk_Fr ws wc w1 ws') (hst : (st.map fun v => v.category).sum ≤ 8)
    (hdg : decode cc pc = .ok (.invokestatic index, 3)) (hs : stk = As.reverse ++ st) (kk : mk_Go p l e R s m args below meth c D A nL cells slots Q (pc + 3) ws' lv (.int v :: st)) : mk_Go p l e R s m args below meth c D A nL cells slots Q pc ws lv stk :=
  mk_callS C hM h1 h2 h4 h5 hn hAs hR ⟨rfl, rfl⟩ hroom hF hst hdg hs kk
/-- the law's own cell(..), from the class nested in the law -/
theorem mk_callCl (C : mk_Cx p s m args c cc nL RX9 D tys X Y A) {cy : ByteArray} {nY n : Nat} {ret : Option FieldType} {fr lo : Nat} {As stk : List Value} {wc w1 ws' : va_W} {v : Int32}
    (hM : mk_Met l yL_cell cy nY ret ({ frames := fr, cells := 0, slots := 0, locals := lo } : Room) D tys X Y As wc w1 (some (.int v)) 0 0) (h2 : Cond.static yL_cell ∈ mk_WL) (h4 : Cond.initialized yL_cell.cls ∈ mk_WL) (h5 : Cond.code yL_cell cy nY ret ∈ mk_WL) (hn : mk_nm yL_cell n) (hAs : As.length = n)
    (hR : fr + 1 ≤ R.frames ∧ 8 + (nY + 11) + lo ≤ R.locals) (hroom : cells ≤ R.cells ∧ slots ≤ R.slots) (hF : mk_Fr ws wc w1 ws') (hst : (st.map fun v => v.category).sum ≤ 8)
    (hdg : decode cc pc = .ok (.invokestatic 7, 3)) (hs : stk = As.reverse ++ st) (kk : mk_Go p l e R s m args below meth c D A nL cells slots Q (pc + 3) ws' lv (.int v :: st)) : mk_Go p l e R s m args below meth c D A nL cells slots Q pc ws lv stk := by
  subst hs
  intro H locs ls hP hD hS hl
  have hp := mk_pre (av := As) C hF hP hD hS
  exact mk_back C hF hP hD hS hl (va_runSN (As := As) (rest := st) (n := n) C.1 (hM H.size) ⟨va_cnB n C.1.2.2.2.2 (mk_good h5) rfl rfl rfl C.2.2.1.1.2.1 (C.1.2.2.2.2 _ h4) hn hR, C.1.2.2.2.2 _ h2, trivial⟩ hp rfl hAs hl.1 rfl (lv_room hst) hdg hroom) kk
theorem mk_pD {E w0 E' W : va_W} (h : E.Perm (w0 ++ E')) : (E ++ W).Perm (w0 ++ (E' ++ W)) := by
  have := h.append_right W
  rwa [List.append_assoc] at this
end MKL
theorem mk_Met.G {l : Launch} {y : MethodName} {cc : ByteArray} {nL : Nat} {ret : Option FieldType} {rm : Room} {D : va_G} {tys : List (ClassId × FieldType)} {X : Nat → Nat} {Y : mk_Y} {av : List Value} {ws0 w1 : va_W} {res : Option Value} {mc ms : Nat} (h : mk_Met l y cc nL ret rm D tys X Y av ws0 w1 res mc ms) : mk_MetG l y cc nL ret rm D tys X Y av ws0 (fun _ : Unit => True) (fun _ => res) (fun _ => w1) mc ms := by
  intro sz
  have hs := h sz
  unfold Met MetFree at hs ⊢
  intro p e ha hc hk s m args below hf happ hP hT
  obtain ⟨k, o, h1, h2, h3, ⟨⟨q1, q2, q3⟩, q4⟩, q5⟩ := hs p e ha hc hk s m args below hf happ hP hT
  exact ⟨k, o, h1, h2, h3, ⟨⟨(), trivial, q1, q2, q3⟩, q4⟩, q5⟩
/-! what the script says (law2.py) -/
def cv (Y : mk_Y) (k : Nat) : Nat := if k < Y.2.2.1 then (Y.2.2.2 k).toBitVec.toNat % 2 ^ 31 else 0
theorem cv_lt (Y : mk_Y) (k : Nat) : cv Y k < 2 ^ 31 := by
  unfold cv
  split
  · exact Nat.mod_lt _ (by decide)
  · decide
theorem lw_min2 {b : Nat} (hb : b < 2 ^ 31) : (if nI b < 2 then nI b else 2) = nI (min 2 b) := by
  by_cases h : b < 2
  · rw [if_pos (show nI b < 2 from (nI_lt h (by decide) : nI b < nI 2)), Nat.min_eq_right (by omega)]
  · rw [if_neg (show ¬ nI b < 2 from (nI_nlt (by omega) hb : ¬ nI b < nI 2)), Nat.min_eq_left (by omega)]
    rfl
/-- the rows of the law's own channel -/
def zRows (d : Nat → Nat) (gW gN gK : Nat → Int32) : Prop := d 1 < 200 ∧ d 4 ≤ 8 ∧ d 5 ≤ 4 ∧ (∀ i, i < d 4 → gW i = nI (d (7 + i)) ∧ d (7 + i) < 200) ∧ ∀ i, i < d 5 → gN i = nI (d (37 + i)) ∧ d (37 + i) < 200 ∧ gK i = nI (d (47 + i)) ∧ d (47 + i) ≤ 2
theorem hvN_le {d : Nat → Nat} {gW gN gK : Nat → Int32} (hz : zRows d gW gN gK) (t b : Nat) : ∀ k i, i + k = d 5 → hvN d t b k i ≤ 2
  | 0, _, _ => by unfold hvN; exact Nat.min_le_left _ _
  | k + 1, i, h => by
    unfold hvN
    split
    · exact (hz.2.2.2.2 i (by omega)).2.2.2
    · exact hvN_le hz t b k (i + 1) (by omega)
set_option maxHeartbeats 4000000 in
set_option maxRecDepth 100000 in
theorem c_cell (l : Launch) (D : va_G) (cI cJ cB cZ cS : ClassId) (X : Nat → Nat) (Y : mk_Y) (k : Nat) (hk : k < 2 ^ 31) (hL : Y.2.2.1 < 2 ^ 31) : mk_Met l yL_cell cL_cell 2 (some .int) ({ frames := 0, cells := 0, slots := 0, locals := 0 }) D (mk_TY cI cJ cB cZ cS) X Y [.ref Y.2.1, .int (nI k)] [] [] (some (.int (nI (cv Y k)))) 0 0 := by
  refine mk_start (own := RL) (by decide) rfl (Nat.le_of_ble_eq_true rfl) ?_
  intro sz p e s m args below meth c A C hr hlk hnm
  replace C : mk_Cx p s m args c cL_cell 2 RL D (mk_TY cI cJ cB cZ cS) X Y A := C
  refine mk_iload_n C 1 dL_cell_0 rfl ?_
  refine mk_aload_n C 0 dL_cell_1 rfl ?_
  refine mk_slen C dL_cell_2 ?_
  refine mk_icmp_ge C 15 dL_cell_3 (by decide) (fun hc => ?_) (fun hc => ?_)
  · refine mk_iconst C (v := 0) dL_cell_15 (by decide) ?_
    have e : cv Y k = 0 := by unfold cv; rw [if_neg (by have := (nI_leI hL hk).mp hc; omega)]
    rw [e]
    exact mk_iret C hr hlk rfl rfl dL_cell_16
  · have hkL : k < Y.2.2.1 := Nat.lt_of_not_le (fun z => hc ((nI_leI hL hk).mpr z))
    refine mk_aload_n C 0 dL_cell_6 rfl ?_
    refine mk_iload_n C 1 dL_cell_7 rfl ?_
    refine mk_sld C (vp_in_nI hkL hL) (j := k) (nI_clamp hk) dL_cell_8 ?_
    refine mk_ldc C (v := 2147483647) mw_692 dL_cell_9 ?_
    refine mk_iand C dL_cell_11 ?_
    refine mk_topi (y := nI (cv Y k)) (by rw [pk_and _ 31 (by decide)]; unfold cv; rw [if_pos hkL]) ?_
    refine mk_goto C 16 dL_cell_12 (by decide) ?_
    exact mk_iret C hr hlk rfl rfl dL_cell_16
set_option maxHeartbeats 4000000 in
set_option maxRecDepth 100000 in
theorem heard_loop {p : Program} {l : Launch} {e : Env} {s : State} {m : MethodId} {args : Array Value} {below : List Frame} {meth : Method} {c : Code} {D : va_G} {A : Nat → Prop} {cI cJ cB cZ cS : ClassId} {X : Nat → Nat} {Y : mk_Y} (C : mk_Cx p s m args c cX9_heard 4 RX9 D (mk_TY cI cJ cB cZ cS) X Y A) (hr : meth.sig.returnType = some .int) (hlk : meth.locks = false) {z aW aN aK aB xt : Nat} {d : Nat → Nat} {gW gN gK : Nat → Int32} {fB : Nat → Option Nat} (hz : zRows d gW gN gK) {t b r : Nat} (ht : t < 2 ^ 31) (hb : b < 2 ^ 31) : ∀ k i, i + k = d 5 → hvN d t b k i = r → mk_Go p l e ({ frames := 1, cells := 0, slots := 0, locals := 30 }) s m args below meth c D A 4 0 0 (MQ below (mk_Q (some (.int (nI r))) D [(z, .inr (9, [.int (nI (d 0)), .int (nI (d 1)), .int (nI (d 4)), .int (nI (d 5)), .ref aW, .ref aN, .ref aK, .ref aB, .ref xt])), (aW, .inl (cI, (d 4), .inl gW)), (aN, .inl (cI, (d 5), .inl gN)), (aK, .inl (cI, (d 5), .inl gK)), (aB, .inl (cS, (d 4), .inr (.inr (.inr (.inr fB)))))] A) args s 0 0 A) 2 [(z, .inr (9, [.int (nI (d 0)), .int (nI (d 1)), .int (nI (d 4)), .int (nI (d 5)), .ref aW, .ref aN, .ref aK, .ref aB, .ref xt])), (aW, .inl (cI, (d 4), .inl gW)), (aN, .inl (cI, (d 5), .inl gN)), (aK, .inl (cI, (d 5), .inl gK)), (aB, .inl (cS, (d 4), .inr (.inr (.inr (.inr fB)))))] [(0, .ref z), (1, .int (nI t)), (2, .int (nI b)), (3, .int (nI i))] [] := by
  obtain ⟨hz1, hz4, hz5, -, -⟩ := id hz
  intro k
  induction k with
  | zero =>
    intro i hi hr0
    have hi : i = d 5 := by omega
    refine mk_iload_n C 3 dX9_heard_2 rfl ?_
    refine mk_aload_n C 0 dX9_heard_3 rfl ?_
    refine mk_get C mk_inX9 0 rfl rfl 3 (by decide) mw_923 (v := .int (nI (d 5))) rfl dX9_heard_4 ?_
    refine mk_icmp_ge C 33 dX9_heard_7 (by decide) (fun _ => ?_) (fun h9 => absurd (nI_le (by omega) (by omega)) h9)
    refine mk_iconst C (v := 2) dX9_heard_33 (by decide) ?_
    refine mk_iload_n C 2 dX9_heard_34 rfl ?_
    refine mk_mmin C mw_990 mw_546 mw_16 mw_547 ⟨Nat.le_of_ble_eq_true rfl, Nat.le_of_ble_eq_true rfl⟩ ⟨Nat.le_of_ble_eq_true rfl, Nat.le_of_ble_eq_true rfl⟩ dX9_heard_35 ?_
    refine mk_topi (y := nI r) (by rw [lw_min2 hb]; exact congrArg nI hr0) ?_
    exact mk_iret C hr hlk rfl rfl dX9_heard_38
  | succ k ih =>
    intro i hi hr0
    obtain ⟨g1, g2, g3, g4⟩ := hz.2.2.2.2 i (by omega)
    refine mk_iload_n C 3 dX9_heard_2 rfl ?_
    refine mk_aload_n C 0 dX9_heard_3 rfl ?_
    refine mk_get C mk_inX9 0 rfl rfl 3 (by decide) mw_923 (v := .int (nI (d 5))) rfl dX9_heard_4 ?_
    refine mk_icmp_ge C 33 dX9_heard_7 (by decide) (fun h9 => absurd h9 (jk_nle (by omega) (by omega))) (fun _ => ?_)
    refine mk_aload_n C 0 dX9_heard_10 rfl ?_
    refine mk_get C mk_inX9 0 rfl rfl 5 (by decide) mw_927 (v := .ref aN) rfl dX9_heard_11 ?_
    refine mk_iload_n C 3 dX9_heard_14 rfl ?_
    refine mk_iald C 2 0 (f := gN) rfl rfl (vp_in_nI (by omega) (by omega)) (j := i) (nI_clamp (by omega)) dX9_heard_15 ?_
    refine mk_topi (y := nI (d (37 + i))) (g1) ?_
    refine mk_iload_n C 1 dX9_heard_16 rfl ?_
    refine mk_icmp_ne C 27 dX9_heard_17 (by decide) (fun hc => ?_) (fun hc => ?_)
    · refine mk_iinc C 3 (v := nI (i + 1)) (lv' := [(3, .int (nI (i + 1))), (0, .ref z), (1, .int (nI t)), (2, .int (nI b))]) dX9_heard_27 rfl (nI_1 i) (by decide) rfl ?_
      refine mk_goto C 2 dX9_heard_30 (by decide) ?_
      refine mk_lvsub [1, 2, 3, 0] rfl (ih (i + 1) (by omega) ?_)
      rw [← hr0, hvN, if_neg (fun z => hc (by rw [z]))]
    · have hc : d (37 + i) = t := (nI_eq (by omega) ht).mp hc
      refine mk_aload_n C 0 dX9_heard_20 rfl ?_
      refine mk_get C mk_inX9 0 rfl rfl 6 (by decide) mw_928 (v := .ref aK) rfl dX9_heard_21 ?_
      refine mk_iload_n C 3 dX9_heard_24 rfl ?_
      refine mk_iald C 3 0 (f := gK) rfl rfl (vp_in_nI (by omega) (by omega)) (j := i) (nI_clamp (by omega)) dX9_heard_25 ?_
      refine mk_topi (y := nI r) (by rw [g3]; refine congrArg nI ?_; rw [← hr0, hvN, if_pos hc]) ?_
      exact mk_iret C hr hlk rfl rfl dX9_heard_26
set_option maxHeartbeats 4000000 in
set_option maxRecDepth 100000 in
theorem c_hrd (l : Launch) (D : va_G) (cI cJ cB cZ cS : ClassId) (X : Nat → Nat) (Y : mk_Y) (z aW aN aK aB xt : Nat) (d : Nat → Nat) (gW gN gK : Nat → Int32) (fB : Nat → Option Nat) (hz : zRows d gW gN gK) (t b : Nat) (ht : t < 2 ^ 31) (hb : b < 2 ^ 31) : mk_Met l yX9_heard cX9_heard 4 (some .int) ({ frames := 1, cells := 0, slots := 0, locals := 30 }) D (mk_TY cI cJ cB cZ cS) X Y [.ref z, .int (nI t), .int (nI b)] [(z, .inr (9, [.int (nI (d 0)), .int (nI (d 1)), .int (nI (d 4)), .int (nI (d 5)), .ref aW, .ref aN, .ref aK, .ref aB, .ref xt])), (aW, .inl (cI, (d 4), .inl gW)), (aN, .inl (cI, (d 5), .inl gN)), (aK, .inl (cI, (d 5), .inl gK)), (aB, .inl (cS, (d 4), .inr (.inr (.inr (.inr fB)))))] [(z, .inr (9, [.int (nI (d 0)), .int (nI (d 1)), .int (nI (d 4)), .int (nI (d 5)), .ref aW, .ref aN, .ref aK, .ref aB, .ref xt])), (aW, .inl (cI, (d 4), .inl gW)), (aN, .inl (cI, (d 5), .inl gN)), (aK, .inl (cI, (d 5), .inl gK)), (aB, .inl (cS, (d 4), .inr (.inr (.inr (.inr fB)))))] (some (.int (nI (hvN d t b (d 5) 0)))) 0 0 := by
  refine mk_start (own := RX9) (by decide) rfl (Nat.le_of_ble_eq_true rfl) ?_
  intro sz p e s m args below meth c A C hr hlk hnm
  replace C : mk_Cx p s m args c cX9_heard 4 RX9 D (mk_TY cI cJ cB cZ cS) X Y A := C
  refine mk_iconst C (v := 0) dX9_heard_0 (by decide) ?_
  refine mk_istore_n C (lv' := [(3, .int 0), (0, .ref z), (1, .int (nI t)), (2, .int (nI b))]) dX9_heard_1 (by decide) rfl ?_
  exact mk_lvsub [1, 2, 3, 0] rfl (heard_loop C hr hlk hz ht hb (d 5) 0 (by omega) rfl)
