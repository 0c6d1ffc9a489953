/-! further rows: rows of bytes, of truth values, of references; calls with an answer that is told by a property; strings that were made become the callee's surroundings -/
section MKROWS2
variable {p : Program} {l : Launch} {e : Env} {R : Room} {s : State} {m : MethodId} {args : Array Value} {below : List Frame} {meth : Method} {c : Code} {D : va_G} {A : Nat → Prop} {nL cells slots : Nat} {Q : State → Prop} {pc : Nat} {ws : va_W} {lv : mk_L} {st : List Value} {cc : ByteArray} {own : String} {tys : List (ClassId × FieldType)} {X : Nat → Nat} {Y : mk_Y}
theorem mk_dup2x1 (C : mk_Cx p s m args c cc nL own D tys X Y A) {va vb vd : Value} (hdg : decode cc pc = .ok (.dup2_x1, 1)) (hva : va.category = 1) (hvb : vb.category = 1) (hvd : vd.category = 1) (kk : mk_Go p l e R s m args below meth c D A nL cells slots Q (pc + 1) ws lv (va :: vb :: vd :: va :: vb :: st)) : mk_Go p l e R s m args below meth c D A nL cells slots Q pc ws lv (va :: vb :: vd :: st) := by
  intro H locs ls hP hD hS hl T hT X0
  obtain ⟨t, a, b⟩ := kk H locs ls hP hD hS hl T hT X0
  refine ⟨t, ?_, b⟩
  have hexec := C.1.1
  have hb := C.1.2.1
  jvm_step X0.here [X0.here.top, hexec, hb, hdg, hva, hvb, hvd]
  exact a
theorem mk_dupx1 (C : mk_Cx p s m args c cc nL own D tys X Y A) {va vb : Value} (hdg : decode cc pc = .ok (.dup_x1, 1)) (hva : va.category = 1) (hvb : vb.category = 1) (kk : mk_Go p l e R s m args below meth c D A nL cells slots Q (pc + 1) ws lv (va :: vb :: va :: st)) : mk_Go p l e R s m args below meth c D A nL cells slots Q pc ws lv (va :: vb :: st) :=
  fun H locs ls hP hD hS hl => lv_dup_x1 C.1.1 C.1.2.1 hdg hva hvb (kk H locs ls hP hD hS hl)
theorem mk_dupx2 (C : mk_Cx p s m args c cc nL own D tys X Y A) {va vb vd : Value} (hdg : decode cc pc = .ok (.dup_x2, 1)) (hva : va.category = 1) (hvb : vb.category = 1) (hvd : vd.category = 1) (kk : mk_Go p l e R s m args below meth c D A nL cells slots Q (pc + 1) ws lv (va :: vb :: vd :: va :: st)) : mk_Go p l e R s m args below meth c D A nL cells slots Q pc ws lv (va :: vb :: vd :: st) :=
  fun H locs ls hP hD hS hl => lv_dup_x2 C.1.1 C.1.2.1 hdg hva hvb hvd (kk H locs ls hP hD hS hl)
theorem mk_anull (C : mk_Cx p s m args c cc nL own D tys X Y A) (hdg : decode cc pc = .ok (.aconst_null, 1)) (kk : mk_Go p l e R s m args below meth c D A nL cells slots Q (pc + 1) ws lv (.null :: st)) : mk_Go p l e R s m args below meth c D A nL cells slots Q pc ws lv st :=
  fun H locs ls hP hD hS hl => lv_null C.1.1 C.1.2.1 hdg (kk H locs ls hP hD hS hl)
theorem mk_ifnn (C : mk_Cx p s m args c cc nL own D tys X Y A) {x : Nat} {off : Int} (tgt : Nat) (hdg : decode cc pc = .ok (.ifnonnull off, 3)) (ht : (pc : Int) + off = (tgt : Int)) (kk : mk_Go p l e R s m args below meth c D A nL cells slots Q tgt ws lv st) : mk_Go p l e R s m args below meth c D A nL cells slots Q pc ws lv (.ref x :: st) :=
  fun H locs ls hP hD hS hl => lv_ifnonnull C.1.1 C.1.2.1 hdg ht (kk H locs ls hP hD hS hl)
theorem mk_bald (C : mk_Cx p s m args c cc nL own D tys X Y A) {a : Nat} (q0 t0 : Nat) {cA : ClassId} {n : Nat} {f : Nat → Int32} (ha : ws[q0]? = some (a, .inl (cA, n, .inl f))) (ht : tys[t0]? = some (cA, .byte)) {i : Int32} (hin : vp_in i n) {j : Nat} (hj : i.toNatClampNeg = j) (hdg : decode cc pc = .ok (.baload, 1)) (kk : mk_Go p l e R s m args below meth c D A nL cells slots Q (pc + 1) ws lv (.int (f j) :: st)) : mk_Go p l e R s m args below meth c D A nL cells slots Q pc ws lv (.int i :: .ref a :: st) := by
  subst hj
  exact fun H locs ls hP hD hS hl => va_bald C.1.1 C.1.2.1 C.2.1 hP q0 t0 ha ht hin hdg (kk H locs ls hP hD hS hl)
theorem mk_zald (C : mk_Cx p s m args c cc nL own D tys X Y A) {a : Nat} (q0 t0 : Nat) {cA : ClassId} {n : Nat} {f : Nat → Int32} (ha : ws[q0]? = some (a, .inl (cA, n, .inl f))) (ht : tys[t0]? = some (cA, .boolean)) {i : Int32} (hin : vp_in i n) {j : Nat} (hj : i.toNatClampNeg = j) (hdg : decode cc pc = .ok (.baload, 1)) (kk : mk_Go p l e R s m args below meth c D A nL cells slots Q (pc + 1) ws lv (.int (f j) :: st)) : mk_Go p l e R s m args below meth c D A nL cells slots Q pc ws lv (.int i :: .ref a :: st) := by
  subst hj
  exact fun H locs ls hP hD hS hl => va_zald C.1.1 C.1.2.1 C.2.1 hP q0 t0 ha ht hin hdg (kk H locs ls hP hD hS hl)
theorem mk_aald (C : mk_Cx p s m args c cc nL own D tys X Y A) {a : Nat} (q0 t0 : Nat) {cA : ClassId} {E : String} {n : Nat} {f : Nat → Option Nat} (ha : ws[q0]? = some (a, .inl (cA, n, .inr (.inr (.inr (.inr f)))))) (ht : tys[t0]? = some (cA, .object E)) {i : Int32} (hin : vp_in i n) {j x : Nat} (hj : i.toNatClampNeg = j) (hx : f j = some x) (hdg : decode cc pc = .ok (.aaload, 1)) (kk : mk_Go p l e R s m args below meth c D A nL cells slots Q (pc + 1) ws lv (.ref x :: st)) : mk_Go p l e R s m args below meth c D A nL cells slots Q pc ws lv (.int i :: .ref a :: st) := by
  subst hj
  exact fun H locs ls hP hD hS hl => va_aldq C.1.1 C.1.2.1 C.2.1 hP q0 t0 ha ht hin hdg (by rw [hx]; exact kk H locs ls hP hD hS hl)
theorem mk_bast (C : mk_Cx p s m args c cc nL own D tys X Y A) {a : Nat} (q0 t0 : Nat) {cA : ClassId} {n : Nat} {f : Nat → Int32} (ha : ws[q0]? = some (a, .inl (cA, n, .inl f))) (ht : tys[t0]? = some (cA, .byte)) {i x v : Int32} (hin : vp_in i n) {j : Nat} (hj : i.toNatClampNeg = j) (hv : vp_nar .byte x = v) {ws' : va_W} (hw : ws.set q0 (a, .inl (cA, n, .inl (upd f j v))) = ws') (hdg : decode cc pc = .ok (.bastore, 1)) (kk : mk_Go p l e R s m args below meth c D A nL cells slots Q (pc + 1) ws' lv st) : mk_Go p l e R s m args below meth c D A nL cells slots Q pc ws lv (.int x :: .int i :: .ref a :: st) := by
  subst hj hv
  exact fun H locs ls hP hD hS hl => va_bast C.1.1 C.1.2.1 C.2.1 hP hD hS q0 t0 ha ht hin hdg (fun H1 locs1 hP1 hD1 hS1 => kk H1 locs1 ls (hw ▸ hP1) (hw ▸ hD1) hS1 hl)
theorem mk_zast (C : mk_Cx p s m args c cc nL own D tys X Y A) {a : Nat} (q0 t0 : Nat) {cA : ClassId} {n : Nat} {f : Nat → Int32} (ha : ws[q0]? = some (a, .inl (cA, n, .inl f))) (ht : tys[t0]? = some (cA, .boolean)) {i x v : Int32} (hin : vp_in i n) {j : Nat} (hj : i.toNatClampNeg = j) (hv : vp_nar .boolean x = v) {ws' : va_W} (hw : ws.set q0 (a, .inl (cA, n, .inl (upd f j v))) = ws') (hdg : decode cc pc = .ok (.bastore, 1)) (kk : mk_Go p l e R s m args below meth c D A nL cells slots Q (pc + 1) ws' lv st) : mk_Go p l e R s m args below meth c D A nL cells slots Q pc ws lv (.int x :: .int i :: .ref a :: st) := by
  subst hj hv
  exact fun H locs ls hP hD hS hl => va_zast C.1.1 C.1.2.1 C.2.1 hP hD hS q0 t0 ha ht hin hdg (fun H1 locs1 hP1 hD1 hS1 => kk H1 locs1 ls (hw ▸ hP1) (hw ▸ hD1) hS1 hl)
/-- a string of the world, or one of the surroundings, into a row of strings -/
theorem mk_aast (C : mk_Cx p s m args c cc nL own D tys X Y A) {a : Nat} (q0 t0 : Nat) {cA : ClassId} {n x : Nat} {f : Nat → Option Nat} (ha : ws[q0]? = some (a, .inl (cA, n, .inr (.inr (.inr (.inr f)))))) (ht : tys[t0]? = some (cA, .object "java/lang/String")) (hx : (∃ k, x = X k) ∨ ∃ (q1 : Nat) (fs : List Value), ws[q1]? = some (x, .inr (10, fs))) {i : Int32} (hin : vp_in i n) {j : Nat} (hj : i.toNatClampNeg = j) {ws' : va_W} (hw : ws.set q0 (a, .inl (cA, n, .inr (.inr (.inr (.inr (va_up f j (some x))))))) = ws') (hdg : decode cc pc = .ok (.aastore, 1)) (kk : mk_Go p l e R s m args below meth c D A nL cells slots Q (pc + 1) ws' lv st) : mk_Go p l e R s m args below meth c D A nL cells slots Q pc ws lv (.ref x :: .int i :: .ref a :: st) := by
  subst hj
  intro H locs ls hP hD hS hl
  refine vb_astq (C := "java/lang/String") C.1.1 C.1.2.1 C.2.1 hP hD hS q0 t0 ha ht ?_ (fun comp c0 h1 h2 => vb_asgS comp c0 h1 h2) hin hdg (fun H1 locs1 hP1 hD1 hS1 => kk H1 locs1 ls (hw ▸ hP1) (hw ▸ hD1) hS1 hl)
  rcases hx with ⟨k, rfl⟩ | ⟨q1, fs, hq⟩
  · exact mk_S.recv C.2.2.1.2.1 hS
  · exact va_recv C.2.1 hP (q := (RJ0, TJ0, 4)) rfl hq
/-- a nest mate's field -/
theorem mk_getN (C : mk_Cx p s m args c cc nL RL D tys X Y A) {a : Nat} {index : Nat} (q0 : Nat) {fs : List Value} (he : ws[q0]? = some (a, .inr (9, fs))) (k : Nat) (hk : k < 9) (hlink : (index, (TX9 k).2.1, (TX9 k).2.2.1) ∈ mk_nestF) {v : Value} (hv : fs[k]? = some v) (hdg : decode cc pc = .ok (.getfield index, 3)) (kk : mk_Go p l e R s m args below meth c D A nL cells slots Q (pc + 3) ws lv (v :: st)) : mk_Go p l e R s m args below meth c D A nL cells slots Q pc ws lv (.ref a :: st) :=
  fun H locs ls hP hD hS hl => va_getN (ref := RX9) (host := RL) C.1.1 C.1.2.1 C.1.2.2.2.2 mk_inX9 C.1.2.2.2.1 C.2.1 hP q0 he (C := RX9) (T := TX9) (N := 9) rfl k hk (va_Nw.use rfl (C.2.2.1.1.2.2.1 _ hlink)) (fun z h9 => by
    have e : (TX9 k).1 = RX9 := by
      rcases (show k = 0 ∨ k = 1 ∨ k = 2 ∨ k = 3 ∨ k = 4 ∨ k = 5 ∨ k = 6 ∨ k = 7 ∨ k = 8 by omega) with rfl | rfl | rfl | rfl | rfl | rfl | rfl | rfl | rfl <;> rfl
    rw [← e]; exact h9) hv hdg (kk H locs ls hP hD hS hl)
/-- an element of the script -/
theorem mk_sld (C : mk_Cx p s m args c cc nL own D tys X Y A) {i : Int32} (hin : vp_in i Y.2.2.1) {j : Nat} (hj : i.toNatClampNeg = j) (hdg : decode cc pc = .ok (.iaload, 1)) (kk : mk_Go p l e R s m args below meth c D A nL cells slots Q (pc + 1) ws lv (.int (Y.2.2.2 j) :: st)) : mk_Go p l e R s m args below meth c D A nL cells slots Q pc ws lv (.int i :: .ref Y.2.1 :: st) := by
  subst hj
  exact fun H locs ls hP hD hS hl => va_sld C.1.1 C.1.2.1 C.2.2.1.2.2.2.1.1 C.2.2.1.2.2.2.1.2.1 C.2.2.1.2.2.2.1.2.2 hS hin hdg (kk H locs ls hP hD hS hl)
theorem mk_slen (C : mk_Cx p s m args c cc nL own D tys X Y A) (hdg : decode cc pc = .ok (.arraylength, 1)) (kk : mk_Go p l e R s m args below meth c D A nL cells slots Q (pc + 1) ws lv (.int (nI Y.2.2.1) :: st)) : mk_Go p l e R s m args below meth c D A nL cells slots Q pc ws lv (.ref Y.2.1 :: st) :=
  fun H locs ls hP hD hS hl => va_slen C.1.1 C.1.2.1 C.2.2.1.2.2.2.1.1 C.2.2.1.2.2.2.1.2.1 C.2.2.1.2.2.2.1.2.2 hS hdg (kk H locs ls hP hD hS hl)
/-! rows made, by their class -/
theorem mk_newG {cA : ClassId} {ty : FieldType} {at_ : ArrayType} (C : mk_Cx p s m args c cc nL own D tys X Y A) (t0 : Nat) (ht : tys[t0]? = some (cA, ty)) (hty : newarray.typeOf at_ = ty) (hA : Cond.arrayClass ty ∈ mk_WL) (hd : defaultValue ty = .int 0) (hnm : ∀ cB : ClassId, va_RA s cB ty → s.vm.findClass ("[" ++ ty.toString) = some cB) {n : Int32} {N : Nat} (hn : ¬ n < 0) (hN : n.toNatClampNeg = N) (hbytes : N * componentBytes ty ≤ 536870912) (hroom : cells + 1 ≤ R.cells ∧ slots + N ≤ R.slots) (hdg : decode cc pc = .ok (.newarray at_, 2)) (kk : ∀ q : Nat, mk_Go p l e R s m args below meth c D A nL (cells + 1) (slots + N) Q (pc + 2) (ws ++ [(q, .inl (cA, N, .inl (fun _ => 0)))]) lv (.ref q :: st)) : mk_Go p l e R s m args below meth c D A nL cells slots Q pc ws lv (.int n :: st) := by
  intro H locs ls hP hD hS hl
  refine va_newa (atype := at_) (ty := ty) C.1.1 C.1.2.1 (by rw [hty]; exact C.1.2.2.2.2 _ hA) hty C.2.1 hP hD hS C.2.2.2 (a0 := (N, .inl (fun _ => 0))) (fun cB => by rw [hd]; rfl) hn hN hbytes hroom.1 hroom.2 hdg (fun q cB H1 hK1 hP1 hD1 hS1 => ?_)
  have e1 := hnm _ (hK1.2 tys.length (cB, ty) (by simp)).2
  have e2 := hnm _ (C.2.1.2 t0 _ ht).2
  have e : cB = cA := Option.some.inj (e1.symm.trans e2)
  subst e
  exact kk q H1 locs ls hP1 hD1 hS1 hl
theorem mk_newB {cI cJ cB cZ cS : ClassId} (C : mk_Cx p s m args c cc nL own D (mk_TY cI cJ cB cZ cS) X Y A) (hA : Cond.arrayClass .byte ∈ mk_WL) {n : Int32} {N : Nat} (hn : ¬ n < 0) (hN : n.toNatClampNeg = N) (hbytes : N ≤ 536870912) (hroom : cells + 1 ≤ R.cells ∧ slots + N ≤ R.slots) (hdg : decode cc pc = .ok (.newarray .byte, 2)) (kk : ∀ q : Nat, mk_Go p l e R s m args below meth c D A nL (cells + 1) (slots + N) Q (pc + 2) (ws ++ [(q, .inl (cB, N, .inl (fun _ => 0)))]) lv (.ref q :: st)) : mk_Go p l e R s m args below meth c D A nL cells slots Q pc ws lv (.int n :: st) :=
  mk_newG C 2 rfl rfl hA rfl (fun _ h => h) hn hN (by show N * 1 ≤ _; omega) hroom hdg kk
theorem mk_newZ {cI cJ cB cZ cS : ClassId} (C : mk_Cx p s m args c cc nL own D (mk_TY cI cJ cB cZ cS) X Y A) (hA : Cond.arrayClass .boolean ∈ mk_WL) {n : Int32} {N : Nat} (hn : ¬ n < 0) (hN : n.toNatClampNeg = N) (hbytes : N ≤ 536870912) (hroom : cells + 1 ≤ R.cells ∧ slots + N ≤ R.slots) (hdg : decode cc pc = .ok (.newarray .boolean, 2)) (kk : ∀ q : Nat, mk_Go p l e R s m args below meth c D A nL (cells + 1) (slots + N) Q (pc + 2) (ws ++ [(q, .inl (cZ, N, .inl (fun _ => 0)))]) lv (.ref q :: st)) : mk_Go p l e R s m args below meth c D A nL cells slots Q pc ws lv (.int n :: st) :=
  mk_newG C 3 rfl rfl hA rfl (fun _ h => h) hn hN (by show N * 1 ≤ _; omega) hroom hdg kk
theorem mk_newS {cI cJ cB cZ cS : ClassId} (C : mk_Cx p s m args c cc nL own D (mk_TY cI cJ cB cZ cS) X Y A) {index : Nat} (hcl : Cond.classLink own index "java/lang/String" ∈ mk_WL) {n : Int32} {N : Nat} (hn : ¬ n < 0) (hN : n.toNatClampNeg = N) (hbytes : N * 4 ≤ 536870912) (hroom : cells + 1 ≤ R.cells ∧ slots + N ≤ R.slots) (hdg : decode cc pc = .ok (.anewarray index, 3)) (kk : ∀ q : Nat, mk_Go p l e R s m args below meth c D A nL (cells + 1) (slots + N) Q (pc + 3) (ws ++ [(q, .inl (cS, N, .inr (.inr (.inr (.inr (fun _ => none))))))]) lv (.ref q :: st)) : mk_Go p l e R s m args below meth c D A nL cells slots Q pc ws lv (.int n :: st) := by
  intro H locs ls hP hD hS hl
  refine va_newq C.1.1 C.1.2.1 C.1.2.2.2.1 (C.1.2.2.2.2 _ hcl) C.2.2.1.1.2.2.2.2.1 C.2.1 hP hD hS C.2.2.2 hn hN hbytes hroom.1 hroom.2 hdg (fun q cA H1 hK1 hP1 hD1 hS1 => ?_)
  obtain ⟨-, -, -, -, -, e1⟩ := (hK1.2 (mk_TY cI cJ cB cZ cS).length (cA, .object "java/lang/String") (by simp)).2
  obtain ⟨-, -, -, -, -, e2⟩ := (C.2.1.2 4 (cS, .object "java/lang/String") rfl).2
  have e : cA = cS := Option.some.inj (e1.symm.trans e2)
  subst e
  exact kk q H1 locs ls hP1 hD1 hS1 hl
/-! System.arraycopy of bytes -/
theorem mk_copyB (C : mk_Cx p s m args c cc nL own D tys X Y A) {index : Nat} (h1 : Cond.methodLink own index arraycopyName ∈ mk_WL) (h2 : Cond.native arraycopyName ∈ mk_WL) (h3 : Cond.static arraycopyName ∈ mk_WL) (h4 : Cond.initialized "java/lang/System" ∈ mk_WL) (q0 q1 t0 : Nat) {a0 a1 : Nat} {cA : ClassId} {n0 n1 : Nat} {f g : Nat → Int32} (ha0 : ws[q0]? = some (a0, .inl (cA, n0, .inl f))) (ha1 : ws[q1]? = some (a1, .inl (cA, n1, .inl g))) (ht : tys[t0]? = some (cA, .byte)) {sp dp n : Nat} (hs : sp + n ≤ n0) (hd : dp + n ≤ n1) (h0 : n0 < 2 ^ 30) (h9 : n1 < 2 ^ 30) (hfit : sb_Fit f) (hR : 1 ≤ R.frames ∧ (st.map fun v => v.category).sum + 60 ≤ R.locals) {ws' : va_W} (hw : ws.set q1 (a1, .inl (cA, n1, .inl (va_cpy f g sp dp n))) = ws') (hdg : decode cc pc = .ok (.invokestatic index, 3)) (kk : mk_Go p l e R s m args below meth c D A nL cells slots Q (pc + 3) ws' lv st) : mk_Go p l e R s m args below meth c D A nL cells slots Q pc ws lv (.int (nI n) :: .int (nI dp) :: .ref a1 :: .int (nI sp) :: .ref a0 :: st) := by
  intro H locs ls hP hD hS hl
  have e1 : (nI sp).toNatClampNeg = sp := nI_clamp (by omega)
  have e2 : (nI dp).toNatClampNeg = dp := nI_clamp (by omega)
  have e3 : (nI n).toNatClampNeg = n := nI_clamp (by omega)
  refine va_copyi C.1.1 C.1.2.1 (C.1.2.2.1.trans hl.1.symm) C.1.2.2.2.1 (C.1.2.2.2.2 _ h1) (C.1.2.2.2.2 _ h2) (C.1.2.2.2.2 _ h3) (C.1.2.2.2.2 _ h4) C.2.1 hP hD hS q0 q1 t0 t0 ha0 ha1 ht ht rfl (nI_pos (by omega)) (nI_pos (by omega)) (nI_pos (by omega)) (by rw [e1, e3]; exact hs) (by rw [e2, e3]; exact hd) (fun i _ => hfit _) hR.1 (Nat.le_trans (Nat.add_le_add_left (by decide) _) hR.2) hdg (fun H1 locs1 hP1 hD1 hS1 => ?_)
  rw [e1, e2, e3, hw] at hP1 hD1
  exact kk H1 locs1 ls hP1 hD1 hS1 hl
theorem mk_copyE (C : mk_Cx p s m args c cc nL own D tys X Y A) {index : Nat} (h1 : Cond.methodLink own index arraycopyName ∈ mk_WL) (h2 : Cond.native arraycopyName ∈ mk_WL) (h3 : Cond.static arraycopyName ∈ mk_WL) (h4 : Cond.initialized "java/lang/System" ∈ mk_WL) {b0 n0 : Nat} {f : Nat → Int32} (hX : va_T .byte b0 n0 (fun j => .int (f j)) A s s.heap) (q1 t0 : Nat) {a1 : Nat} {cA : ClassId} {n1 : Nat} {g : Nat → Int32} (ha1 : ws[q1]? = some (a1, .inl (cA, n1, .inl g))) (ht : tys[t0]? = some (cA, .byte)) {sp dp n : Nat} (hs : sp + n ≤ n0) (hd : dp + n ≤ n1) (h0 : n0 < 2 ^ 30) (h9 : n1 < 2 ^ 30) (hfit : ∀ i, i < n0 → fits .byte (.int (f i)) = true) (hR : 1 ≤ R.frames ∧ (st.map fun v => v.category).sum + 60 ≤ R.locals) {ws' : va_W} (hw : ws.set q1 (a1, .inl (cA, n1, .inl (va_cpy f g sp dp n))) = ws') (hdg : decode cc pc = .ok (.invokestatic index, 3)) (kk : mk_Go p l e R s m args below meth c D A nL cells slots Q (pc + 3) ws' lv st) : mk_Go p l e R s m args below meth c D A nL cells slots Q pc ws lv (.int (nI n) :: .int (nI dp) :: .ref a1 :: .int (nI sp) :: .ref b0 :: st) := by
  intro H locs ls hP hD hS hl
  have e1 : (nI sp).toNatClampNeg = sp := nI_clamp (by omega)
  have e2 : (nI dp).toNatClampNeg = dp := nI_clamp (by omega)
  have e3 : (nI n).toNatClampNeg = n := nI_clamp (by omega)
  refine vk_copyt C.1.1 C.1.2.1 (C.1.2.2.1.trans hl.1.symm) C.1.2.2.2.1 (C.1.2.2.2.2 _ h1) (C.1.2.2.2.2 _ h2) (C.1.2.2.2.2 _ h3) (C.1.2.2.2.2 _ h4) C.2.1 hP hD hS hX q1 t0 ha1 ht (nI_pos (by omega)) (nI_pos (by omega)) (nI_pos (by omega)) (by rw [e1, e3]; exact hs) (by rw [e2, e3]; exact hd) (fun i hi => hfit _ (by rw [e3] at hi; rw [e1]; omega)) hR.1 (Nat.le_trans (Nat.add_le_add_left (by decide) _) hR.2) hdg (fun H1 locs1 hP1 hD1 hS1 => ?_)
  rw [e1, e2, e3, hw] at hP1 hD1
  exact kk H1 locs1 ls hP1 hD1 hS1 hl
/-- a row's clone, and the cast behind it -/
theorem mk_clone (C : mk_Cx p s m args c cc nL own D tys X Y A) {index : Nat} (h1 : Cond.methodLink own index ⟨"[B", "clone", "()Ljava/lang/Object;"⟩ ∈ mk_WL) (h2 : Cond.sameMethod "[B" "java/lang/Object" "clone" "()Ljava/lang/Object;" ∈ mk_WL) (h3 : Cond.native ⟨"java/lang/Object", "clone", "()Ljava/lang/Object;"⟩ ∈ mk_WL) (h4 : Cond.instanceMethod ⟨"java/lang/Object", "clone", "()Ljava/lang/Object;"⟩ ∈ mk_WL) (h5 : Cond.selects "[B" ⟨"[B", "clone", "()Ljava/lang/Object;"⟩ ⟨"java/lang/Object", "clone", "()Ljava/lang/Object;"⟩ ∈ mk_WL) (q0 t0 : Nat) {a : Nat} {cA : ClassId} {n : Nat} {f : Nat → Int32} (ha : ws[q0]? = some (a, .inl (cA, n, .inl f))) (ht : tys[t0]? = some (cA, .byte)) (hfit : sb_Fit f) (hR : 1 ≤ R.frames ∧ (st.map fun v => v.category).sum + 14 ≤ R.locals) (hroom : cells + 1 ≤ R.cells ∧ slots + n ≤ R.slots) (hdg : decode cc pc = .ok (.invokevirtual index, 3)) (kk : ∀ q : Nat, mk_Go p l e R s m args below meth c D A nL (cells + 1) (slots + n) Q (pc + 3) (ws ++ [(q, .inl (cA, n, .inl f))]) lv (.ref q :: st)) : mk_Go p l e R s m args below meth c D A nL cells slots Q pc ws lv (.ref a :: st) :=
  fun H locs ls hP hD hS hl => va_clone C.1.1 C.1.2.1 (C.1.2.2.1.trans hl.1.symm) C.1.2.2.2.1 (C.1.2.2.2.2 _ h1) (C.1.2.2.2.2 _ h2) (C.1.2.2.2.2 _ h3) (C.1.2.2.2.2 _ h4) (C.1.2.2.2.2 _ h5) C.2.2.1.1.2.2.2.2.2 C.2.1 hP hD hS C.2.2.2 q0 t0 ha ht (C.2.1.2 t0 _ ht).2 (va_fit (fun i _ => hfit i)) hR.1 hR.2 hroom.1 hroom.2 hdg (fun q H1 hK1 hP1 hD1 hS1 => kk q H1 locs ls hP1 hD1 hS1 hl)
theorem mk_castA (C : mk_Cx p s m args c cc nL own D tys X Y A) {index : Nat} (h1 : Cond.classLink own index "[B" ∈ mk_WL) (q0 t0 : Nat) {a : Nat} {cA : ClassId} {x : vp_A} (ha : ws[q0]? = some (a, .inl (cA, x))) (ht : tys[t0]? = some (cA, .byte)) (hdg : decode cc pc = .ok (.checkcast index, 3)) (kk : mk_Go p l e R s m args below meth c D A nL cells slots Q (pc + 3) ws lv (.ref a :: st)) : mk_Go p l e R s m args below meth c D A nL cells slots Q pc ws lv (.ref a :: st) :=
  fun H locs ls hP hD hS hl => va_castA C.1.1 C.1.2.1 C.1.2.2.2.1 (C.1.2.2.2.2 _ h1) hP q0 ha (C.2.1.2 t0 _ ht).2 hdg (kk H locs ls hP hD hS hl)
/-- a permutation of a written list, by places -/
theorem mk_px {ws ws' : va_W} (n : Nat) (is : List Nat) (hn : ws.length = n) (h : is.Perm (List.range n)) (h' : is.filterMap (fun i => ws[i]?) = ws') : ws.Perm ws' := by
  subst hn
  subst h'
  have e : (List.range ws.length).filterMap (fun i => ws[i]?) = ws := by
    have h1 : (List.range ws.length).map (fun i => ws[i]?) = ws.map some := by
      apply List.ext_getElem
      · simp
      · intro i h1 h2
        simp at h1 h2 ⊢
    have h2 : (List.range ws.length).filterMap (fun i => ws[i]?) = ((List.range ws.length).map (fun i => ws[i]?)).filterMap id := by
      rw [List.filterMap_map]; rfl
    rw [h2, h1, List.filterMap_map]
    simp
  have h3 := (h.symm.filterMap (fun i => ws[i]?))
  rw [e] at h3
  exact h3
theorem mk_pT {E E1 wc W : va_W} (h : E.Perm (E1 ++ wc)) : (E ++ W).Perm ((E1 ++ W) ++ wc) := by
  refine (h.append_right W).trans ?_
  rw [List.append_assoc, List.append_assoc]
  exact List.Perm.append_left E1 List.perm_append_comm
theorem mk_pB {E1 wf W : va_W} : ((E1 ++ W) ++ wf).Perm ((E1 ++ wf) ++ W) := by
  rw [List.append_assoc, List.append_assoc]
  exact List.Perm.append_left E1 List.perm_append_comm
end MKROWS2
