/-! contracts whose answer is told by a property; strings of the world as the callee's surroundings -/
def mk_QG {S : Type} (P : S → Prop) (res : S → Option Value) (D : va_G) (wf : S → va_W) (A : Nat → Prop) : Array Value → State → Outcome → State → Prop := fun _ st oc t => (∃ u : S, P u ∧ oc = .returned (res u) ∧ va_P D vwCl (wf u) t.heap ∧ va_D A (wf u)) ∧ va_F A st t
def mk_MetG {S : Type} (l : Launch) (y : MethodName) (cc : ByteArray) (nL : Nat) (ret : Option FieldType) (rm : Room) (D : va_G) (tys : List (ClassId × FieldType)) (X : Nat → Nat) (Y : mk_Y) (av : List Value) (ws0 : va_W) (P : S → Prop) (res : S → Option Value) (wf : S → va_W) (mc ms : Nat) : Prop :=
  ∀ sz : Nat, Met l y (mk_ws y cc nL ret) rm (mk_Pc av D tys X Y ws0 sz) (mk_QG P res D wf (va_A ws0 sz)) mc ms (va_A ws0 sz)
theorem mk_startG {S : Type} {P : S → Prop} {rs : S → Option Value} {wf : S → va_W} {l : Launch} {y : MethodName} {cc : ByteArray} {nL : Nat} {ret : Option FieldType} {rm : Room} {D : va_G} {tys : List (ClassId × FieldType)} {X : Nat → Nat} {Y : mk_Y} {av : List Value} {ws0 : va_W} {mc ms : Nat} {own : String}
    (hy : plainName y.cls = true) (ho : y.cls = own) (hav : (lg_sl av).length ≤ nL)
    (body : ∀ (sz : Nat) (p : Program) (e : Env) (s : State) (m : MethodId) (args : Array Value) (below : List Frame) (meth : Method) (c : Code) (A : Nat → Prop), mk_Cx p s m args c cc nL own D tys X Y A → meth.sig.returnType = ret → meth.locks = false → meth.name = y.name →
      mk_Go p l e (headSpec (mk_ws y cc nL ret) rm).room s m args below meth c D A nL 0 0 (MQ below (mk_QG P rs D wf A) args s mc ms A) 0 ws0 (lv_args 0 av) []) :
    mk_MetG l y cc nL ret rm D tys X Y av ws0 P rs wf mc ms := by
  intro sz
  refine Met.ofW (cc := cc) (maxL := nL) (ret := ret) hy rfl ?_
  intro p e s m args below meth c s₁ B hml hv
  obtain ⟨rfl, hsz, hP, hK, hD0, hE⟩ := hv
  have hown : s.vm.findClass own = some m.cls := by rw [← ho]; exact findClass_of_methodNamed B.named
  subst hsz
  have hD := hD0.self (sz := s.heap.size)
  have hA : ∀ q : Nat, s.heap.size ≤ q → va_A ws0 s.heap.size q := fun q h => Or.inr h
  have hl := lv_entry av (n := nL) hav
  rw [lg_entry_eq]
  exact body s.heap.size p e s m _ below meth c _ ⟨⟨B.exec, B.bytes, hml, hown, fun w hw => atoms_spec (ws := mk_ws y cc nL ret) B.pre w (List.mem_cons_of_mem _ hw)⟩, hK, hE, hA⟩ B.returns B.notSynchronized (name_of_methodNamed B.named B.method).1 s.heap [] _ hP hD va_S.rf hl
/-- what is told of the strings without a state -/
theorem mk_pureG {S : Type} {P : S → Prop} {rs : S → Option Value} {wf : S → va_W} {l : Launch} {y : MethodName} {cc : ByteArray} {nL : Nat} {ret : Option FieldType} {rm : Room} {D : va_G} {tys : List (ClassId × FieldType)} {X : Nat → Nat} {Y : mk_Y} {av : List Value} {ws0 : va_W} {mc ms : Nat} (h : mk_Pu Y → mk_MetG l y cc nL ret rm D tys X Y av ws0 P rs wf mc ms) : mk_MetG l y cc nL ret rm D tys X Y av ws0 P rs wf mc ms := by
  by_cases hY : mk_Pu Y
  · exact h hY
  · intro sz
    unfold Met MetFree
    intro p e ha hc hk s m args below hf happ hP
    exact absurd hP.2.2.2.2.2.2.2.1 hY
def mk_Xt (X X' : Nat → Nat) (Y Y' : mk_Y) (cB : ClassId) (wr : va_W) : Prop := Y'.2 = Y.2 ∧ (∀ k, k < 23 → X' k = X k ∧ Y'.1 k = Y.1 k) ∧ ∀ k, (∃ j, X' k = X j ∧ Y'.1 k = Y.1 j) ∨ (mk_Sp (Y'.1 k) ∧ (X' k, Sum.inr (10, [Value.ref (Y'.1 k).1, .int 0, .int 0, .int 0])) ∈ wr ∧ ∃ f : Nat → Int32, ((Y'.1 k).1, Sum.inl (cB, (Y'.1 k).2.1, .inl f)) ∈ wr ∧ ∀ j, j < (Y'.1 k).2.1 → f j = nI ((Y'.1 k).2.2 j))
theorem mk_Xt.rf {X : Nat → Nat} {Y : mk_Y} {cB : ClassId} {wr : va_W} : mk_Xt X X Y Y cB wr := ⟨rfl, fun _ _ => ⟨rfl, rfl⟩, fun k => Or.inl ⟨k, rfl, rfl⟩⟩
section MKG
variable {p : Program} {l : Launch} {e : Env} {R : Room} {s : State} {m : MethodId} {args : Array Value} {below : List Frame} {meth : Method} {c : Code} {D : va_G} {A : Nat → Prop} {nL cells slots : Nat} {Q : State → Prop} {pc : Nat} {ws : va_W} {lv : mk_L} {st : List Value} {cc : ByteArray} {own : String} {cI cJ cB cZ cS : ClassId} {X X' : Nat → Nat} {Y Y' : mk_Y}
theorem mk_S1_of (C : mk_Cx p s m args c cc nL own D (mk_TY cI cJ cB cZ cS) X Y A) {wr : va_W} {H : Heap} (hP : va_P D vwCl wr H) {x : Nat} {y : mk_Sd} {f : Nat → Int32} (h1 : (x, Sum.inr (10, [Value.ref y.1, .int 0, .int 0, .int 0])) ∈ wr) (h2 : (y.1, Sum.inl (cB, y.2.1, .inl f)) ∈ wr) (hf : ∀ j, j < y.2.1 → f j = nI (y.2.2 j)) {B : Nat → Prop} (hx : ¬ B x) (hy : ¬ B y.1) : mk_S1 x y B s H := by
  obtain ⟨k1, e1⟩ := List.getElem?_of_mem h1
  obtain ⟨k2, e2⟩ := List.getElem?_of_mem h2
  have hrc := va_recv C.2.1 hP (q := (RJ0, TJ0, 4)) rfl e1
  obtain ⟨cell0, g1, g2, g3⟩ := hrc
  obtain ⟨r, hr0, cell, q1, q2, q3, q4⟩ := hP k1 _ e1
  have hr : r = (RJ0, TJ0, 4) := Option.some.inj (hr0.symm.trans rfl)
  subst hr
  obtain ⟨hS, hfc, kC, hkC, hkind⟩ := C.2.1.1 10 (RJ0, TJ0, 4) rfl
  obtain ⟨cf0, kf0, fi0, f0, hi0, hsl0⟩ := hS 0 (by decide)
  obtain ⟨cf1, kf1, fi1, f1, hi1, hsl1⟩ := hS 1 (by decide)
  refine ⟨⟨cell0, g1, g2, g3, hx⟩, ?_, ?_, ?_⟩
  · refine ⟨cf1, kf1, fi1, f1, cell, hi1, (u_facts hfc hkC (u_lays C.1.2.2.2.2 mk_inJ0 (by decide)) hi1).1, q1, (by rw [q3]; exact fun h => by cases h), ?_, hx⟩
    rw [hsl1, q4 1 (by decide)]
    rfl
  · refine ⟨cf0, kf0, fi0, f0, cell, hi0, (u_facts hfc hkC (u_lays C.1.2.2.2.2 mk_inJ0 (by decide)) hi0).1, q1, (by rw [q3]; exact fun h => by cases h), ?_, hx⟩
    rw [hsl0, q4 0 (by decide)]
    rfl
  · have hH : H[y.1]? = some (arrV cB y.2.1 (fun j => .int (f j))) := hP k2 _ e2
    refine ⟨_, hH, (C.2.1.2 2 (cB, .byte) rfl).1 _ _, (fun h => by cases h), ?_, ?_, fun j hj => ?_, hy⟩
    · rw [arrV_size]; exact Nat.le_refl _
    · rw [arrV_size]
    · rw [arrV_read _ _ hj, hf j hj]
theorem mk_preX {wr wc : va_W} {av : List Value} {H : Heap} {locs : List Loc} (C : mk_Cx p s m args c cc nL own D (mk_TY cI cJ cB cZ cS) X Y A) (hF : ws.Perm (wr ++ wc)) (hX : mk_Xt X X' Y Y' cB wr) (hP : va_P D vwCl ws H) (hD : va_D A ws) (hS : va_S A s.heap H locs) : PreS s H (mk_Pc av D (mk_TY cI cJ cB cZ cS) X' Y' wc H.size) av := by
  have hF0 : mk_Fr ws wc wc ws := ⟨wr, hF, hF⟩
  have base : mk_Amb X Y (va_A wc H.size) s H := (C.2.2.1.kept (fun a h1 h2 => hS.2.1 a h1 h2)).narrow (hF0.free hD hS C.2.2.2)
  have hPr : va_P D vwCl (wr ++ wc) H := mk_P.perm hP hF
  have hDr : va_D A (wr ++ wc) := mk_D.perm hD hF
  have hPw : va_P D vwCl wr H := mk_P.mpr (fun q hq => mk_P.mp hPr q (List.mem_append_left _ hq))
  have out : ∀ q ∈ wr, ¬ va_A wc H.size q.1 := by
    intro q hq hA
    have hl := (mk_P.mp hPw q hq).lt
    rcases mk_A.mp hA with ⟨x, hx, e⟩ | h
    · have hn := (mk_D.mp hDr).1
      rw [List.map_append, List.nodup_append] at hn
      exact hn.2.2 q.1 (List.mem_map.mpr ⟨q, hq, rfl⟩) x.1 (List.mem_map.mpr ⟨x, hx, rfl⟩) e.symm
    · omega
  have amb : mk_Amb X' Y' (va_A wc H.size) s H := by
    refine ⟨⟨base.1.1, base.1.2.1, base.1.2.2.1, fun w hw => ?_, base.1.2.2.2.2⟩, fun k => ?_, ⟨fun k => ?_, fun k hk => ?_⟩, ?_, base.2.2.2.2⟩
    · have h23 : w.2.2 < 23 := by
        have : ∀ w ∈ mk_lits, w.2.2 < 23 := by decide
        exact this w hw
      rw [(hX.2.1 _ h23).1]
      exact base.1.2.2.2.1 w hw
    · rcases hX.2.2 k with ⟨j, ex, ey⟩ | ⟨hp, hx, f, hy, hf⟩
      · rw [ex, ey]; exact base.2.1 j
      · exact mk_S1_of C hPw hx hy hf (out _ hx) (out _ hy)
    · rcases hX.2.2 k with ⟨j, ex, ey⟩ | ⟨hp, -⟩
      · rw [ey]; exact base.2.2.1.1 j
      · exact hp
    · rw [(hX.2.1 k hk).2]; exact base.2.2.1.2 k hk
    · rw [hX.1]; exact base.2.2.2.1
  refine ⟨mk_Pc.blind, fun U hU hW => ⟨rfl, by rw [hU], by rw [hU]; exact hF0.P hP, va_K.moved hW.alike C.2.1, (hF0.D hD).weaken (fun _ _ _ _ => trivial), ?_⟩⟩
  rw [hU]
  exact amb.warm hW
theorem mk_backG {S : Type} {P : S → Prop} {rs : S → Option Value} {wf : S → va_W} {ls : Array Slot} {H : Heap} {locs : List Loc} {st0 : List Value} {mc ms : Nat} {a : Array Value} {wr wc : va_W} {tys : List (ClassId × FieldType)} (C : mk_Cx p s m args c cc nL own D tys X Y A) (hF : ws.Perm (wr ++ wc)) (hP : va_P D vwCl ws H) (hD : va_D A ws) (hS : va_S A s.heap H locs) (hl : lv_has ls nL lv)
    (hr : va_Run p l e R s m args below meth c H locs cells slots mc ms (F0 m pc ls st0) st (mk_QG P rs D wf (va_A wc H.size) a) (va_A wc H.size))
    (kk : ∀ u : S, P u → mk_Go p l e R s m args below meth c D A nL (cells + mc) (slots + ms) Q (pc + 3) (wr ++ wf u) lv ((rs u).toList ++ st)) : W p l e R s m args below meth c H locs cells slots Q (F0 m pc ls st0) := by
  have hF0 : mk_Fr ws wc wc ws := ⟨wr, hF, hF⟩
  have hFc := hF0.free hD hS C.2.2.2
  intro T hT X0
  obtain ⟨v, st₀, t, T', L, h0', X', hL, e1, e2, ⟨⟨u, hu, hv, hp, hd'⟩, hz, hk⟩, stp⟩ := hr T hT X0
  cases hv
  rw [h0'] at hz hk
  obtain ⟨hP', hD'⟩ := mk_join (ws' := wr ++ wf u) ⟨wr, hF, List.Perm.refl _⟩ hP hD hFc hk hp hd'
  obtain ⟨t2, a1, b1⟩ := kk u hu t.heap (locs ++ L) ls hP' hD'
    ⟨Nat.le_trans hS.1 hz, fun q h1 h2 => by rw [hk q (Nat.lt_of_lt_of_le h1 hS.1) (fun z => h2 (hFc q z))]; exact hS.2.1 q h1 h2, fun q hq => by
      rcases List.mem_append.mp hq with h | h
      · exact hS.2.2 q h
      · exact hFc _ (hL q h)⟩ hl T' e1 X'
  exact ⟨t2, stp t2 a1, b1⟩
/-- a method that asks no receiver's class: static -/
theorem mk_callSG {S : Type} {P : S → Prop} {rs : S → Option Value} {wf : S → va_W} (C : mk_Cx p s m args c cc nL own D (mk_TY cI cJ cB cZ cS) X Y A) {y : MethodName} {cy : ByteArray} {nY index n : Nat} {ret : Option FieldType} {rm : Room} {As stk : List Value} {wr wc : va_W} {mc ms : Nat}
    (hM : mk_MetG l y cy nY ret rm D (mk_TY cI cJ cB cZ cS) X' Y' As wc P rs wf mc ms) (h1 : Cond.methodLink own index y ∈ mk_WL) (h2 : Cond.static y ∈ mk_WL) (h4 : Cond.initialized y.cls ∈ mk_WL) (h5 : Cond.code y cy nY ret ∈ mk_WL) (hn : mk_nm y n) (hAs : As.length = n)
    (hR : rm.frames + 1 ≤ R.frames ∧ 8 + (nY + 11) + rm.locals ≤ R.locals) (hrm : rm.cells = mc ∧ rm.slots = ms) (hroom : cells + mc ≤ R.cells ∧ slots + ms ≤ R.slots) (hF : ws.Perm (wr ++ wc)) (hX : mk_Xt X X' Y Y' cB wr) (hst : (st.map fun v => v.category).sum ≤ 8)
    (hdg : decode cc pc = .ok (.invokestatic index, 3)) (hs : stk = As.reverse ++ st) (kk : ∀ u : S, P u → mk_Go p l e R s m args below meth c D A nL (cells + mc) (slots + ms) Q (pc + 3) (wr ++ wf u) lv ((rs u).toList ++ st)) : mk_Go p l e R s m args below meth c D A nL cells slots Q pc ws lv stk := by
  subst hs
  intro H locs ls hP hD hS hl
  have hp := mk_preX (av := As) C hF hX hP hD hS
  exact mk_backG C hF hP hD hS hl (va_runS (As := As) (rest := st) (n := n) C.1 (hM H.size) ⟨callB_of n C.1.2.2.2.2 (mk_good h5) rfl hrm.1 hrm.2 (C.1.2.2.2.2 _ h4) (C.1.2.2.2.2 _ h1) hn hR, C.1.2.2.2.2 _ h2⟩ hp rfl hAs hl.1 rfl (lv_room hst) hdg hroom) kk
/-- a method of the receiver's own class -/
theorem mk_callVG {S : Type} {P : S → Prop} {rs : S → Option Value} {wf : S → va_W} (C : mk_Cx p s m args c cc nL own D (mk_TY cI cJ cB cZ cS) X Y A) {y : MethodName} {cy : ByteArray} {nY index n : Nat} {ret : Option FieldType} {rm : Room} {b ci : Nat} {fs : List Value} {r : vw_C} {As stk : List Value} {wr wc : va_W} {mc ms : Nat}
    (hM : mk_MetG l y cy nY ret rm D (mk_TY cI cJ cB cZ cS) X' Y' (.ref b :: As) wc P rs wf mc ms) (h1 : Cond.methodLink own index y ∈ mk_WL) (h2 : Cond.instanceMethod y ∈ mk_WL) (h3 : Cond.selects y.cls y y ∈ mk_WL) (h4 : Cond.initialized y.cls ∈ mk_WL) (h5 : Cond.code y cy nY ret ∈ mk_WL) (hn : mk_nm y n) (hAs : As.length = n)
    (hR : rm.frames + 1 ≤ R.frames ∧ 8 + (nY + 11) + rm.locals ≤ R.locals) (hrm : rm.cells = mc ∧ rm.slots = ms) (hroom : cells + mc ≤ R.cells ∧ slots + ms ≤ R.slots) (q0 : Nat) (he : ws[q0]? = some (b, .inr (ci, fs))) (hc : vwCl[ci]? = some r) (hr : r.1 = y.cls) (hF : ws.Perm (wr ++ wc)) (hX : mk_Xt X X' Y Y' cB wr) (hst : (st.map fun v => v.category).sum ≤ 8)
    (hdg : decode cc pc = .ok (.invokevirtual index, 3)) (hs : stk = As.reverse ++ .ref b :: st) (kk : ∀ u : S, P u → mk_Go p l e R s m args below meth c D A nL (cells + mc) (slots + ms) Q (pc + 3) (wr ++ wf u) lv ((rs u).toList ++ st)) : mk_Go p l e R s m args below meth c D A nL cells slots Q pc ws lv stk := by
  subst hs
  intro H locs ls hP hD hS hl
  have hp := mk_preX (av := .ref b :: As) C hF hX hP hD hS
  refine mk_backG C hF hP hD hS hl (va_runV (As := As) (rest := st) (C := y.cls) (n := n) C.1 (hM H.size) ⟨callB_of n C.1.2.2.2.2 (mk_good h5) rfl hrm.1 hrm.2 (C.1.2.2.2.2 _ h4) (C.1.2.2.2.2 _ h1) hn hR, C.1.2.2.2.2 _ h2, C.1.2.2.2.2 _ h3⟩ ⟨hp.1, ?_, hp.2⟩ rfl hAs hl.1 rfl (lv_room hst) hdg hroom) kk
  have h := va_recv C.2.1 hP hc he
  rw [hr] at h
  exact h
/-- a method of String, of a string of the surroundings -/
theorem mk_callEG {S : Type} {P : S → Prop} {rs : S → Option Value} {wf : S → va_W} (C : mk_Cx p s m args c cc nL own D (mk_TY cI cJ cB cZ cS) X Y A) {y : MethodName} {cy : ByteArray} {nY index n : Nat} {ret : Option FieldType} {rm : Room} {k : Nat} {As stk : List Value} {wr wc : va_W} {mc ms : Nat}
    (hM : mk_MetG l y cy nY ret rm D (mk_TY cI cJ cB cZ cS) X Y (.ref (X k) :: As) wc P rs wf mc ms) (h1 : Cond.methodLink own index y ∈ mk_WL) (h2 : Cond.instanceMethod y ∈ mk_WL) (h3 : Cond.selects y.cls y y ∈ mk_WL) (h4 : Cond.initialized y.cls ∈ mk_WL) (h5 : Cond.code y cy nY ret ∈ mk_WL) (hn : mk_nm y n) (hAs : As.length = n)
    (hR : rm.frames + 1 ≤ R.frames ∧ 8 + (nY + 11) + rm.locals ≤ R.locals) (hrm : rm.cells = mc ∧ rm.slots = ms) (hroom : cells + mc ≤ R.cells ∧ slots + ms ≤ R.slots) (hy : y.cls = "java/lang/String") (hF : ws.Perm (wr ++ wc)) (hst : (st.map fun v => v.category).sum ≤ 8)
    (hdg : decode cc pc = .ok (.invokevirtual index, 3)) (hs : stk = As.reverse ++ .ref (X k) :: st) (kk : ∀ u : S, P u → mk_Go p l e R s m args below meth c D A nL (cells + mc) (slots + ms) Q (pc + 3) (wr ++ wf u) lv ((rs u).toList ++ st)) : mk_Go p l e R s m args below meth c D A nL cells slots Q pc ws lv stk := by
  subst hs
  intro H locs ls hP hD hS hl
  have hp := mk_preX (av := .ref (X k) :: As) C hF mk_Xt.rf hP hD hS
  refine mk_backG C hF hP hD hS hl (va_runV (As := As) (rest := st) (C := y.cls) (n := n) C.1 (hM H.size) ⟨callB_of n C.1.2.2.2.2 (mk_good h5) rfl hrm.1 hrm.2 (C.1.2.2.2.2 _ h4) (C.1.2.2.2.2 _ h1) hn hR, C.1.2.2.2.2 _ h2, C.1.2.2.2.2 _ h3⟩ ⟨hp.1, ?_, hp.2⟩ rfl hAs hl.1 rfl (lv_room hst) hdg hroom) kk
  rw [hy]
  exact mk_S.recv C.2.2.1.2.1 hS
theorem mk_goodM {wsx : List Cond} (h : ∀ w ∈ wsx, w ∈ mk_WL) : GoodIn mk_WL wsx := fun w hw => ⟨h w hw, good_of_word (mk_WL_good w (h w hw))⟩
theorem mk_wsM {y : MethodName} {cy : ByteArray} {nY : Nat} {ret : Option FieldType} (hc : Cond.code y cy nY ret ∈ mk_WL) : ∀ w ∈ mk_ws y cy nY ret, w ∈ mk_WL := fun w hw => (mk_good hc w hw).1
/-- an inherited (or a private) method, of an object of class RJ4 -/
theorem mk_callUG {S : Type} {P : S → Prop} {rs : S → Option Value} {wf : S → va_W} (C : mk_Cx p s m args c cc nL own D (mk_TY cI cJ cB cZ cS) X Y A) {y : MethodName} {cy : ByteArray} {nY index n : Nat} {ret : Option FieldType} {rm : Room} {b : Nat} {fs : List Value} {As stk : List Value} {wr wc : va_W} {mc ms : Nat}
    (hM : mk_MetG l y cy nY ret rm D (mk_TY cI cJ cB cZ cS) X' Y' (.ref b :: As) wc P rs wf mc ms) (h1 : Cond.methodLink own index y ∈ mk_WL) (h0 : Cond.sameMethod y.cls y.cls y.name y.desc ∈ mk_WL) (h2 : Cond.instanceMethod y ∈ mk_WL) (h3 : Cond.selects RJ4 y y ∈ mk_WL) (h4 : Cond.initialized y.cls ∈ mk_WL) (h5 : Cond.code y cy nY ret ∈ mk_WL) (hn : mk_nm y n) (hAs : As.length = n)
    (hR : rm.frames + 1 ≤ R.frames ∧ 8 + (nY + 11) + rm.locals ≤ R.locals) (hrm : rm.cells = mc ∧ rm.slots = ms) (hroom : cells + mc ≤ R.cells ∧ slots + ms ≤ R.slots) (q0 : Nat) (he : ws[q0]? = some (b, .inr (11, fs))) (hF : ws.Perm (wr ++ wc)) (hX : mk_Xt X X' Y Y' cB wr) (hst : (st.map fun v => v.category).sum ≤ 8)
    (hdg : decode cc pc = .ok (.invokevirtual index, 3)) (hs : stk = As.reverse ++ .ref b :: st) (kk : ∀ u : S, P u → mk_Go p l e R s m args below meth c D A nL (cells + mc) (slots + ms) Q (pc + 3) (wr ++ wf u) lv ((rs u).toList ++ st)) : mk_Go p l e R s m args below meth c D A nL cells slots Q pc ws lv stk := by
  subst hs
  intro H locs ls hP hD hS hl
  have hp := mk_preX (av := .ref b :: As) C hF hX hP hD hS
  have hG : GoodIn mk_WL (va_wsU own index RJ4 y.cls y y (mk_ws y cy nY ret)) := mk_goodM (fun w hw => by
    unfold va_wsU at hw
    rcases List.mem_append.mp hw with h | h
    · simp only [List.mem_cons, List.not_mem_nil, or_false] at h
      rcases h with rfl | rfl | rfl | rfl | rfl
      · exact h1
      · exact h0
      · exact h3
      · exact h2
      · exact h4
    · exact mk_wsM h5 w h)
  exact mk_backG C hF hP hD hS hl (va_runU (As := As) (rest := st) (C := RJ4) (owner := y.cls) (n := n) C.1 (hM H.size) (va_cwU n C.1.2.2.2.2 hG rfl hrm.1 hrm.2 rfl ⟨hn.1, hn.2.1, hn.2.2⟩ hR) ⟨hp.1, va_recv C.2.1 hP (q := (RJ4, TJ4, 4)) rfl he, hp.2⟩ rfl hAs hl.1 rfl (lv_room hst) hdg hroom) kk
/-- super's method, of an object of class RJ4 -/
theorem mk_callSU {S : Type} {P : S → Prop} {rs : S → Option Value} {wf : S → va_W} (C : mk_Cx p s m args c cc nL RJ4 D (mk_TY cI cJ cB cZ cS) X Y A) {y : MethodName} {cy : ByteArray} {nY index n : Nat} {ret : Option FieldType} {rm : Room} {b : Nat} {fs : List Value} {As stk : List Value} {wr wc : va_W} {mc ms : Nat}
    (hM : mk_MetG l y cy nY ret rm D (mk_TY cI cJ cB cZ cS) X' Y' (.ref b :: As) wc P rs wf mc ms) (h1 : Cond.methodLink RJ4 index y ∈ mk_WL) (h0 : Cond.sameMethod y.cls y.cls y.name y.desc ∈ mk_WL) (h3 : Cond.superclass RJ4 y.cls ∈ mk_WL) (h2 : Cond.instanceMethod y ∈ mk_WL) (h4 : Cond.initialized y.cls ∈ mk_WL) (h5 : Cond.code y cy nY ret ∈ mk_WL) (hn : mk_nm y n) (hni : y.name ≠ "<init>") (hAs : As.length = n)
    (hR : rm.frames + 1 ≤ R.frames ∧ 8 + (nY + 11) + rm.locals ≤ R.locals) (hrm : rm.cells = mc ∧ rm.slots = ms) (hroom : cells + mc ≤ R.cells ∧ slots + ms ≤ R.slots) (q0 : Nat) (he : ws[q0]? = some (b, .inr (11, fs))) (hF : ws.Perm (wr ++ wc)) (hX : mk_Xt X X' Y Y' cB wr) (hst : (st.map fun v => v.category).sum ≤ 8)
    (hdg : decode cc pc = .ok (.invokespecial index, 3)) (hs : stk = As.reverse ++ .ref b :: st) (kk : ∀ u : S, P u → mk_Go p l e R s m args below meth c D A nL (cells + mc) (slots + ms) Q (pc + 3) (wr ++ wf u) lv ((rs u).toList ++ st)) : mk_Go p l e R s m args below meth c D A nL cells slots Q pc ws lv stk := by
  subst hs
  intro H locs ls hP hD hS hl
  have hp := mk_preX (av := .ref b :: As) C hF hX hP hD hS
  have hG : GoodIn mk_WL (va_wsSU RJ4 index y (mk_ws y cy nY ret)) := mk_goodM (fun w hw => by
    unfold va_wsSU at hw
    rcases List.mem_append.mp hw with h | h
    · simp only [List.mem_cons, List.not_mem_nil, or_false] at h
      rcases h with rfl | rfl | rfl | rfl | rfl
      · exact h1
      · exact h0
      · exact h3
      · exact h2
      · exact h4
    · exact mk_wsM h5 w h)
  exact mk_backG C hF hP hD hS hl (va_runSU (As := As) (rest := st) (C := RJ4) (n := n) (C.2.1.1 11 (RJ4, TJ4, 4) rfl).2 C.1 (hM H.size) (va_cwSU n C.1.2.2.2.2 hG rfl hrm.1 hrm.2 ⟨hni, hn.2.2⟩ hR) ⟨hp.1, va_recv C.2.1 hP (q := (RJ4, TJ4, 4)) rfl he, hp.2⟩ rfl hAs hl.1 rfl (lv_room hst) hdg hroom) kk
/-- a constructor with arguments -/
theorem mk_callIG {S : Type} {P : S → Prop} {wf : S → va_W} (C : mk_Cx p s m args c cc nL own D (mk_TY cI cJ cB cZ cS) X Y A) {y : MethodName} {cy : ByteArray} {nY index n : Nat} {rm : Room} {b : Nat} {As stk : List Value} {wr wc : va_W} {mc ms : Nat}
    (hM : mk_MetG l y cy nY none rm D (mk_TY cI cJ cB cZ cS) X' Y' (.ref b :: As) wc P (fun _ => none) wf mc ms) (h1 : Cond.methodLink own index y ∈ mk_WL) (h2 : Cond.instanceMethod y ∈ mk_WL) (h4 : Cond.initialized y.cls ∈ mk_WL) (h5 : Cond.code y cy nY none ∈ mk_WL) (hn : mk_nm y n) (hni : y.name = "<init>") (hAs : As.length = n)
    (hR : rm.frames + 1 ≤ R.frames ∧ 8 + (nY + 11) + rm.locals ≤ R.locals) (hrm : rm.cells = mc ∧ rm.slots = ms) (hroom : cells + mc ≤ R.cells ∧ slots + ms ≤ R.slots) (hF : ws.Perm (wr ++ wc)) (hX : mk_Xt X X' Y Y' cB wr) (hst : (st.map fun v => v.category).sum ≤ 8)
    (hdg : decode cc pc = .ok (.invokespecial index, 3)) (hs : stk = As.reverse ++ .ref b :: st) (kk : ∀ u : S, P u → mk_Go p l e R s m args below meth c D A nL (cells + mc) (slots + ms) Q (pc + 3) (wr ++ wf u) lv st) : mk_Go p l e R s m args below meth c D A nL cells slots Q pc ws lv stk := by
  subst hs
  intro H locs ls hP hD hS hl
  have hp := mk_preX (av := .ref b :: As) C hF hX hP hD hS
  exact mk_backG C hF hP hD hS hl (va_runI (As := As) (rest := st) (n := n) C.1 (hM H.size) ⟨callB_of n C.1.2.2.2.2 (mk_good h5) rfl hrm.1 hrm.2 (C.1.2.2.2.2 _ h4) (C.1.2.2.2.2 _ h1) hn hR, hni, C.1.2.2.2.2 _ h2⟩ hp rfl hAs hl.1 rfl (lv_room hst) hdg hroom) kk
/-! ends -/
theorem mk_iretG {S : Type} {P : S → Prop} {rs : S → Option Value} {wf : S → va_W} {tys : List (ClassId × FieldType)} (C : mk_Cx p s m args c cc nL own D tys X Y A) {ty : FieldType} (hr : meth.sig.returnType = some ty) (hlocks : meth.locks = false) {v : Int32} (hn : narrow ty (.int v) = .int v) (u : S) (hu : P u) (hv : rs u = some (.int v)) (hw : ws = wf u) (hdg : decode cc pc = .ok (.ireturn, 1)) : mk_Go p l e R s m args below meth c D A nL cells slots (MQ below (mk_QG P rs D wf A) args s cells slots A) pc ws lv [.int v] :=
  fun H locs ls hP hD hS hl => by
    subst hw
    exact W.zret C.1.1 C.1.2.1 hr hn (fun t ht hW => ⟨⟨u, hu, by rw [hv], by rw [ht]; exact hP, hD⟩, hS.F ht⟩) hS.2.2 hdg hlocks
theorem mk_aretG {S : Type} {P : S → Prop} {rs : S → Option Value} {wf : S → va_W} {tys : List (ClassId × FieldType)} (C : mk_Cx p s m args c cc nL own D tys X Y A) {rt : FieldType} (hr : meth.sig.returnType = some rt) (hrt : (∃ n, rt = .object n) ∨ ∃ t, rt = .array t) (hlocks : meth.locks = false) {v : Nat} (u : S) (hu : P u) (hv : rs u = some (.ref v)) (hw : ws = wf u) (hdg : decode cc pc = .ok (.areturn, 1)) : mk_Go p l e R s m args below meth c D A nL cells slots (MQ below (mk_QG P rs D wf A) args s cells slots A) pc ws lv [.ref v] :=
  fun H locs ls hP hD hS hl => by
    subst hw
    exact W.aret C.1.1 C.1.2.1 hr hrt (Or.inr ⟨v, rfl⟩) (fun t ht hW => ⟨⟨u, hu, by rw [hv], by rw [ht]; exact hP, hD⟩, hS.F ht⟩) hS.2.2 hdg hlocks
theorem mk_vretG {S : Type} {P : S → Prop} {wf : S → va_W} {tys : List (ClassId × FieldType)} (C : mk_Cx p s m args c cc nL own D tys X Y A) (hr : meth.sig.returnType = none) (hlocks : meth.locks = false) (u : S) (hu : P u) (hw : ws = wf u) (hdg : decode cc pc = .ok (.return_, 1)) : mk_Go p l e R s m args below meth c D A nL cells slots (MQ below (mk_QG P (fun _ => none) D wf A) args s cells slots A) pc ws lv [] :=
  fun H locs ls hP hD hS hl => by
    subst hw
    exact W.vret C.1.1 C.1.2.1 hr (fun t ht hW => ⟨⟨u, hu, rfl, by rw [ht]; exact hP, hD⟩, hS.F ht⟩) hS.2.2 hdg hlocks
end MKG
