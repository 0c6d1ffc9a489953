/-! making objects and rows; contracts of constructors -/
def mk_QN {S : Type} (D : va_G) (h0 : Nat) (hd : S → Nat) (wf : S → va_W) (A : Nat → Prop) : Array Value → State → Outcome → State → Prop := fun _ st oc t => (oc = .returned none ∧ ∃ u : S, hd u = h0 ∧ va_P D vwCl (wf u) t.heap ∧ va_D A (wf u)) ∧ va_F A st t
def mk_MetN {S : Type} (l : Launch) (y : MethodName) (cc : ByteArray) (nL : Nat) (rm : Room) (D : va_G) (tys : List (ClassId × FieldType)) (X : Nat → Nat) (Y : mk_Y) (h0 ci : Nat) (fs : List Value) (hd : S → Nat) (wf : S → va_W) (mc ms : Nat) : Prop :=
  ∀ sz : Nat, Met l y (mk_ws y cc nL none) rm (mk_Pc [.ref h0] D tys X Y [(h0, .inr (ci, fs))] sz) (mk_QN D h0 hd wf (va_A [(h0, .inr (ci, fs))] sz)) mc ms (va_A [(h0, .inr (ci, fs))] sz)
theorem mk_startN {S : Type} {l : Launch} {y : MethodName} {cc : ByteArray} {nL : Nat} {rm : Room} {D : va_G} {tys : List (ClassId × FieldType)} {X : Nat → Nat} {Y : mk_Y} {h0 ci : Nat} {fs : List Value} {hd : S → Nat} {wf : S → va_W} {mc ms : Nat} {own : String}
    (hy : plainName y.cls = true) (ho : y.cls = own) (hav : 1 ≤ nL)
    (body : ∀ (sz : Nat) (p : Program) (e : Env) (s : State) (m : MethodId) (args : Array Value) (below : List Frame) (meth : Method) (c : Code) (A : Nat → Prop), mk_Cx p s m args c cc nL own D tys X Y A → meth.sig.returnType = none → meth.locks = false → meth.name = y.name →
      mk_Go p l e (headSpec (mk_ws y cc nL none) rm).room s m args below meth c D A nL 0 0 (MQ below (mk_QN D h0 hd wf A) args s mc ms A) 0 [(h0, .inr (ci, fs))] [(0, .ref h0)] []) :
    mk_MetN l y cc nL rm D tys X Y h0 ci fs hd wf mc ms := by
  intro sz
  refine Met.ofW (cc := cc) (maxL := nL) (ret := none) hy rfl ?_
  intro p e s m args below meth c s₁ B hml hv
  obtain ⟨rfl, hsz, hP, hK, hD0, hE⟩ := hv
  have hown : s.vm.findClass own = some m.cls := by rw [← ho]; exact findClass_of_methodNamed B.named
  subst hsz
  have hD := hD0.self (sz := s.heap.size)
  have hA : ∀ q : Nat, s.heap.size ≤ q → va_A [(h0, .inr (ci, fs))] s.heap.size q := fun q h => Or.inr h
  have hl := lv_entry [.ref h0] (n := nL) hav
  rw [lg_entry_eq]
  exact body s.heap.size p e s m _ below meth c _ ⟨⟨B.exec, B.bytes, hml, hown, fun w hw => atoms_spec (ws := mk_ws y cc nL none) B.pre w (List.mem_cons_of_mem _ hw)⟩, hK, hE, hA⟩ B.returns B.notSynchronized (name_of_methodNamed B.named B.method).1 s.heap [] _ hP hD va_S.rf hl
section MKNEW
variable {p : Program} {l : Launch} {e : Env} {R : Room} {s : State} {m : MethodId} {args : Array Value} {below : List Frame} {meth : Method} {c : Code} {D : va_G} {A : Nat → Prop} {nL cells slots : Nat} {Q : State → Prop} {pc : Nat} {ws : va_W} {lv : mk_L} {st : List Value} {cc : ByteArray} {own : String} {tys : List (ClassId × FieldType)} {X : Nat → Nat} {Y : mk_Y}
theorem mk_perm {ws' : va_W} (h : ws.Perm ws') (kk : mk_Go p l e R s m args below meth c D A nL cells slots Q pc ws' lv st) : mk_Go p l e R s m args below meth c D A nL cells slots Q pc ws lv st :=
  fun H locs ls hP hD hS hl => kk H locs ls (mk_P.perm hP h) (mk_D.perm hD h) hS hl
theorem mk_drop (w0 : va_W) {ws' : va_W} (h : ws.Perm (w0 ++ ws')) (kk : mk_Go p l e R s m args below meth c D A nL cells slots Q pc ws' lv st) : mk_Go p l e R s m args below meth c D A nL cells slots Q pc ws lv st :=
  fun H locs ls hP hD hS hl => kk H locs ls (mk_P.right (mk_P.perm hP h)) (mk_D.right (mk_D.perm hD h)) hS hl
theorem mk_widen {k n : Nat} (h1 : cells ≤ k) (h2 : slots ≤ n) (kk : mk_Go p l e R s m args below meth c D A nL k n Q pc ws lv st) : mk_Go p l e R s m args below meth c D A nL cells slots Q pc ws lv st :=
  fun H locs ls hP hD hS hl => W.widen h1 h2 (kk H locs ls hP hD hS hl)
theorem mk_objI (C : mk_Cx p s m args c cc nL own D tys X Y A) {idx a : Nat} (h1 : Cond.methodLink own idx Lib.objectInit ∈ mk_WL) (h2 : Cond.instanceMethod Lib.objectInit ∈ mk_WL) (h3 : Cond.code Lib.objectInit ⟨#[0xb1]⟩ 1 none ∈ mk_WL) (hR : 1 ≤ R.frames ∧ (st.map fun v => v.category).sum + 12 ≤ R.locals) (hdg : decode cc pc = .ok (.invokespecial idx, 3)) (kk : mk_Go p l e R s m args below meth c D A nL cells slots Q (pc + 3) ws lv st) : mk_Go p l e R s m args below meth c D A nL cells slots Q pc ws lv (.ref a :: st) :=
  fun H locs ls hP hD hS hl => W.objInit C.1.1 C.1.2.1 C.1.2.2.2.1 (C.1.2.2.2.2 _ h1) (C.1.2.2.2.2 _ h2) (C.1.2.2.2.2 _ h3) rfl (by rw [C.1.2.2.1]; exact hl.1) rfl hdg hR.1 (by show 2 * 0 + _ + 12 ≤ _; have := hR.2; omega) (kk H locs ls hP hD hS hl)
theorem mk_new (C : mk_Cx p s m args c cc nL own D tys X Y A) {Cn : String} {T : u_T} {N ci index : Nat} (hin : ∀ w ∈ u_ws Cn T N, w ∈ mk_WL) (ty : Nat → FieldType) (hty : ∀ k, k < N → parseFieldDescriptor (T k).2.2.1 = some (ty k)) (hcl : Cond.classLink own index Cn ∈ mk_WL) (hinst : Cond.instantiable Cn N ∈ mk_WL) (hini : Cond.initialized Cn ∈ mk_WL) (hc : vwCl[ci]? = some (Cn, T, N)) {fs : List Value} (hfs : ∀ j, j < N → defaultValue (ty j) = vp_V fs j) (hroom : cells + 1 ≤ R.cells ∧ slots + N ≤ R.slots) (hdg : decode cc pc = .ok (.new index, 3)) (kk : ∀ q : Nat, mk_Go p l e R s m args below meth c D A nL (cells + 1) (slots + N) Q (pc + 3) (ws ++ [(q, .inr (ci, fs))]) lv (.ref q :: st)) : mk_Go p l e R s m args below meth c D A nL cells slots Q pc ws lv st :=
  fun H locs ls hP hD hS hl => va_new C.1.1 C.1.2.1 C.1.2.2.2.2 hin ty hty C.1.2.2.2.1 (C.1.2.2.2.2 _ hcl) (C.1.2.2.2.2 _ hinst) (C.1.2.2.2.2 _ hini) C.2.1 hP hD hS C.2.2.2 hc hfs hroom.1 hroom.2 hdg (fun q H1 hP1 hD1 hS1 => kk q H1 locs ls hP1 hD1 hS1 hl)
theorem mk_newaI {cI cJ cB cZ cS : ClassId} (C : mk_Cx p s m args c cc nL own D (mk_TY cI cJ cB cZ cS) X Y A) (hA : Cond.arrayClass .int ∈ mk_WL) {n : Int32} {N : Nat} (hn : ¬ n < 0) (hN : n.toNatClampNeg = N) (hbytes : N * 4 ≤ 536870912) (hroom : cells + 1 ≤ R.cells ∧ slots + N ≤ R.slots) (hdg : decode cc pc = .ok (.newarray .int, 2)) (kk : ∀ q : Nat, mk_Go p l e R s m args below meth c D A nL (cells + 1) (slots + N) Q (pc + 2) (ws ++ [(q, .inl (cI, N, .inl (fun _ => 0)))]) lv (.ref q :: st)) : mk_Go p l e R s m args below meth c D A nL cells slots Q pc ws lv (.int n :: st) :=
  fun H locs ls hP hD hS hl => va_newa (atype := .int) (ty := .int) (a0 := (N, .inl (fun _ => 0))) C.1.1 C.1.2.1 (C.1.2.2.2.2 _ hA) rfl C.2.1 hP hD hS C.2.2.2 (fun _ => rfl) hn hN hbytes hroom.1 hroom.2 hdg (fun q cA H1 hK1 hP1 hD1 hS1 => by
    have h1 : s.vm.findClass ("[" ++ FieldType.int.toString) = some cA := (hK1.2 5 (cA, .int) rfl).2
    have h2 : s.vm.findClass ("[" ++ FieldType.int.toString) = some cI := (C.2.1.2 0 (cI, .int) rfl).2
    have h3 : cA = cI := Option.some.inj (h1.symm.trans h2)
    subst h3
    exact kk q H1 locs ls hP1 hD1 hS1 hl)
theorem mk_newaL {cI cJ cB cZ cS : ClassId} (C : mk_Cx p s m args c cc nL own D (mk_TY cI cJ cB cZ cS) X Y A) (hA : Cond.arrayClass .long ∈ mk_WL) {n : Int32} {N : Nat} (hn : ¬ n < 0) (hN : n.toNatClampNeg = N) (hbytes : N * 8 ≤ 536870912) (hroom : cells + 1 ≤ R.cells ∧ slots + N ≤ R.slots) (hdg : decode cc pc = .ok (.newarray .long, 2)) (kk : ∀ q : Nat, mk_Go p l e R s m args below meth c D A nL (cells + 1) (slots + N) Q (pc + 2) (ws ++ [(q, .inl (cJ, N, .inr (.inl (fun _ => 0))))]) lv (.ref q :: st)) : mk_Go p l e R s m args below meth c D A nL cells slots Q pc ws lv (.int n :: st) :=
  fun H locs ls hP hD hS hl => va_newa (atype := .long) (ty := .long) (a0 := (N, .inr (.inl (fun _ => 0)))) C.1.1 C.1.2.1 (C.1.2.2.2.2 _ hA) rfl C.2.1 hP hD hS C.2.2.2 (fun _ => rfl) hn hN hbytes hroom.1 hroom.2 hdg (fun q cA H1 hK1 hP1 hD1 hS1 => by
    have h1 : s.vm.findClass ("[" ++ FieldType.long.toString) = some cA := (hK1.2 5 (cA, .long) rfl).2
    have h2 : s.vm.findClass ("[" ++ FieldType.long.toString) = some cJ := (C.2.1.2 1 (cJ, .long) rfl).2
    have h3 : cA = cJ := Option.some.inj (h1.symm.trans h2)
    subst h3
    exact kk q H1 locs ls hP1 hD1 hS1 hl)
theorem mk_vretN {S : Type} {h0 : Nat} {hd : S → Nat} {wf : S → va_W} (C : mk_Cx p s m args c cc nL own D tys X Y A) (hr : meth.sig.returnType = none) (hlocks : meth.locks = false) (u : S) (hu : hd u = h0) (hw : ws = wf u) (hdg : decode cc pc = .ok (.return_, 1)) : mk_Go p l e R s m args below meth c D A nL cells slots (MQ below (mk_QN D h0 hd wf A) args s cells slots A) pc ws lv [] :=
  fun H locs ls hP hD hS hl => by
    subst hw
    exact W.vret C.1.1 C.1.2.1 hr (fun t ht hW => ⟨⟨rfl, u, hu, by rw [ht]; exact hP, hD⟩, hS.F ht⟩) hS.2.2 hdg hlocks
theorem mk_backN {S : Type} {hd : S → Nat} {wf : S → va_W} {h0 : Nat} {ls : Array Slot} {H : Heap} {locs : List Loc} {st0 : List Value} {mc ms : Nat} {a : Array Value} {wr wc : va_W} (C : mk_Cx p s m args c cc nL own D tys X Y A) (hF : ws.Perm (wr ++ wc)) (hP : va_P D vwCl ws H) (hD : va_D A ws) (hS : va_S A s.heap H locs) (hl : lv_has ls nL lv)
    (hr : va_Run p l e R s m args below meth c H locs cells slots mc ms (F0 m pc ls st0) st (mk_QN D h0 hd wf (va_A wc H.size) a) (va_A wc H.size))
    (kk : ∀ u : S, hd u = h0 → mk_Go p l e R s m args below meth c D A nL (cells + mc) (slots + ms) Q (pc + 3) (wr ++ wf u) lv st) : W p l e R s m args below meth c H locs cells slots Q (F0 m pc ls st0) := by
  have hF0 : mk_Fr ws wc wc ws := ⟨wr, hF, hF⟩
  have hFc := hF0.free hD hS C.2.2.2
  intro T hT X0
  obtain ⟨v, st₀, t, T', L, h0', X', hL, e1, e2, ⟨⟨hv, u, hu, hp, hd'⟩, hz, hk⟩, stp⟩ := hr T hT X0
  cases hv
  rw [h0'] at hz hk
  obtain ⟨hP', hD'⟩ := mk_join (ws' := wr ++ wf u) ⟨wr, hF, List.Perm.refl _⟩ hP hD hFc hk hp hd'
  obtain ⟨t2, a1, b1⟩ := kk u hu t.heap (locs ++ L) ls hP' hD'
    ⟨Nat.le_trans hS.1 hz, fun q h1 h2 => by rw [hk q (Nat.lt_of_lt_of_le h1 hS.1) (fun z => h2 (hFc q z))]; exact hS.2.1 q h1 h2, fun q hq => by
      rcases List.mem_append.mp hq with h | h
      · exact hS.2.2 q h
      · exact hFc _ (hL q h)⟩ hl T' e1 X'
  exact ⟨t2, stp t2 a1, b1⟩
/-- a nest mate's private constructor -/
theorem mk_callIN {S : Type} {hd : S → Nat} {wf : S → va_W} (C : mk_Cx p s m args c cc nL own D tys X Y A) {y : MethodName} {cy : ByteArray} {nY index q ci : Nat} {rm : Room} {fs : List Value} {wr : va_W} {mc ms : Nat}
    (hM : mk_MetN l y cy nY rm D tys X Y q ci fs hd wf mc ms) (h1 : (own, index, y) ∈ mk_nest) (h2 : Cond.instanceMethod y ∈ mk_WL) (h4 : Cond.initialized y.cls ∈ mk_WL) (h5 : Cond.code y cy nY none ∈ mk_WL) (hn : mk_nm y 0) (hi : y.name = "<init>")
    (hR : rm.frames + 1 ≤ R.frames ∧ 8 + (nY + 11) + rm.locals ≤ R.locals) (hrm : rm.cells = mc ∧ rm.slots = ms) (hroom : cells + mc ≤ R.cells ∧ slots + ms ≤ R.slots) (hF : ws.Perm (wr ++ [(q, .inr (ci, fs))])) (hst : (st.map fun v => v.category).sum ≤ 8)
    (hdg : decode cc pc = .ok (.invokespecial index, 3)) (kk : ∀ u : S, hd u = q → mk_Go p l e R s m args below meth c D A nL (cells + mc) (slots + ms) Q (pc + 3) (wr ++ wf u) lv st) : mk_Go p l e R s m args below meth c D A nL cells slots Q pc ws lv (.ref q :: st) := by
  intro H locs ls hP hD hS hl
  have hF0 : mk_Fr ws [(q, .inr (ci, fs))] [(q, .inr (ci, fs))] ws := ⟨wr, hF, hF⟩
  have hp := mk_pre (av := [.ref q]) C hF0 hP hD hS
  exact mk_backN C hF hP hD hS hl (va_runIN (As := []) (rest := st) (n := 0) C.1 (hM H.size) ⟨va_cnB 0 C.1.2.2.2.2 (mk_good h5) rfl hrm.1 hrm.2 (C.2.2.1.1.1 _ h1) (C.1.2.2.2.2 _ h4) hn hR, hi, C.1.2.2.2.2 _ h2⟩ hp rfl rfl hl.1 rfl (lv_room hst) hdg hroom) kk
/-- a constructor -/
theorem mk_callI {S : Type} {hd : S → Nat} {wf : S → va_W} (C : mk_Cx p s m args c cc nL own D tys X Y A) {y : MethodName} {cy : ByteArray} {nY index q ci : Nat} {rm : Room} {fs : List Value} {wr : va_W} {mc ms : Nat}
    (hM : mk_MetN l y cy nY rm D tys X Y q ci fs hd wf mc ms) (h1 : Cond.methodLink own index y ∈ mk_WL) (h2 : Cond.instanceMethod y ∈ mk_WL) (h4 : Cond.initialized y.cls ∈ mk_WL) (h5 : Cond.code y cy nY none ∈ mk_WL) (hn : mk_nm y 0) (hi : y.name = "<init>")
    (hR : rm.frames + 1 ≤ R.frames ∧ 8 + (nY + 11) + rm.locals ≤ R.locals) (hrm : rm.cells = mc ∧ rm.slots = ms) (hroom : cells + mc ≤ R.cells ∧ slots + ms ≤ R.slots) (hF : ws.Perm (wr ++ [(q, .inr (ci, fs))])) (hst : (st.map fun v => v.category).sum ≤ 8)
    (hdg : decode cc pc = .ok (.invokespecial index, 3)) (kk : ∀ u : S, hd u = q → mk_Go p l e R s m args below meth c D A nL (cells + mc) (slots + ms) Q (pc + 3) (wr ++ wf u) lv st) : mk_Go p l e R s m args below meth c D A nL cells slots Q pc ws lv (.ref q :: st) := by
  intro H locs ls hP hD hS hl
  have hF0 : mk_Fr ws [(q, .inr (ci, fs))] [(q, .inr (ci, fs))] ws := ⟨wr, hF, hF⟩
  have hp := mk_pre (av := [.ref q]) C hF0 hP hD hS
  exact mk_backN C hF hP hD hS hl (va_runI (As := []) (rest := st) (n := 0) C.1 (hM H.size) ⟨callB_of 0 C.1.2.2.2.2 (mk_good h5) rfl hrm.1 hrm.2 (C.1.2.2.2.2 _ h4) (C.1.2.2.2.2 _ h1) hn hR, hi, C.1.2.2.2.2 _ h2⟩ hp rfl rfl hl.1 rfl (lv_room hst) hdg hroom) kk
end MKNEW
theorem mk_setL {A A' B : va_W} {q : Nat} {x : Nat × va_E} (h : A.set q x = A') (hq : q < A.length) : (A ++ B).set q x = A' ++ B := by
  rw [List.set_append_left _ _ hq, h]
