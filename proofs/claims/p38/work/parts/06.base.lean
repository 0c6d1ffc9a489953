/-! states of objects as functions; worlds; what the methods of rows do -/
noncomputable def upR {α : Type} (k : Nat) (g : Nat → α) (u : Nat → Nat → α) : Nat → Nat → α := fun j => @Bool.rec (fun _ => Nat → α) (u j) g (Nat.beq j k)
noncomputable def upF {α : Type} (k : Nat) (v : α) (u : Nat → Nat → α) : Nat → Nat → α := fun j => @Bool.rec (fun _ => Nat → α) (u j) (fun _ => v) (Nat.beq j k)
def wTape (a : Nat → Nat) (cI : ClassId) (u : Nat → Nat → Int32) : va_W := [(a 0, .inr (7, [.ref (a 1), .int (u 1 0)])), (a 1, .inl (cI, 500, .inl (u 0)))]
def wPlan (a : Nat → Nat) (cI : ClassId) (u : Nat → Nat → Int32) : va_W := [(a 0, .inr (3, [.int (u 0 0), .int (u 1 0), .int (u 2 0), .int (u 3 0), .int (u 4 0), .int (u 5 0), .int (u 6 0), .ref (a 8), .ref (a 9), .ref (a 10), .ref (a 11), .ref (a 12)])), (a 8, .inl (cI, 10, .inl (u 7))), (a 9, .inl (cI, 10, .inl (u 8))), (a 10, .inl (cI, 10, .inl (u 9))), (a 11, .inl (cI, 10, .inl (u 10))), (a 12, .inl (cI, 10, .inl (u 11)))]
def wActs (a : Nat → Nat) (cI : ClassId) (u : Nat → Nat → Int32) : va_W := [(a 0, .inr (0, [.ref (a 1), .ref (a 2), .int (u 2 0)])), (a 1, .inl (cI, 20, .inl (u 0))), (a 2, .inl (cI, 20, .inl (u 1)))]
def wStack (a : Nat → Nat) (cI : ClassId) (u : Nat → Nat → Int32) : va_W := [(a 0, .inr (6, [.ref (a 1), .ref (a 2), .ref (a 3), .int (u 3 0)])), (a 1, .inl (cI, 201, .inl (u 0))), (a 2, .inl (cI, 201, .inl (u 1))), (a 3, .inl (cI, 201, .inl (u 2)))]
def wCourse (a : Nat → Nat) (cI : ClassId) (u : Nat → Nat → Int32) : va_W := [(a 0, .inr (1, [.ref (a 1), .ref (a 2), .ref (a 3), .ref (a 4), .ref (a 5), .ref (a 6), .ref (a 7), .ref (a 8), .ref (a 9), .int (u 9 0), .ref (a 11), .ref (a 12), .ref (a 13), .int (u 13 0)])), (a 1, .inl (cI, 200, .inl (u 0))), (a 2, .inl (cI, 200, .inl (u 1))), (a 3, .inl (cI, 200, .inl (u 2))), (a 4, .inl (cI, 200, .inl (u 3))), (a 5, .inl (cI, 200, .inl (u 4))), (a 6, .inl (cI, 10, .inl (u 5))), (a 7, .inl (cI, 10, .inl (u 6))), (a 8, .inl (cI, 10, .inl (u 7))), (a 9, .inl (cI, 10, .inl (u 8))), (a 11, .inl (cI, 200, .inl (u 10))), (a 12, .inl (cI, 200, .inl (u 11))), (a 13, .inl (cI, 200, .inl (u 12)))]
def wMeans (a : Nat → Nat) (cJ : ClassId) (u : Nat → Nat → Int64) : va_W := [(a 0, .inr (2, [.ref (a 1), .ref (a 2), .ref (a 3), .long (u 3 0), .long (u 4 0)])), (a 1, .inl (cJ, 9, .inr (.inl (u 0)))), (a 2, .inl (cJ, 9, .inr (.inl (u 1)))), (a 3, .inl (cJ, 52, .inr (.inl (u 2))))]
def wReader (a aT aD : Nat → Nat) (u : Nat → Nat → Int32) : va_W := [(a 0, .inr (5, [.ref (aT 0), .ref (aD 0), .int (u 2 0), .int (u 3 0), .int (u 4 0), .int (u 5 0), .int (u 6 0), .int (u 7 0)]))]
def wPlay (a aP aS : Nat → Nat) (crs : Nat) (cI : ClassId) (u : Nat → Nat → Int32) : va_W := [(a 0, .inr (4, [.ref (aP 0), .ref (aS 0), .ref (a 3), .ref crs, .int (u 4 0), .int (u 5 0), .int (u 6 0), .int (u 7 0), .int (u 8 0), .int (u 9 0), .int (u 10 0), .int (u 11 0), .int (u 12 0)])), (a 3, .inl (cI, 10, .inl (u 2)))]
def wChan (a aR aT aD aY aP aC aO aA aM : Nat → Nat) : va_W := [(a 0, .inr (8, [.ref (aR 0), .ref (aT 0), .ref (aD 0), .ref (aY 0), .ref (aP 0), .ref (aC 0), .ref (aO 0), .ref (aA 0), .ref (aM 0)]))]
def mk_crs (aC aO : Nat → Nat) (q : Nat) : Nat := cond (Nat.beq q 0) (aC 0) (aO 0)

def mkAt (n : Nat) (f : Nat → Int32) (i : Int32) : Int32 := if 0 ≤ i then (if i < nI n then f i.toNatClampNeg else 0) else 0
def mkAtL (n : Nat) (f : Nat → Int64) (i : Int32) : Int64 := if 0 ≤ i then (if i < nI n then f i.toNatClampNeg else 0) else 0
def mkPut (n : Nat) (f : Nat → Int32) (i v : Int32) : Nat → Int32 := if 0 ≤ i then (if i < nI n then upd f i.toNatClampNeg v else f) else f
def mkPutL (n : Nat) (f : Nat → Int64) (i : Int32) (v : Int64) : Nat → Int64 := if 0 ≤ i then (if i < nI n then vp_updL f i.toNatClampNeg v else f) else f
def mkFill {α : Type} (n : Nat) (f : Nat → α) (v : α) : Nat → α := fun j => if j < n then v else f j
def mkLen (k : Nat) : Int32 := nI (mk_len.getD k 0)
def mkChr (k : Nat) (i : Int32) : Int32 := (mk_byt.getD k []).getD i.toNatClampNeg 0
def gI {α : Type} (i : Int32) (n : Nat) (k : Option α) : Option α := if i < 0 ∨ n ≤ i.toNatClampNeg then none else k
theorem gI_some {α : Type} {i : Int32} {n : Nat} {k : Option α} {r : α} (h : gI i n k = some r) : vp_in i n ∧ k = some r := by
  unfold gI at h
  split at h
  · cases h
  · rename_i q; exact ⟨q, h⟩
def gN {α : Type} (y : Int32) (k : Option α) : Option α := if y = 0 then none else k
theorem gN_some {α : Type} {y : Int32} {k : Option α} {r : α} (h : gN y k = some r) : (¬ y = 0) ∧ k = some r := by
  unfold gN at h
  split at h
  · cases h
  · rename_i q; exact ⟨q, h⟩
def gNL {α : Type} (y : Int64) (k : Option α) : Option α := if y = 0 then none else k
theorem gNL_some {α : Type} {y : Int64} {k : Option α} {r : α} (h : gNL y k = some r) : (¬ y = 0) ∧ k = some r := by
  unfold gNL at h
  split at h
  · cases h
  · rename_i q; exact ⟨q, h⟩
def gZ {α : Type} (v : Int32) (k : Option α) : Option α := if v = 0 ∨ v = 1 then k else none
theorem gZ_some {α : Type} {v : Int32} {k : Option α} {r : α} (h : gZ v k = some r) : (v = 0 ∨ v = 1) ∧ k = some r := by
  unfold gZ at h
  split at h
  · rename_i q; exact ⟨q, h⟩
  · cases h
def gS {α : Type} (s : Nat) (i : Int32) (k : Option α) : Option α := if i < 0 ∨ mk_len.getD s 0 ≤ i.toNatClampNeg then none else k
theorem gS_some {α : Type} {s : Nat} {i : Int32} {k : Option α} {r : α} (h : gS s i k = some r) : vp_in i (mk_len.getD s 0) ∧ k = some r := by
  unfold gS at h
  split at h
  · cases h
  · rename_i q; exact ⟨q, h⟩
theorem mk_nz {v : Int32} (h : v = 0 ∨ v = 1) : narrow .boolean (.int v) = .int v := by rcases h with rfl | rfl <;> rfl
theorem mk_fz {v : Int32} (h : v = 0 ∨ v = 1) : fits .boolean (.int v) = true := by rcases h with rfl | rfl <;> rfl
theorem mk_vi {i : Int32} {n : Nat} (h : (decide (i < 0) || decide (n ≤ i.toNatClampNeg)) = false) : vp_in i n := by
  simp only [Bool.or_eq_false_iff, decide_eq_false_iff_not] at h
  rintro (q | q)
  · exact h.1 q
  · exact h.2 q
def b0 {R : Type} (o : Option Unit) (k : Option R) : Option R := match o with | none => none | some _ => k
theorem b0_some {R : Type} {o : Option Unit} {k : Option R} {r : R} (h : b0 o k = some r) : o = some () ∧ k = some r := by
  cases o with
  | none => cases h
  | some x => exact ⟨rfl, h⟩
def b1 {A R : Type} (o : Option A) (k : A → Option R) : Option R := match o with | none => none | some a => k a
theorem b1_some {A R : Type} {o : Option A} {k : A → Option R} {r : R} (h : b1 o k = some r) : ∃ a, o = some a ∧ k a = some r := by
  cases o with
  | none => cases h
  | some x => exact ⟨x, rfl, h⟩
def b2 {A0 A1 R : Type} (o : Option (A0 × A1)) (k : A0 → A1 → Option R) : Option R := match o with | none => none | some (a0, a1) => k a0 a1
theorem b2_some {A0 A1 R : Type} {o : Option (A0 × A1)} {k : A0 → A1 → Option R} {r : R} (h : b2 o k = some r) : ∃ a0 a1, o = some (a0, a1) ∧ k a0 a1 = some r := by
  cases o with
  | none => cases h
  | some x =>
    obtain ⟨a0, a1⟩ := x
    exact ⟨a0, a1, rfl, h⟩
def b3 {A0 A1 A2 R : Type} (o : Option (A0 × A1 × A2)) (k : A0 → A1 → A2 → Option R) : Option R := match o with | none => none | some (a0, a1, a2) => k a0 a1 a2
theorem b3_some {A0 A1 A2 R : Type} {o : Option (A0 × A1 × A2)} {k : A0 → A1 → A2 → Option R} {r : R} (h : b3 o k = some r) : ∃ a0 a1 a2, o = some (a0, a1, a2) ∧ k a0 a1 a2 = some r := by
  cases o with
  | none => cases h
  | some x =>
    obtain ⟨a0, a1, a2⟩ := x
    exact ⟨a0, a1, a2, rfl, h⟩
def b4 {A0 A1 A2 A3 R : Type} (o : Option (A0 × A1 × A2 × A3)) (k : A0 → A1 → A2 → A3 → Option R) : Option R := match o with | none => none | some (a0, a1, a2, a3) => k a0 a1 a2 a3
theorem b4_some {A0 A1 A2 A3 R : Type} {o : Option (A0 × A1 × A2 × A3)} {k : A0 → A1 → A2 → A3 → Option R} {r : R} (h : b4 o k = some r) : ∃ a0 a1 a2 a3, o = some (a0, a1, a2, a3) ∧ k a0 a1 a2 a3 = some r := by
  cases o with
  | none => cases h
  | some x =>
    obtain ⟨a0, a1, a2, a3⟩ := x
    exact ⟨a0, a1, a2, a3, rfl, h⟩
def b5 {A0 A1 A2 A3 A4 R : Type} (o : Option (A0 × A1 × A2 × A3 × A4)) (k : A0 → A1 → A2 → A3 → A4 → Option R) : Option R := match o with | none => none | some (a0, a1, a2, a3, a4) => k a0 a1 a2 a3 a4
theorem b5_some {A0 A1 A2 A3 A4 R : Type} {o : Option (A0 × A1 × A2 × A3 × A4)} {k : A0 → A1 → A2 → A3 → A4 → Option R} {r : R} (h : b5 o k = some r) : ∃ a0 a1 a2 a3 a4, o = some (a0, a1, a2, a3, a4) ∧ k a0 a1 a2 a3 a4 = some r := by
  cases o with
  | none => cases h
  | some x =>
    obtain ⟨a0, a1, a2, a3, a4⟩ := x
    exact ⟨a0, a1, a2, a3, a4, rfl, h⟩
def b6 {A0 A1 A2 A3 A4 A5 R : Type} (o : Option (A0 × A1 × A2 × A3 × A4 × A5)) (k : A0 → A1 → A2 → A3 → A4 → A5 → Option R) : Option R := match o with | none => none | some (a0, a1, a2, a3, a4, a5) => k a0 a1 a2 a3 a4 a5
theorem b6_some {A0 A1 A2 A3 A4 A5 R : Type} {o : Option (A0 × A1 × A2 × A3 × A4 × A5)} {k : A0 → A1 → A2 → A3 → A4 → A5 → Option R} {r : R} (h : b6 o k = some r) : ∃ a0 a1 a2 a3 a4 a5, o = some (a0, a1, a2, a3, a4, a5) ∧ k a0 a1 a2 a3 a4 a5 = some r := by
  cases o with
  | none => cases h
  | some x =>
    obtain ⟨a0, a1, a2, a3, a4, a5⟩ := x
    exact ⟨a0, a1, a2, a3, a4, a5, rfl, h⟩
def b7 {A0 A1 A2 A3 A4 A5 A6 R : Type} (o : Option (A0 × A1 × A2 × A3 × A4 × A5 × A6)) (k : A0 → A1 → A2 → A3 → A4 → A5 → A6 → Option R) : Option R := match o with | none => none | some (a0, a1, a2, a3, a4, a5, a6) => k a0 a1 a2 a3 a4 a5 a6
theorem b7_some {A0 A1 A2 A3 A4 A5 A6 R : Type} {o : Option (A0 × A1 × A2 × A3 × A4 × A5 × A6)} {k : A0 → A1 → A2 → A3 → A4 → A5 → A6 → Option R} {r : R} (h : b7 o k = some r) : ∃ a0 a1 a2 a3 a4 a5 a6, o = some (a0, a1, a2, a3, a4, a5, a6) ∧ k a0 a1 a2 a3 a4 a5 a6 = some r := by
  cases o with
  | none => cases h
  | some x =>
    obtain ⟨a0, a1, a2, a3, a4, a5, a6⟩ := x
    exact ⟨a0, a1, a2, a3, a4, a5, a6, rfl, h⟩
def b8 {A0 A1 A2 A3 A4 A5 A6 A7 R : Type} (o : Option (A0 × A1 × A2 × A3 × A4 × A5 × A6 × A7)) (k : A0 → A1 → A2 → A3 → A4 → A5 → A6 → A7 → Option R) : Option R := match o with | none => none | some (a0, a1, a2, a3, a4, a5, a6, a7) => k a0 a1 a2 a3 a4 a5 a6 a7
theorem b8_some {A0 A1 A2 A3 A4 A5 A6 A7 R : Type} {o : Option (A0 × A1 × A2 × A3 × A4 × A5 × A6 × A7)} {k : A0 → A1 → A2 → A3 → A4 → A5 → A6 → A7 → Option R} {r : R} (h : b8 o k = some r) : ∃ a0 a1 a2 a3 a4 a5 a6 a7, o = some (a0, a1, a2, a3, a4, a5, a6, a7) ∧ k a0 a1 a2 a3 a4 a5 a6 a7 = some r := by
  cases o with
  | none => cases h
  | some x =>
    obtain ⟨a0, a1, a2, a3, a4, a5, a6, a7⟩ := x
    exact ⟨a0, a1, a2, a3, a4, a5, a6, a7, rfl, h⟩
def b9 {A0 A1 A2 A3 A4 A5 A6 A7 A8 R : Type} (o : Option (A0 × A1 × A2 × A3 × A4 × A5 × A6 × A7 × A8)) (k : A0 → A1 → A2 → A3 → A4 → A5 → A6 → A7 → A8 → Option R) : Option R := match o with | none => none | some (a0, a1, a2, a3, a4, a5, a6, a7, a8) => k a0 a1 a2 a3 a4 a5 a6 a7 a8
theorem b9_some {A0 A1 A2 A3 A4 A5 A6 A7 A8 R : Type} {o : Option (A0 × A1 × A2 × A3 × A4 × A5 × A6 × A7 × A8)} {k : A0 → A1 → A2 → A3 → A4 → A5 → A6 → A7 → A8 → Option R} {r : R} (h : b9 o k = some r) : ∃ a0 a1 a2 a3 a4 a5 a6 a7 a8, o = some (a0, a1, a2, a3, a4, a5, a6, a7, a8) ∧ k a0 a1 a2 a3 a4 a5 a6 a7 a8 = some r := by
  cases o with
  | none => cases h
  | some x =>
    obtain ⟨a0, a1, a2, a3, a4, a5, a6, a7, a8⟩ := x
    exact ⟨a0, a1, a2, a3, a4, a5, a6, a7, a8, rfl, h⟩
def b10 {A0 A1 A2 A3 A4 A5 A6 A7 A8 A9 R : Type} (o : Option (A0 × A1 × A2 × A3 × A4 × A5 × A6 × A7 × A8 × A9)) (k : A0 → A1 → A2 → A3 → A4 → A5 → A6 → A7 → A8 → A9 → Option R) : Option R := match o with | none => none | some (a0, a1, a2, a3, a4, a5, a6, a7, a8, a9) => k a0 a1 a2 a3 a4 a5 a6 a7 a8 a9
theorem b10_some {A0 A1 A2 A3 A4 A5 A6 A7 A8 A9 R : Type} {o : Option (A0 × A1 × A2 × A3 × A4 × A5 × A6 × A7 × A8 × A9)} {k : A0 → A1 → A2 → A3 → A4 → A5 → A6 → A7 → A8 → A9 → Option R} {r : R} (h : b10 o k = some r) : ∃ a0 a1 a2 a3 a4 a5 a6 a7 a8 a9, o = some (a0, a1, a2, a3, a4, a5, a6, a7, a8, a9) ∧ k a0 a1 a2 a3 a4 a5 a6 a7 a8 a9 = some r := by
  cases o with
  | none => cases h
  | some x =>
    obtain ⟨a0, a1, a2, a3, a4, a5, a6, a7, a8, a9⟩ := x
    exact ⟨a0, a1, a2, a3, a4, a5, a6, a7, a8, a9, rfl, h⟩
theorem mk_pf (f : Nat → va_W) (is js : List Nat) (h : is.Perm js) : ((is.map f).flatten).Perm ((js.map f).flatten) := (h.map f).flatten
theorem mk_takeP {ws : va_W} {q : Nat} {x : Nat × va_E} (h : ws[q]? = some x) : ∃ a b, ws = a ++ (x :: b) ∧ a.length = q := by
  obtain ⟨h1, h2⟩ := List.getElem?_eq_some_iff.mp h
  refine ⟨ws.take q, ws.drop (q + 1), ?_, by simp; omega⟩
  rw [← h2]
  simp
theorem mk_Fr.put {ws ws' : va_W} {q : Nat} {a : Nat} {e0 e1 : va_E} (h : ws[q]? = some (a, e0)) (hw : ws.set q (a, e1) = ws') : mk_Fr ws [(a, e0)] [(a, e1)] ws' := by
  obtain ⟨u, v, rfl, hq⟩ := mk_takeP h
  subst hw
  refine ⟨u ++ v, ?_, ?_⟩
  · rw [List.append_assoc]
    refine List.Perm.append_left u ?_
    exact List.perm_append_comm (l₁ := [(a, e0)]) (l₂ := v)
  · rw [List.set_append_right _ _ (by omega), show q - u.length = 0 by omega, List.append_assoc]
    refine List.Perm.append_left u ?_
    exact List.perm_append_comm (l₁ := [(a, e1)]) (l₂ := v)
theorem mk_Fr.at {ws : va_W} {q : Nat} {a : Nat} {e0 : va_E} (h : ws[q]? = some (a, e0)) : mk_Fr ws [(a, e0)] [(a, e0)] ws := by
  refine mk_Fr.put h ?_
  obtain ⟨u, v, rfl, hq⟩ := mk_takeP h
  rw [List.set_append_right _ _ (by omega), show q - u.length = 0 by omega]
  rfl
section MKCALLS
variable {p : Program} {l : Launch} {e : Env} {R : Room} {s : State} {m : MethodId} {args : Array Value} {below : List Frame} {meth : Method} {c : Code} {D : va_G} {A : Nat → Prop} {nL : Nat} {Q : State → Prop} {pc : Nat} {ws : va_W} {lv : mk_L} {st : List Value} {cc : ByteArray} {own : String} {tys : List (ClassId × FieldType)} {X : Nat → Nat} {Y : mk_Y}
theorem mk_callVi (C : mk_Cx p s m args c cc nL own D tys X Y A) {y : MethodName} {cy : ByteArray} {nY index n : Nat} {ret : Option FieldType} {fr lo : Nat} {b ci : Nat} {fs : List Value} {rc : vw_C} {As stk : List Value} {wc w1 ws' : va_W} {r : Int32} (hM : mk_Met l y cy nY ret ({ frames := fr, cells := 0, slots := 0, locals := lo } : Room) D tys X Y (.ref b :: As) wc w1 (some (.int r)) 0 0) (h1 : Cond.methodLink own index y ∈ mk_WL) (h2 : Cond.instanceMethod y ∈ mk_WL) (h3 : Cond.selects y.cls y y ∈ mk_WL) (h4 : Cond.initialized y.cls ∈ mk_WL) (h5 : Cond.code y cy nY ret ∈ mk_WL) (hn : mk_nm y n) (hAs : As.length = n) (hR : fr + 1 ≤ R.frames ∧ 8 + (nY + 11) + lo ≤ R.locals) (q0 : Nat) (he : ws[q0]? = some (b, .inr (ci, fs))) (hc : vwCl[ci]? = some rc) (hr : rc.1 = y.cls) (hF : mk_Fr ws wc w1 ws') (hst : (st.map fun v => v.category).sum ≤ 8) (hdg : decode cc pc = .ok (.invokevirtual index, 3)) (hs : stk = As.reverse ++ .ref b :: st) (kk : mk_Go p l e R s m args below meth c D A nL 0 0 Q (pc + 3) ws' lv (.int r :: st)) : mk_Go p l e R s m args below meth c D A nL 0 0 Q pc ws lv stk :=
  mk_callV C hM h1 h2 h3 h4 h5 hn hAs hR ⟨rfl, rfl⟩ ⟨Nat.zero_le _, Nat.zero_le _⟩ q0 he hc hr hF hst hdg hs kk
theorem mk_callSi (C : mk_Cx p s m args c cc nL own D tys X Y A) {y : MethodName} {cy : ByteArray} {nY index n : Nat} {ret : Option FieldType} {fr lo : Nat} {As stk : List Value} {wc w1 ws' : va_W} {r : Int32} (hM : mk_Met l y cy nY ret ({ frames := fr, cells := 0, slots := 0, locals := lo } : Room) D tys X Y As wc w1 (some (.int r)) 0 0) (h1 : Cond.methodLink own index y ∈ mk_WL) (h2 : Cond.static y ∈ mk_WL) (h4 : Cond.initialized y.cls ∈ mk_WL) (h5 : Cond.code y cy nY ret ∈ mk_WL) (hn : mk_nm y n) (hAs : As.length = n) (hR : fr + 1 ≤ R.frames ∧ 8 + (nY + 11) + lo ≤ R.locals) (hF : mk_Fr ws wc w1 ws') (hst : (st.map fun v => v.category).sum ≤ 8) (hdg : decode cc pc = .ok (.invokestatic index, 3)) (hs : stk = As.reverse ++ st) (kk : mk_Go p l e R s m args below meth c D A nL 0 0 Q (pc + 3) ws' lv (.int r :: st)) : mk_Go p l e R s m args below meth c D A nL 0 0 Q pc ws lv stk :=
  mk_callS C hM h1 h2 h4 h5 hn hAs hR ⟨rfl, rfl⟩ ⟨Nat.zero_le _, Nat.zero_le _⟩ hF hst hdg hs kk
theorem mk_callNi (C : mk_Cx p s m args c cc nL own D tys X Y A) {y : MethodName} {cy : ByteArray} {nY index n : Nat} {ret : Option FieldType} {fr lo : Nat} {As stk : List Value} {wc w1 ws' : va_W} {r : Int32} (hM : mk_Met l y cy nY ret ({ frames := fr, cells := 0, slots := 0, locals := lo } : Room) D tys X Y As wc w1 (some (.int r)) 0 0) (h1 : (own, index, y) ∈ mk_nest) (h2 : Cond.static y ∈ mk_WL) (h4 : Cond.initialized y.cls ∈ mk_WL) (h5 : Cond.code y cy nY ret ∈ mk_WL) (hn : mk_nm y n) (hAs : As.length = n) (hR : fr + 1 ≤ R.frames ∧ 8 + (nY + 11) + lo ≤ R.locals) (hF : mk_Fr ws wc w1 ws') (hst : (st.map fun v => v.category).sum ≤ 8) (hdg : decode cc pc = .ok (.invokestatic index, 3)) (hs : stk = As.reverse ++ st) (kk : mk_Go p l e R s m args below meth c D A nL 0 0 Q (pc + 3) ws' lv (.int r :: st)) : mk_Go p l e R s m args below meth c D A nL 0 0 Q pc ws lv stk :=
  mk_callN C hM h1 h2 h4 h5 hn hAs hR ⟨rfl, rfl⟩ ⟨Nat.zero_le _, Nat.zero_le _⟩ hF hst hdg hs kk
theorem mk_callVl (C : mk_Cx p s m args c cc nL own D tys X Y A) {y : MethodName} {cy : ByteArray} {nY index n : Nat} {ret : Option FieldType} {fr lo : Nat} {b ci : Nat} {fs : List Value} {rc : vw_C} {As stk : List Value} {wc w1 ws' : va_W} {r : Int64} (hM : mk_Met l y cy nY ret ({ frames := fr, cells := 0, slots := 0, locals := lo } : Room) D tys X Y (.ref b :: As) wc w1 (some (.long r)) 0 0) (h1 : Cond.methodLink own index y ∈ mk_WL) (h2 : Cond.instanceMethod y ∈ mk_WL) (h3 : Cond.selects y.cls y y ∈ mk_WL) (h4 : Cond.initialized y.cls ∈ mk_WL) (h5 : Cond.code y cy nY ret ∈ mk_WL) (hn : mk_nm y n) (hAs : As.length = n) (hR : fr + 1 ≤ R.frames ∧ 8 + (nY + 11) + lo ≤ R.locals) (q0 : Nat) (he : ws[q0]? = some (b, .inr (ci, fs))) (hc : vwCl[ci]? = some rc) (hr : rc.1 = y.cls) (hF : mk_Fr ws wc w1 ws') (hst : (st.map fun v => v.category).sum ≤ 8) (hdg : decode cc pc = .ok (.invokevirtual index, 3)) (hs : stk = As.reverse ++ .ref b :: st) (kk : mk_Go p l e R s m args below meth c D A nL 0 0 Q (pc + 3) ws' lv (.long r :: st)) : mk_Go p l e R s m args below meth c D A nL 0 0 Q pc ws lv stk :=
  mk_callV C hM h1 h2 h3 h4 h5 hn hAs hR ⟨rfl, rfl⟩ ⟨Nat.zero_le _, Nat.zero_le _⟩ q0 he hc hr hF hst hdg hs kk
theorem mk_callSl (C : mk_Cx p s m args c cc nL own D tys X Y A) {y : MethodName} {cy : ByteArray} {nY index n : Nat} {ret : Option FieldType} {fr lo : Nat} {As stk : List Value} {wc w1 ws' : va_W} {r : Int64} (hM : mk_Met l y cy nY ret ({ frames := fr, cells := 0, slots := 0, locals := lo } : Room) D tys X Y As wc w1 (some (.long r)) 0 0) (h1 : Cond.methodLink own index y ∈ mk_WL) (h2 : Cond.static y ∈ mk_WL) (h4 : Cond.initialized y.cls ∈ mk_WL) (h5 : Cond.code y cy nY ret ∈ mk_WL) (hn : mk_nm y n) (hAs : As.length = n) (hR : fr + 1 ≤ R.frames ∧ 8 + (nY + 11) + lo ≤ R.locals) (hF : mk_Fr ws wc w1 ws') (hst : (st.map fun v => v.category).sum ≤ 8) (hdg : decode cc pc = .ok (.invokestatic index, 3)) (hs : stk = As.reverse ++ st) (kk : mk_Go p l e R s m args below meth c D A nL 0 0 Q (pc + 3) ws' lv (.long r :: st)) : mk_Go p l e R s m args below meth c D A nL 0 0 Q pc ws lv stk :=
  mk_callS C hM h1 h2 h4 h5 hn hAs hR ⟨rfl, rfl⟩ ⟨Nat.zero_le _, Nat.zero_le _⟩ hF hst hdg hs kk
theorem mk_callNl (C : mk_Cx p s m args c cc nL own D tys X Y A) {y : MethodName} {cy : ByteArray} {nY index n : Nat} {ret : Option FieldType} {fr lo : Nat} {As stk : List Value} {wc w1 ws' : va_W} {r : Int64} (hM : mk_Met l y cy nY ret ({ frames := fr, cells := 0, slots := 0, locals := lo } : Room) D tys X Y As wc w1 (some (.long r)) 0 0) (h1 : (own, index, y) ∈ mk_nest) (h2 : Cond.static y ∈ mk_WL) (h4 : Cond.initialized y.cls ∈ mk_WL) (h5 : Cond.code y cy nY ret ∈ mk_WL) (hn : mk_nm y n) (hAs : As.length = n) (hR : fr + 1 ≤ R.frames ∧ 8 + (nY + 11) + lo ≤ R.locals) (hF : mk_Fr ws wc w1 ws') (hst : (st.map fun v => v.category).sum ≤ 8) (hdg : decode cc pc = .ok (.invokestatic index, 3)) (hs : stk = As.reverse ++ st) (kk : mk_Go p l e R s m args below meth c D A nL 0 0 Q (pc + 3) ws' lv (.long r :: st)) : mk_Go p l e R s m args below meth c D A nL 0 0 Q pc ws lv stk :=
  mk_callN C hM h1 h2 h4 h5 hn hAs hR ⟨rfl, rfl⟩ ⟨Nat.zero_le _, Nat.zero_le _⟩ hF hst hdg hs kk
theorem mk_callVv (C : mk_Cx p s m args c cc nL own D tys X Y A) {y : MethodName} {cy : ByteArray} {nY index n : Nat} {ret : Option FieldType} {fr lo : Nat} {b ci : Nat} {fs : List Value} {rc : vw_C} {As stk : List Value} {wc w1 ws' : va_W} (hM : mk_Met l y cy nY ret ({ frames := fr, cells := 0, slots := 0, locals := lo } : Room) D tys X Y (.ref b :: As) wc w1 none 0 0) (h1 : Cond.methodLink own index y ∈ mk_WL) (h2 : Cond.instanceMethod y ∈ mk_WL) (h3 : Cond.selects y.cls y y ∈ mk_WL) (h4 : Cond.initialized y.cls ∈ mk_WL) (h5 : Cond.code y cy nY ret ∈ mk_WL) (hn : mk_nm y n) (hAs : As.length = n) (hR : fr + 1 ≤ R.frames ∧ 8 + (nY + 11) + lo ≤ R.locals) (q0 : Nat) (he : ws[q0]? = some (b, .inr (ci, fs))) (hc : vwCl[ci]? = some rc) (hr : rc.1 = y.cls) (hF : mk_Fr ws wc w1 ws') (hst : (st.map fun v => v.category).sum ≤ 8) (hdg : decode cc pc = .ok (.invokevirtual index, 3)) (hs : stk = As.reverse ++ .ref b :: st) (kk : mk_Go p l e R s m args below meth c D A nL 0 0 Q (pc + 3) ws' lv (st)) : mk_Go p l e R s m args below meth c D A nL 0 0 Q pc ws lv stk :=
  mk_callV C hM h1 h2 h3 h4 h5 hn hAs hR ⟨rfl, rfl⟩ ⟨Nat.zero_le _, Nat.zero_le _⟩ q0 he hc hr hF hst hdg hs kk
theorem mk_callSv (C : mk_Cx p s m args c cc nL own D tys X Y A) {y : MethodName} {cy : ByteArray} {nY index n : Nat} {ret : Option FieldType} {fr lo : Nat} {As stk : List Value} {wc w1 ws' : va_W} (hM : mk_Met l y cy nY ret ({ frames := fr, cells := 0, slots := 0, locals := lo } : Room) D tys X Y As wc w1 none 0 0) (h1 : Cond.methodLink own index y ∈ mk_WL) (h2 : Cond.static y ∈ mk_WL) (h4 : Cond.initialized y.cls ∈ mk_WL) (h5 : Cond.code y cy nY ret ∈ mk_WL) (hn : mk_nm y n) (hAs : As.length = n) (hR : fr + 1 ≤ R.frames ∧ 8 + (nY + 11) + lo ≤ R.locals) (hF : mk_Fr ws wc w1 ws') (hst : (st.map fun v => v.category).sum ≤ 8) (hdg : decode cc pc = .ok (.invokestatic index, 3)) (hs : stk = As.reverse ++ st) (kk : mk_Go p l e R s m args below meth c D A nL 0 0 Q (pc + 3) ws' lv (st)) : mk_Go p l e R s m args below meth c D A nL 0 0 Q pc ws lv stk :=
  mk_callS C hM h1 h2 h4 h5 hn hAs hR ⟨rfl, rfl⟩ ⟨Nat.zero_le _, Nat.zero_le _⟩ hF hst hdg hs kk
theorem mk_callNv (C : mk_Cx p s m args c cc nL own D tys X Y A) {y : MethodName} {cy : ByteArray} {nY index n : Nat} {ret : Option FieldType} {fr lo : Nat} {As stk : List Value} {wc w1 ws' : va_W} (hM : mk_Met l y cy nY ret ({ frames := fr, cells := 0, slots := 0, locals := lo } : Room) D tys X Y As wc w1 none 0 0) (h1 : (own, index, y) ∈ mk_nest) (h2 : Cond.static y ∈ mk_WL) (h4 : Cond.initialized y.cls ∈ mk_WL) (h5 : Cond.code y cy nY ret ∈ mk_WL) (hn : mk_nm y n) (hAs : As.length = n) (hR : fr + 1 ≤ R.frames ∧ 8 + (nY + 11) + lo ≤ R.locals) (hF : mk_Fr ws wc w1 ws') (hst : (st.map fun v => v.category).sum ≤ 8) (hdg : decode cc pc = .ok (.invokestatic index, 3)) (hs : stk = As.reverse ++ st) (kk : mk_Go p l e R s m args below meth c D A nL 0 0 Q (pc + 3) ws' lv (st)) : mk_Go p l e R s m args below meth c D A nL 0 0 Q pc ws lv stk :=
  mk_callN C hM h1 h2 h4 h5 hn hAs hR ⟨rfl, rfl⟩ ⟨Nat.zero_le _, Nat.zero_le _⟩ hF hst hdg hs kk
theorem mk_callEg (C : mk_Cx p s m args c cc nL own D tys X Y A) {y : MethodName} {cy : ByteArray} {nY index n : Nat} {ret : Option FieldType} {fr lo : Nat} {k : Nat} {As stk : List Value} {r : Int32} (hM : mk_Met l y cy nY ret ({ frames := fr, cells := 0, slots := 0, locals := lo } : Room) D tys X Y (.ref (X k) :: As) [] [] (some (.int r)) 0 0) (h1 : Cond.methodLink own index y ∈ mk_WL) (h2 : Cond.instanceMethod y ∈ mk_WL) (h3 : Cond.selects y.cls y y ∈ mk_WL) (h4 : Cond.initialized y.cls ∈ mk_WL) (h5 : Cond.code y cy nY ret ∈ mk_WL) (hn : mk_nm y n) (hAs : As.length = n) (hR : fr + 1 ≤ R.frames ∧ 8 + (nY + 11) + lo ≤ R.locals) (hy : y.cls = "java/lang/String") (hst : (st.map fun v => v.category).sum ≤ 8) (hdg : decode cc pc = .ok (.invokevirtual index, 3)) (hs : stk = As.reverse ++ .ref (X k) :: st) (kk : mk_Go p l e R s m args below meth c D A nL 0 0 Q (pc + 3) ws lv (.int r :: st)) : mk_Go p l e R s m args below meth c D A nL 0 0 Q pc ws lv stk := by
  subst hs
  intro H locs ls hP hD hS hl
  have hF := mk_Fr.nil ws
  have hp := mk_pre (av := .ref (X k) :: As) C hF hP hD hS
  refine mk_back C hF hP hD hS hl (va_runV (As := As) (rest := st) (C := y.cls) (n := n) C.1 (hM H.size) ⟨callB_of n C.1.2.2.2.2 (mk_good h5) rfl rfl rfl (C.1.2.2.2.2 _ h4) (C.1.2.2.2.2 _ h1) hn hR, C.1.2.2.2.2 _ h2, C.1.2.2.2.2 _ h3⟩ ⟨hp.1, ?_, hp.2⟩ rfl hAs hl.1 rfl (lv_room hst) hdg ⟨Nat.zero_le _, Nat.zero_le _⟩) kk
  rw [hy]
  exact mk_S.recv C.2.2.1.2.1 hS
theorem mk_callEi (C : mk_Cx p s m args c cc nL own D tys X Y A) {y : MethodName} {cy : ByteArray} {nY index n : Nat} {ret : Option FieldType} {fr lo : Nat} {k : Nat} {As stk : List Value} {r : Int32} (hM : mk_Met l y cy nY ret ({ frames := fr, cells := 0, slots := 0, locals := lo } : Room) D tys X Y (.ref (X k) :: As) [] [] (some (.int r)) 0 0) (h1 : Cond.methodLink own index y ∈ mk_WL) (h2 : Cond.instanceMethod y ∈ mk_WL) (h3 : Cond.selects y.cls y y ∈ mk_WL) (h4 : Cond.initialized y.cls ∈ mk_WL) (h5 : Cond.code y cy nY ret ∈ mk_WL) (hn : mk_nm y n) (hAs : As.length = n) (hR : fr + 1 ≤ R.frames ∧ 8 + (nY + 11) + lo ≤ R.locals) (_hk : k < 13) (hy : y.cls = "java/lang/String") (hst : (st.map fun v => v.category).sum ≤ 8) (hdg : decode cc pc = .ok (.invokevirtual index, 3)) (hs : stk = As.reverse ++ .ref (X k) :: st) (kk : mk_Go p l e R s m args below meth c D A nL 0 0 Q (pc + 3) ws lv (.int r :: st)) : mk_Go p l e R s m args below meth c D A nL 0 0 Q pc ws lv stk :=
  mk_callEg C hM h1 h2 h3 h4 h5 hn hAs hR hy hst hdg hs kk
end MKCALLS
