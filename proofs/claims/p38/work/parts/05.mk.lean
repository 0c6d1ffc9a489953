/-! MY OWN KIT: the walk's judgement with the world, the locals and the stack in it -/
abbrev mk_L : Type := List (Nat × Value)

/-- the words that a method has: its own code, and all that the law has -/
abbrev mk_ws (y : MethodName) (cc : ByteArray) (n : Nat) (ret : Option FieldType) : List Cond := .code y cc n ret :: mk_WL

/-! va_P and va_D by membership -/
theorem mk_P {D : va_G} {cl : List vw_C} {ws : va_W} {H : Heap} : va_P D cl ws H ↔ ∀ q ∈ ws, va_at D cl q H := by
  constructor
  · intro h q hq
    obtain ⟨k, hk⟩ := List.getElem?_of_mem hq
    exact h k q hk
  · intro h k q hk
    exact h q (List.mem_of_getElem? hk)
theorem mk_D {A : Nat → Prop} {ws : va_W} : va_D A ws ↔ (ws.map Prod.fst).Nodup ∧ ∀ q ∈ ws, A q.1 := by
  constructor
  · intro h
    refine ⟨?_, fun q hq => ?_⟩
    · refine List.pairwise_iff_getElem.mpr (fun i j hi hj hij e => ?_)
      have hj2 : j < ws.length := by simpa using hj
      have hi2 : i < ws.length := Nat.lt_trans hij hj2
      have := h.1 i j _ _ (List.getElem?_eq_getElem hi2) (List.getElem?_eq_getElem hj2) (by simpa using e)
      omega
    · obtain ⟨k, hk⟩ := List.getElem?_of_mem hq
      exact h.2 k q hk
  · intro h
    refine ⟨fun i j p q hi hj e => ?_, fun k q hk => h.2 q (List.mem_of_getElem? hk)⟩
    obtain ⟨hi2, hi3⟩ := List.getElem?_eq_some_iff.mp hi
    obtain ⟨hj2, hj3⟩ := List.getElem?_eq_some_iff.mp hj
    have hn := List.pairwise_iff_getElem.mp h.1
    rcases Nat.lt_trichotomy i j with g | g | g
    · exact absurd e (fun e => hn i j (by simpa using hi2) (by simpa using hj2) g (by rw [List.getElem_map, List.getElem_map, hi3, hj3]; exact e))
    · exact g
    · exact absurd e (fun e => hn j i (by simpa using hj2) (by simpa using hi2) g (by rw [List.getElem_map, List.getElem_map, hi3, hj3]; exact e.symm))
/-- a callee's cells wc among the caller's ws; behind the call wc are w1, ws are ws' -/
def mk_Fr (ws wc w1 ws' : va_W) : Prop := ∃ wr : va_W, ws.Perm (wr ++ wc) ∧ ws'.Perm (wr ++ w1)
theorem mk_Fr.all (ws w1 : va_W) : mk_Fr ws ws w1 w1 := ⟨[], by simp, by simp⟩
theorem mk_Fr.nil (ws : va_W) : mk_Fr ws [] [] ws := ⟨ws, by simp, by simp⟩
theorem mk_Fr.mid (a b c b1 : va_W) : mk_Fr (a ++ (b ++ c)) b b1 (a ++ (b1 ++ c)) :=
  ⟨a ++ c, by rw [List.append_assoc]; exact List.Perm.append_left a List.perm_append_comm, by rw [List.append_assoc]; exact List.Perm.append_left a List.perm_append_comm⟩
theorem mk_Fr.last (a b b1 : va_W) : mk_Fr (a ++ b) b b1 (a ++ b1) := ⟨a, List.Perm.refl _, List.Perm.refl _⟩
theorem mk_Fr.first (b c b1 : va_W) : mk_Fr (b ++ c) b b1 (b1 ++ c) := ⟨c, List.perm_append_comm, List.perm_append_comm⟩
theorem mk_Fr.perm {ws wc w1 ws' vs vs' : va_W} (h : mk_Fr vs wc w1 vs') (h1 : ws.Perm vs) (h2 : ws'.Perm vs') : mk_Fr ws wc w1 ws' := by
  obtain ⟨wr, a, b⟩ := h
  exact ⟨wr, h1.trans a, h2.trans b⟩
theorem mk_D.perm {A : Nat → Prop} {ws vs : va_W} (h : va_D A ws) (hp : ws.Perm vs) : va_D A vs := by
  rw [mk_D] at h ⊢
  exact ⟨((hp.map Prod.fst).nodup_iff).mp h.1, fun q hq => h.2 q (hp.mem_iff.mpr hq)⟩
theorem mk_P.perm {D : va_G} {cl : List vw_C} {ws vs : va_W} {H : Heap} (h : va_P D cl ws H) (hp : ws.Perm vs) : va_P D cl vs H := by
  rw [mk_P] at h ⊢
  exact fun q hq => h q (hp.mem_iff.mpr hq)
theorem mk_D.right {A : Nat → Prop} {a b : va_W} (h : va_D A (a ++ b)) : va_D A b := by
  rw [mk_D] at h ⊢
  rw [List.map_append, List.nodup_append] at h
  exact ⟨h.1.2.1, fun q hq => h.2 q (List.mem_append_right _ hq)⟩
theorem mk_P.right {D : va_G} {cl : List vw_C} {a b : va_W} {H : Heap} (h : va_P D cl (a ++ b) H) : va_P D cl b H := by
  rw [mk_P] at h ⊢
  exact fun q hq => h q (List.mem_append_right _ hq)
theorem mk_A {ws : va_W} {sz q : Nat} : va_A ws sz q ↔ (∃ x ∈ ws, x.1 = q) ∨ sz ≤ q := by
  unfold va_A
  constructor
  · rintro (⟨k, e, h⟩ | h)
    · exact Or.inl ⟨(q, e), List.mem_of_getElem? h, rfl⟩
    · exact Or.inr h
  · rintro (⟨x, h, rfl⟩ | h)
    · obtain ⟨k, hk⟩ := List.getElem?_of_mem h
      exact Or.inl ⟨k, x.2, hk⟩
    · exact Or.inr h
/-- behind a call: the rest, which stays, and what came back -/
theorem mk_join {A : Nat → Prop} {D : va_G} {cl : List vw_C} {ws wc w1 ws' : va_W} {H H1 : Heap} (hF : mk_Fr ws wc w1 ws') (hP : va_P D cl ws H) (hD : va_D A ws) (hf : ∀ q, va_A wc H.size q → A q)
    (hk : ∀ q : Nat, q < H.size → ¬ va_A wc H.size q → H1[q]? = H[q]?) (hP1 : va_P D cl w1 H1) (hD1 : va_D (va_A wc H.size) w1) : va_P D cl ws' H1 ∧ va_D A ws' := by
  obtain ⟨wr, p1, p2⟩ := hF
  have hP := mk_P.perm hP p1
  have hD := mk_D.perm hD p1
  rw [mk_P] at hP hP1
  rw [mk_D] at hD hD1
  have key : ∀ q ∈ wr, q.1 < H.size ∧ ¬ va_A wc H.size q.1 := by
    intro q hq
    have hl := (hP q (List.mem_append_left _ hq)).lt
    refine ⟨hl, fun h => ?_⟩
    rcases mk_A.mp h with ⟨x, hx, e⟩ | h
    · have hn := hD.1
      rw [List.map_append, List.nodup_append] at hn
      exact hn.2.2 q.1 (List.mem_map.mpr ⟨q, hq, rfl⟩) x.1 (List.mem_map.mpr ⟨x, hx, rfl⟩) e.symm
    · omega
  have hn := hD.1
  rw [List.map_append, List.nodup_append] at hn
  refine ⟨mk_P.perm (mk_P.mpr (fun q hq => ?_)) p2.symm, mk_D.perm (mk_D.mpr ⟨?_, fun q hq => ?_⟩) p2.symm⟩
  · rcases List.mem_append.mp hq with h | h
    · exact (hP q (List.mem_append_left _ h)).kept (hk q.1 (key q h).1 (key q h).2)
    · exact hP1 q h
  · rw [List.map_append, List.nodup_append]
    refine ⟨hn.1, hD1.1, fun a ha b hb e => ?_⟩
    obtain ⟨x, hx, rfl⟩ := List.mem_map.mp ha
    obtain ⟨y, hy, rfl⟩ := List.mem_map.mp hb
    exact (key x hx).2 (by rw [e]; exact hD1.2 y hy)
  · rcases List.mem_append.mp hq with h | h
    · exact hD.2 q (List.mem_append_left _ h)
    · exact hf _ (hD1.2 q h)
theorem mk_Fr.P {ws wc w1 ws' : va_W} (hF : mk_Fr ws wc w1 ws') {D : va_G} {cl : List vw_C} {H : Heap} (hP : va_P D cl ws H) : va_P D cl wc H := by
  obtain ⟨wr, p1, -⟩ := hF
  exact mk_P.right (mk_P.perm hP p1)
theorem mk_Fr.D {ws wc w1 ws' : va_W} (hF : mk_Fr ws wc w1 ws') {A : Nat → Prop} (hD : va_D A ws) : va_D A wc := by
  obtain ⟨wr, p1, -⟩ := hF
  exact mk_D.right (mk_D.perm hD p1)
theorem mk_Fr.free {ws wc w1 ws' : va_W} (hF : mk_Fr ws wc w1 ws') {A : Nat → Prop} {H0 H : Heap} {locs : List Loc} (hD : va_D A ws) (hS : va_S A H0 H locs) (hA : ∀ q, H0.size ≤ q → A q) : ∀ q, va_A wc H.size q → A q := by
  intro q h
  rcases mk_A.mp h with ⟨x, hx, rfl⟩ | h
  · exact (mk_D.mp (hF.D hD)).2 x hx
  · exact hA q (Nat.le_trans hS.1 h)
/-! what every method may rely on: links between nest mates, the string constants (and strings that were made before the call), the script, the JDK's statics -/
abbrev mk_Sd : Type := Nat × Nat × (Nat → Nat)
abbrev mk_Y : Type := (Nat → mk_Sd) × (Nat × Nat × (Nat → Int32))
def mk_nest : List (String × Nat × MethodName) := [(RX8, 9, yX5_init), (RX5, 11, yX7_init), (RX5, 20, yX3_init), (RX8, 28, yX4_init), (RX4, 11, yX3_init), (RX4, 20, yX6_init), (RX4, 31, yX1_init), (RX8, 46, yX1_init), (RX8, 52, yX0_init), (RX8, 59, yX2_init), (RX7, 19, yX8_put), (RX5, 139, yX8_at), (RX3, 64, yX8_put), (RX3, 52, yX8_at), (RX4, 99, yX8_at), (RX4, 127, yX8_put), (RX1, 61, yX8_put), (RX6, 25, yX8_put), (RX6, 29, yX8_at), (RX1, 65, yX8_at), (RX0, 22, yX8_put), (RX0, 26, yX8_at)]
def mk_nestF : List (Nat × String × String) := [(116, "law", "I"), (34, "slots", "I"), (28, "senders", "I"), (109, "noises", "I"), (41, "when", "[I"), (82, "bits", "[Ljava/lang/String;"), (96, "text", "Ljava/lang/String;")]
def mk_txt : List String := ["channel", "law", "slots", "skips", "window", "sender", "at", "bits", "noise", "as", "none", "one", "many", "channel law ", " slots ", " skips ", " window ", ";", "", "sender at ", " bits ", "noise at ", " as "]
def mk_lits : List (String × Nat × Nat) := [(RX5, 51, 0), (RX5, 74, 1), (RX5, 88, 2), (RX5, 92, 3), (RX5, 96, 4), (RX5, 64, 5), (RX5, 106, 6), (RX5, 108, 7), (RX5, 69, 8), (RX5, 126, 9), (RX5, 143, 10), (RX5, 145, 11), (RX5, 147, 12), (RX9, 47, 13), (RX9, 56, 14), (RX9, 58, 15), (RX9, 60, 16), (RX9, 62, 17), (RX9, 72, 18), (RX9, 74, 19), (RX9, 76, 20), (RX9, 78, 21), (RX9, 80, 22), (RX9, 82, 10), (RX9, 84, 11), (RX9, 86, 12)]
def mk_len : List Nat := [7, 3, 5, 5, 6, 6, 2, 4, 5, 2, 4, 3, 4, 12, 7, 7, 8, 1, 0, 10, 6, 9, 4]
def mk_byt : List (List Int32) := [[99, 104, 97, 110, 110, 101, 108], [108, 97, 119], [115, 108, 111, 116, 115], [115, 107, 105, 112, 115], [119, 105, 110, 100, 111, 119], [115, 101, 110, 100, 101, 114], [97, 116], [98, 105, 116, 115], [110, 111, 105, 115, 101], [97, 115], [110, 111, 110, 101], [111, 110, 101], [109, 97, 110, 121], [99, 104, 97, 110, 110, 101, 108, 32, 108, 97, 119, 32], [32, 115, 108, 111, 116, 115, 32], [32, 115, 107, 105, 112, 115, 32], [32, 119, 105, 110, 100, 111, 119, 32], [59], [], [115, 101, 110, 100, 101, 114, 32, 97, 116, 32], [32, 98, 105, 116, 115, 32], [110, 111, 105, 115, 101, 32, 97, 116, 32], [32, 97, 115, 32]]
abbrev mk_TY (cI cJ cB cZ cS : ClassId) : List (ClassId × FieldType) := [(cI, .int), (cJ, .long), (cB, .byte), (cZ, .boolean), (cS, .object "java/lang/String")]
/-- one string: its object at x, its row at y.1, y.2.1 letters y.2.2, all below 128 -/
def mk_Sp (y : mk_Sd) : Prop := y.2.1 ≤ 1000 ∧ ∀ j, j < y.2.1 → y.2.2 j < 128
def mk_S1 (x : Nat) (y : mk_Sd) (A : Nat → Prop) (U : State) (H : Heap) : Prop := va_O "java/lang/String" x A U H ∧ va_OF "java/lang/String" "coder" "B" (.int 0) x A U H ∧ va_OF "java/lang/String" "value" "[B" (.ref y.1) x A U H ∧ va_T .byte y.1 y.2.1 (fun j => .int (nI (y.2.2 j))) A U H
theorem mk_S1.moved {x : Nat} {y : mk_Sd} {A : Nat → Prop} {u U : State} {H : Heap} (hvm : u.vm.Alike U.vm) (h : mk_S1 x y A u H) : mk_S1 x y A U H :=
  ⟨va_O.moved hvm h.1, va_OF.moved hvm h.2.1, va_OF.moved hvm h.2.2.1, va_T.moved hvm h.2.2.2⟩
theorem mk_S1.kept {x : Nat} {y : mk_Sd} {A : Nat → Prop} {U : State} {H H1 : Heap} (h : mk_S1 x y A U H) (hq : ∀ a : Nat, a < H.size → ¬ A a → H1[a]? = H[a]?) : mk_S1 x y A U H1 :=
  ⟨h.1.kept hq, h.2.1.kept hq, h.2.2.1.kept hq, h.2.2.2.kept hq⟩
theorem mk_S1.narrow {x : Nat} {y : mk_Sd} {A B : Nat → Prop} {U : State} {H : Heap} (h : mk_S1 x y A U H) (hAB : ∀ q, B q → A q) : mk_S1 x y B U H :=
  ⟨h.1.narrow hAB, h.2.1.narrow hAB, h.2.2.1.narrow hAB, h.2.2.2.narrow hAB⟩
def mk_S (X : Nat → Nat) (Y : mk_Y) (A : Nat → Prop) (U : State) (H : Heap) : Prop := ∀ k : Nat, mk_S1 (X k) (Y.1 k) A U H
theorem mk_S.recv {X : Nat → Nat} {Y : mk_Y} {A : Nat → Prop} {s : State} {H : Heap} {locs : List Loc} {k : Nat} (hE : mk_S X Y A s s.heap) (hS : va_S A s.heap H locs) : ∃ cell : Cell, H[X k]? = some cell ∧ cell.vm.isStatics = false ∧ s.vm.findClass "java/lang/String" = some cell.cls := by
  obtain ⟨cell, h1, h2, h3, -⟩ := (hE k).1.kept hS.2.1
  exact ⟨cell, h1, h2, h3⟩
/-- the letters are as the constants have them -/
def mk_Pu (Y : mk_Y) : Prop := (∀ k : Nat, mk_Sp (Y.1 k)) ∧ ∀ k : Nat, k < 23 → (Y.1 k).2.1 = mk_len.getD k 0 ∧ ∀ j : Nat, j < mk_len.getD k 0 → nI ((Y.1 k).2.2 j) = (mk_byt.getD k []).getD j 0
/-- a static row of the JDK -/
def mk_Dg (n : String) (f : Nat → Nat) (A : Nat → Prop) (U : State) (H : Heap) : Prop := ∃ t : Nat, va_Z "java/lang/Integer" n "[B" (.ref t) A U H ∧ va_T .byte t 100 (fun j => .int (nI (f j))) A U H
theorem mk_Dg.moved {n : String} {f : Nat → Nat} {A : Nat → Prop} {u U : State} {H : Heap} (hvm : u.vm.Alike U.vm) (h : mk_Dg n f A u H) : mk_Dg n f A U H := by
  obtain ⟨t, a, b⟩ := h
  exact ⟨t, a.moved hvm, b.moved hvm⟩
theorem mk_Dg.kept {n : String} {f : Nat → Nat} {A : Nat → Prop} {U : State} {H H1 : Heap} (h : mk_Dg n f A U H) (hq : ∀ a : Nat, a < H.size → ¬ A a → H1[a]? = H[a]?) : mk_Dg n f A U H1 := by
  obtain ⟨t, a, b⟩ := h
  exact ⟨t, a.kept hq, b.kept hq⟩
theorem mk_Dg.narrow {n : String} {f : Nat → Nat} {A B : Nat → Prop} {U : State} {H : Heap} (h : mk_Dg n f A U H) (hAB : ∀ q, B q → A q) : mk_Dg n f B U H := by
  obtain ⟨t, a, b⟩ := h
  exact ⟨t, a.narrow hAB, b.narrow hAB⟩
/-- the script, read alone -/
def mk_Scr (y : Nat × Nat × (Nat → Int32)) (A : Nat → Prop) (U : State) (H : Heap) : Prop := va_X y.1 y.2.1 y.2.2 U H ∧ y.1 < H.size ∧ ¬ A y.1
theorem mk_Scr.kept {y : Nat × Nat × (Nat → Int32)} {A : Nat → Prop} {U : State} {H H1 : Heap} (h : mk_Scr y A U H) (hq : ∀ a : Nat, a < H.size → ¬ A a → H1[a]? = H[a]?) : mk_Scr y A U H1 := by
  obtain ⟨a, b, d⟩ := h
  have e := hq y.1 b d
  refine ⟨a.kept e, ?_, d⟩
  obtain ⟨scr, h1, -⟩ := a
  rw [h1] at e
  exact (Array.getElem?_eq_some_iff.mp e).1
def mk_Sts (A : Nat → Prop) (U : State) (H : Heap) : Prop := va_Z "java/lang/String" "COMPACT_STRINGS" "Z" (.int 1) A U H ∧ va_Zq "jdk/internal/util/Preconditions" "SIOOBE_FORMATTER" "Ljava/util/function/BiFunction;" A U H ∧ mk_Dg "DigitOnes" (fun j => 48 + j % 10) A U H ∧ mk_Dg "DigitTens" (fun j => 48 + j / 10) A U H
def mk_Wds (X : Nat → Nat) (U : State) : Prop := (∀ w ∈ mk_nest, va_Nw (.methodLinkNest w.1 w.2.1 w.2.2 RX8) U) ∧ va_Nw (.methodLinkNest RX9 7 yL_cell RL) U ∧ (∀ w ∈ mk_nestF, va_Nw (.fieldLinkNest RL w.1 RX9 w.2.1 w.2.2 RL) U) ∧ (∀ w ∈ mk_lits, vk_R w.1 w.2.1 (mk_txt.getD w.2.2 "") (X w.2.2) U) ∧ va_AO "java/lang/String" U ∧ va_Nw (.castable "[B" "java/lang/Cloneable") U
def mk_Amb (X : Nat → Nat) (Y : mk_Y) (A : Nat → Prop) (U : State) (H : Heap) : Prop := mk_Wds X U ∧ mk_S X Y A U H ∧ mk_Pu Y ∧ mk_Scr Y.2 A U H ∧ mk_Sts A U H
theorem mk_Sts.moved {A : Nat → Prop} {u U : State} {H : Heap} (hvm : u.vm.Alike U.vm) (h : mk_Sts A u H) : mk_Sts A U H := ⟨h.1.moved hvm, h.2.1.moved hvm, h.2.2.1.moved hvm, h.2.2.2.moved hvm⟩
theorem mk_Sts.kept {A : Nat → Prop} {U : State} {H H1 : Heap} (h : mk_Sts A U H) (hq : ∀ a : Nat, a < H.size → ¬ A a → H1[a]? = H[a]?) : mk_Sts A U H1 := ⟨h.1.kept hq, h.2.1.kept hq, h.2.2.1.kept hq, h.2.2.2.kept hq⟩
theorem mk_Sts.narrow {A B : Nat → Prop} {U : State} {H : Heap} (h : mk_Sts A U H) (hAB : ∀ q, B q → A q) : mk_Sts B U H := ⟨h.1.narrow hAB, h.2.1.narrow hAB, h.2.2.1.narrow hAB, h.2.2.2.narrow hAB⟩
theorem mk_Wds.same {X : Nat → Nat} {u U : State} (hv : U.vm = u.vm) (h : mk_Wds X u) : mk_Wds X U :=
  ⟨fun w hw => va_Nw.same rfl hv.symm (h.1 w hw), va_Nw.same rfl hv.symm h.2.1, fun w hw => va_Nw.same rfl hv.symm (h.2.2.1 w hw), fun w hw => (h.2.2.2.1 w hw).same hv, h.2.2.2.2.1.moved (by rw [hv]; exact Vm.Alike.refl _), va_Nw.same rfl hv.symm h.2.2.2.2.2⟩
theorem mk_Wds.warm {X : Nat → Nat} {s U : State} (hW : s.WarmedH U.vm) (h : mk_Wds X s) : mk_Wds X U :=
  ⟨fun w hw => (h.1 w hw).warmM hW, h.2.1.warmM hW, fun w hw => (h.2.2.1 w hw).warmF hW, fun w hw => (h.2.2.2.1 w hw).warm hW, h.2.2.2.2.1.moved hW.alike, h.2.2.2.2.2.warmC hW⟩
theorem mk_Amb.same {X : Nat → Nat} {Y : mk_Y} {A : Nat → Prop} {u U : State} {H : Heap} (hv : U.vm = u.vm) (h : mk_Amb X Y A u H) : mk_Amb X Y A U H :=
  ⟨h.1.same hv, fun k => (h.2.1 k).moved (by rw [hv]; exact Vm.Alike.refl _), h.2.2.1, ⟨h.2.2.2.1.1.moved (by rw [hv]; exact Vm.Alike.refl _), h.2.2.2.1.2⟩, h.2.2.2.2.moved (by rw [hv]; exact Vm.Alike.refl _)⟩
theorem mk_Amb.warm {X : Nat → Nat} {Y : mk_Y} {A : Nat → Prop} {s U : State} {H : Heap} (hW : s.WarmedH U.vm) (h : mk_Amb X Y A s H) : mk_Amb X Y A U H :=
  ⟨h.1.warm hW, fun k => (h.2.1 k).moved hW.alike, h.2.2.1, ⟨h.2.2.2.1.1.moved hW.alike, h.2.2.2.1.2⟩, h.2.2.2.2.moved hW.alike⟩
theorem mk_Amb.kept {X : Nat → Nat} {Y : mk_Y} {A : Nat → Prop} {U : State} {H H1 : Heap} (h : mk_Amb X Y A U H) (hq : ∀ a : Nat, a < H.size → ¬ A a → H1[a]? = H[a]?) : mk_Amb X Y A U H1 :=
  ⟨h.1, fun k => (h.2.1 k).kept hq, h.2.2.1, h.2.2.2.1.kept hq, h.2.2.2.2.kept hq⟩
theorem mk_Amb.narrow {X : Nat → Nat} {Y : mk_Y} {A B : Nat → Prop} {U : State} {H : Heap} (h : mk_Amb X Y A U H) (hAB : ∀ q, B q → A q) : mk_Amb X Y B U H :=
  ⟨h.1, fun k => (h.2.1 k).narrow hAB, h.2.2.1, ⟨h.2.2.2.1.1, h.2.2.2.1.2.1, fun z => h.2.2.2.1.2.2 (hAB _ z)⟩, h.2.2.2.2.narrow hAB⟩
/-! contracts: the answer and the world behind are told outright -/
def mk_Pc (av : List Value) (D : va_G) (tys : List (ClassId × FieldType)) (X : Nat → Nat) (Y : mk_Y) (ws0 : va_W) (sz : Nat) : Array Value → State → Prop :=
  va_Pc av (fun U => U.heap.size = sz ∧ va_P D vwCl ws0 U.heap ∧ va_K D vwCl tys U ∧ va_D (fun _ => True) ws0 ∧ mk_Amb X Y (va_A ws0 sz) U U.heap)
def mk_Q (res : Option Value) (D : va_G) (w1 : va_W) (A : Nat → Prop) : Array Value → State → Outcome → State → Prop := fun _ st oc t => (oc = .returned res ∧ va_P D vwCl w1 t.heap ∧ va_D A w1) ∧ va_F A st t
def mk_Met (l : Launch) (y : MethodName) (cc : ByteArray) (nL : Nat) (ret : Option FieldType) (rm : Room) (D : va_G) (tys : List (ClassId × FieldType)) (X : Nat → Nat) (Y : mk_Y) (av : List Value) (ws0 w1 : va_W) (res : Option Value) (mc ms : Nat) : Prop :=
  ∀ sz : Nat, Met l y (mk_ws y cc nL ret) rm (mk_Pc av D tys X Y ws0 sz) (mk_Q res D w1 (va_A ws0 sz)) mc ms (va_A ws0 sz)
theorem mk_Pc.blind {av : List Value} {D : va_G} {tys : List (ClassId × FieldType)} {X : Nat → Nat} {Y : mk_Y} {ws0 : va_W} {sz : Nat} : FrameBlind (mk_Pc av D tys X Y ws0 sz) := by
  intro a U g mk h
  obtain ⟨q0, q1, q2, q3, q4, q5⟩ := h
  exact ⟨q0, q1, q2, va_K.moved (u := U) (U := U.calling g mk a) (Vm.Alike.refl U.vm) q3, q4, q5.same (u := U) (U := U.calling g mk a) rfl⟩
/-- the context of a method's walk -/
def mk_Cx (p : Program) (s : State) (m : MethodId) (args : Array Value) (c : Code) (cc : ByteArray) (nL : Nat) (own : String) (D : va_G) (tys : List (ClassId × FieldType)) (X : Nat → Nat) (Y : mk_Y) (A : Nat → Prop) : Prop :=
  CallFix p m c cc nL s args mk_WL own ∧ va_K D vwCl tys s ∧ mk_Amb X Y A s s.heap ∧ (∀ q, s.heap.size ≤ q → A q)
/-- the walk's judgement -/
def mk_Go (p : Program) (l : Launch) (e : Env) (R : Room) (s : State) (m : MethodId) (args : Array Value) (below : List Frame) (meth : Method) (c : Code) (D : va_G) (A : Nat → Prop) (nL cells slots : Nat) (Q : State → Prop) (pc : Nat) (ws : va_W) (lv : mk_L) (st : List Value) : Prop :=
  ∀ (H : Heap) (locs : List Loc) (ls : Array Slot), va_P D vwCl ws H → va_D A ws → va_S A s.heap H locs → lv_has ls nL lv → W p l e R s m args below meth c H locs cells slots Q (F0 m pc ls st)
/-- a method's proof begins -/
theorem mk_start {l : Launch} {y : MethodName} {cc : ByteArray} {nL : Nat} {ret : Option FieldType} {rm : Room} {D : va_G} {tys : List (ClassId × FieldType)} {X : Nat → Nat} {Y : mk_Y} {av : List Value} {ws0 w1 : va_W} {res : Option Value} {mc ms : Nat} {own : String}
    (hy : plainName y.cls = true) (ho : y.cls = own) (hav : (lg_sl av).length ≤ nL)
    (body : ∀ (sz : Nat) (p : Program) (e : Env) (s : State) (m : MethodId) (args : Array Value) (below : List Frame) (meth : Method) (c : Code) (A : Nat → Prop), mk_Cx p s m args c cc nL own D tys X Y A → meth.sig.returnType = ret → meth.locks = false → meth.name = y.name →
      mk_Go p l e (headSpec (mk_ws y cc nL ret) rm).room s m args below meth c D A nL 0 0 (MQ below (mk_Q res D w1 A) args s mc ms A) 0 ws0 (lv_args 0 av) []) :
    mk_Met l y cc nL ret rm D tys X Y av ws0 w1 res mc ms := by
  intro sz
  refine Met.ofW (cc := cc) (maxL := nL) (ret := ret) hy rfl ?_
  intro p e s m args below meth c s₁ B hml hv
  obtain ⟨rfl, hsz, hP, hK, hD0, hE⟩ := hv
  have hown : s.vm.findClass own = some m.cls := by rw [← ho]; exact findClass_of_methodNamed B.named
  subst hsz
  have hD := hD0.self (sz := s.heap.size)
  have hA : ∀ q : Nat, s.heap.size ≤ q → va_A ws0 s.heap.size q := fun q h => Or.inr h
  have hl := lv_entry av (n := nL) hav
  rw [lg_entry_eq]
  exact body s.heap.size p e s m _ below meth c _ ⟨⟨B.exec, B.bytes, hml, hown, fun w hw => atoms_spec (ws := mk_ws y cc nL ret) B.pre w (List.mem_cons_of_mem _ hw)⟩, hK, hE, hA⟩ B.returns B.notSynchronized (name_of_methodNamed B.named B.method).1 s.heap [] _ hP hD va_S.rf hl
section MKROWS
variable {p : Program} {l : Launch} {e : Env} {R : Room} {s : State} {m : MethodId} {args : Array Value} {below : List Frame} {meth : Method} {c : Code} {D : va_G} {A : Nat → Prop} {nL cells slots : Nat} {Q : State → Prop} {pc : Nat} {ws : va_W} {lv : mk_L} {st : List Value} {cc : ByteArray} {own : String} {tys : List (ClassId × FieldType)} {X : Nat → Nat} {Y : mk_Y}
theorem mk_lvsub (ks : List Nat) {lv' : mk_L} (h : lv_pick lv ks = lv') (kk : mk_Go p l e R s m args below meth c D A nL cells slots Q pc ws lv' st) : mk_Go p l e R s m args below meth c D A nL cells slots Q pc ws lv st :=
  fun H locs ls hP hD hS hl => kk H locs ls hP hD hS (lv_sub hl ks h)
theorem mk_weq {ws' : va_W} (h : ws = ws') (kk : mk_Go p l e R s m args below meth c D A nL cells slots Q pc ws' lv st) : mk_Go p l e R s m args below meth c D A nL cells slots Q pc ws lv st := h ▸ kk
theorem mk_topi {x y : Int32} (h : x = y) (kk : mk_Go p l e R s m args below meth c D A nL cells slots Q pc ws lv (.int y :: st)) : mk_Go p l e R s m args below meth c D A nL cells slots Q pc ws lv (.int x :: st) := h ▸ kk
theorem mk_iconst (C : mk_Cx p s m args c cc nL own D tys X Y A) {n : Int} {v : Int32} (hdg : decode cc pc = .ok (.iconst n, 1)) (hv : Int32.ofInt n = v) (kk : mk_Go p l e R s m args below meth c D A nL cells slots Q (pc + 1) ws lv (.int v :: st)) : mk_Go p l e R s m args below meth c D A nL cells slots Q pc ws lv (st) :=
  fun H locs ls hP hD hS hl => lv_iconst C.1.1 C.1.2.1 hdg hv (kk H locs ls hP hD hS hl)
theorem mk_bipush (C : mk_Cx p s m args c cc nL own D tys X Y A) {n : Int} {v : Int32} (hdg : decode cc pc = .ok (.bipush n, 2)) (hv : (Int8.ofInt n).toInt32 = v) (kk : mk_Go p l e R s m args below meth c D A nL cells slots Q (pc + 2) ws lv (.int v :: st)) : mk_Go p l e R s m args below meth c D A nL cells slots Q pc ws lv (st) :=
  fun H locs ls hP hD hS hl => lv_bipush C.1.1 C.1.2.1 hdg hv (kk H locs ls hP hD hS hl)
theorem mk_sipush (C : mk_Cx p s m args c cc nL own D tys X Y A) {n : Int} {v : Int32} (hdg : decode cc pc = .ok (.sipush n, 3)) (hv : (Int16.ofInt n).toInt32 = v) (kk : mk_Go p l e R s m args below meth c D A nL cells slots Q (pc + 3) ws lv (.int v :: st)) : mk_Go p l e R s m args below meth c D A nL cells slots Q pc ws lv (st) :=
  fun H locs ls hP hD hS hl => lv_sipush C.1.1 C.1.2.1 hdg hv (kk H locs ls hP hD hS hl)
theorem mk_lconst (C : mk_Cx p s m args c cc nL own D tys X Y A) {n : Fin 2} {v : Int64} (hdg : decode cc pc = .ok (.lconst n, 1)) (hv : Int64.ofNat (n : Nat) = v) (kk : mk_Go p l e R s m args below meth c D A nL cells slots Q (pc + 1) ws lv (.long v :: st)) : mk_Go p l e R s m args below meth c D A nL cells slots Q pc ws lv (st) :=
  fun H locs ls hP hD hS hl => lv_lconst C.1.1 C.1.2.1 hdg hv (kk H locs ls hP hD hS hl)
theorem mk_iload_n (C : mk_Cx p s m args c cc nL own D tys X Y A) {k : Fin 4} {x : Int32} (j : Nat) (hdg : decode cc pc = .ok (.iload_n k, 1)) (hj : lv[j]? = some ((k : Nat), .int x)) (kk : mk_Go p l e R s m args below meth c D A nL cells slots Q (pc + 1) ws lv (.int x :: st)) : mk_Go p l e R s m args below meth c D A nL cells slots Q pc ws lv st :=
  fun H locs ls hP hD hS hl => lv_iload_n C.1.1 C.1.2.1 hdg rfl (lv_at hl j hj) (kk H locs ls hP hD hS hl)
theorem mk_iload (C : mk_Cx p s m args c cc nL own D tys X Y A) {i : Nat} {x : Int32} (j : Nat) (hdg : decode cc pc = .ok (.iload i, 2)) (hj : lv[j]? = some (i, .int x)) (kk : mk_Go p l e R s m args below meth c D A nL cells slots Q (pc + 2) ws lv (.int x :: st)) : mk_Go p l e R s m args below meth c D A nL cells slots Q pc ws lv st :=
  fun H locs ls hP hD hS hl => lv_iload C.1.1 C.1.2.1 hdg (lv_at hl j hj) (kk H locs ls hP hD hS hl)
theorem mk_lload_n (C : mk_Cx p s m args c cc nL own D tys X Y A) {k : Fin 4} {x : Int64} (j : Nat) (hdg : decode cc pc = .ok (.lload_n k, 1)) (hj : lv[j]? = some ((k : Nat), .long x)) (kk : mk_Go p l e R s m args below meth c D A nL cells slots Q (pc + 1) ws lv (.long x :: st)) : mk_Go p l e R s m args below meth c D A nL cells slots Q pc ws lv st :=
  fun H locs ls hP hD hS hl => lv_lload_n C.1.1 C.1.2.1 hdg rfl (lv_at hl j hj) (kk H locs ls hP hD hS hl)
theorem mk_lload (C : mk_Cx p s m args c cc nL own D tys X Y A) {i : Nat} {x : Int64} (j : Nat) (hdg : decode cc pc = .ok (.lload i, 2)) (hj : lv[j]? = some (i, .long x)) (kk : mk_Go p l e R s m args below meth c D A nL cells slots Q (pc + 2) ws lv (.long x :: st)) : mk_Go p l e R s m args below meth c D A nL cells slots Q pc ws lv st :=
  fun H locs ls hP hD hS hl => lv_lload C.1.1 C.1.2.1 hdg (lv_at hl j hj) (kk H locs ls hP hD hS hl)
theorem mk_aload_n (C : mk_Cx p s m args c cc nL own D tys X Y A) {k : Fin 4} {x : Nat} (j : Nat) (hdg : decode cc pc = .ok (.aload_n k, 1)) (hj : lv[j]? = some ((k : Nat), .ref x)) (kk : mk_Go p l e R s m args below meth c D A nL cells slots Q (pc + 1) ws lv (.ref x :: st)) : mk_Go p l e R s m args below meth c D A nL cells slots Q pc ws lv st :=
  fun H locs ls hP hD hS hl => lv_aload_n C.1.1 C.1.2.1 hdg rfl (lv_at hl j hj) (kk H locs ls hP hD hS hl)
theorem mk_aload (C : mk_Cx p s m args c cc nL own D tys X Y A) {i : Nat} {x : Nat} (j : Nat) (hdg : decode cc pc = .ok (.aload i, 2)) (hj : lv[j]? = some (i, .ref x)) (kk : mk_Go p l e R s m args below meth c D A nL cells slots Q (pc + 2) ws lv (.ref x :: st)) : mk_Go p l e R s m args below meth c D A nL cells slots Q pc ws lv st :=
  fun H locs ls hP hD hS hl => lv_aload C.1.1 C.1.2.1 hdg (lv_at hl j hj) (kk H locs ls hP hD hS hl)
theorem mk_istore_n (C : mk_Cx p s m args c cc nL own D tys X Y A) {k : Fin 4} {x : Int32} {lv' : mk_L} (hdg : decode cc pc = .ok (.istore_n k, 1)) (hn : (k : Nat) < nL) (hl' : ((k : Nat), Value.int x) :: lv.filter (fun q => !(q.1 == (k : Nat)) && !(q.1 + 1 == (k : Nat) && q.2.category == 2)) = lv') (kk : mk_Go p l e R s m args below meth c D A nL cells slots Q (pc + 1) ws lv' st) : mk_Go p l e R s m args below meth c D A nL cells slots Q pc ws lv (.int x :: st) :=
  fun H locs ls hP hD hS hl => lv_istore_n C.1.1 C.1.2.1 hdg rfl hl hn hl' (fun ls' h' => kk H locs ls' hP hD hS h')
theorem mk_istore (C : mk_Cx p s m args c cc nL own D tys X Y A) {i : Nat} {x : Int32} {lv' : mk_L} (hdg : decode cc pc = .ok (.istore i, 2)) (hn : i < nL) (hl' : (i, Value.int x) :: lv.filter (fun q => !(q.1 == i) && !(q.1 + 1 == i && q.2.category == 2)) = lv') (kk : mk_Go p l e R s m args below meth c D A nL cells slots Q (pc + 2) ws lv' st) : mk_Go p l e R s m args below meth c D A nL cells slots Q pc ws lv (.int x :: st) :=
  fun H locs ls hP hD hS hl => lv_istore C.1.1 C.1.2.1 hdg hl hn hl' (fun ls' h' => kk H locs ls' hP hD hS h')
theorem mk_lstore_n (C : mk_Cx p s m args c cc nL own D tys X Y A) {k : Fin 4} {x : Int64} {lv' : mk_L} (hdg : decode cc pc = .ok (.lstore_n k, 1)) (hn : (k : Nat) + 1 < nL) (hl' : ((k : Nat), Value.long x) :: lv.filter (fun q => !(q.1 == (k : Nat)) && (!(q.1 == (k : Nat) + 1) && !(q.1 + 1 == (k : Nat) && q.2.category == 2))) = lv') (kk : mk_Go p l e R s m args below meth c D A nL cells slots Q (pc + 1) ws lv' st) : mk_Go p l e R s m args below meth c D A nL cells slots Q pc ws lv (.long x :: st) :=
  fun H locs ls hP hD hS hl => lv_lstore_n C.1.1 C.1.2.1 hdg rfl hl hn hl' (fun ls' h' => kk H locs ls' hP hD hS h')
theorem mk_lstore (C : mk_Cx p s m args c cc nL own D tys X Y A) {i : Nat} {x : Int64} {lv' : mk_L} (hdg : decode cc pc = .ok (.lstore i, 2)) (hn : i + 1 < nL) (hl' : (i, Value.long x) :: lv.filter (fun q => !(q.1 == i) && (!(q.1 == i + 1) && !(q.1 + 1 == i && q.2.category == 2))) = lv') (kk : mk_Go p l e R s m args below meth c D A nL cells slots Q (pc + 2) ws lv' st) : mk_Go p l e R s m args below meth c D A nL cells slots Q pc ws lv (.long x :: st) :=
  fun H locs ls hP hD hS hl => lv_lstore C.1.1 C.1.2.1 hdg hl hn hl' (fun ls' h' => kk H locs ls' hP hD hS h')
theorem mk_astore_n (C : mk_Cx p s m args c cc nL own D tys X Y A) {k : Fin 4} {x : Nat} {lv' : mk_L} (hdg : decode cc pc = .ok (.astore_n k, 1)) (hn : (k : Nat) < nL) (hl' : ((k : Nat), Value.ref x) :: lv.filter (fun q => !(q.1 == (k : Nat)) && !(q.1 + 1 == (k : Nat) && q.2.category == 2)) = lv') (kk : mk_Go p l e R s m args below meth c D A nL cells slots Q (pc + 1) ws lv' st) : mk_Go p l e R s m args below meth c D A nL cells slots Q pc ws lv (.ref x :: st) :=
  fun H locs ls hP hD hS hl => lv_astore_n C.1.1 C.1.2.1 hdg rfl hl hn hl' (fun ls' h' => kk H locs ls' hP hD hS h')
theorem mk_astore (C : mk_Cx p s m args c cc nL own D tys X Y A) {i : Nat} {x : Nat} {lv' : mk_L} (hdg : decode cc pc = .ok (.astore i, 2)) (hn : i < nL) (hl' : (i, Value.ref x) :: lv.filter (fun q => !(q.1 == i) && !(q.1 + 1 == i && q.2.category == 2)) = lv') (kk : mk_Go p l e R s m args below meth c D A nL cells slots Q (pc + 2) ws lv' st) : mk_Go p l e R s m args below meth c D A nL cells slots Q pc ws lv (.ref x :: st) :=
  fun H locs ls hP hD hS hl => lv_astore C.1.1 C.1.2.1 hdg hl hn hl' (fun ls' h' => kk H locs ls' hP hD hS h')
theorem mk_iinc (C : mk_Cx p s m args c cc nL own D tys X Y A) {i : Nat} {n : Int} {x v : Int32} {lv' : mk_L} (j : Nat) (hdg : decode cc pc = .ok (.iinc i n, 3)) (hj : lv[j]? = some (i, .int x)) (hv : x + Int32.ofInt n = v) (hn : i < nL) (hl' : (i, Value.int v) :: lv.filter (fun q => !(q.1 == i) && !(q.1 + 1 == i && q.2.category == 2)) = lv') (kk : mk_Go p l e R s m args below meth c D A nL cells slots Q (pc + 3) ws lv' st) : mk_Go p l e R s m args below meth c D A nL cells slots Q pc ws lv st :=
  fun H locs ls hP hD hS hl => lv_iinc C.1.1 C.1.2.1 hdg hl hj hv hn hl' (fun ls' h' => kk H locs ls' hP hD hS h')
theorem mk_dup (C : mk_Cx p s m args c cc nL own D tys X Y A) {v : Value} (hdg : decode cc pc = .ok (.dup, 1)) (hc : v.category = 1) (kk : mk_Go p l e R s m args below meth c D A nL cells slots Q (pc + 1) ws lv (v :: v :: st)) : mk_Go p l e R s m args below meth c D A nL cells slots Q pc ws lv (v :: st) :=
  fun H locs ls hP hD hS hl => lv_dup C.1.1 C.1.2.1 hdg hc (kk H locs ls hP hD hS hl)
theorem mk_pop (C : mk_Cx p s m args c cc nL own D tys X Y A) {v : Value} (hdg : decode cc pc = .ok (.pop, 1)) (hc : v.category = 1) (kk : mk_Go p l e R s m args below meth c D A nL cells slots Q (pc + 1) ws lv (st)) : mk_Go p l e R s m args below meth c D A nL cells slots Q pc ws lv (v :: st) :=
  fun H locs ls hP hD hS hl => lv_pop C.1.1 C.1.2.1 hdg hc (kk H locs ls hP hD hS hl)
theorem mk_iadd (C : mk_Cx p s m args c cc nL own D tys X Y A) {x y : Int32} (hdg : decode cc pc = .ok (.iadd, 1)) (kk : mk_Go p l e R s m args below meth c D A nL cells slots Q (pc + 1) ws lv (.int (x + y) :: st)) : mk_Go p l e R s m args below meth c D A nL cells slots Q pc ws lv (.int y :: .int x :: st) :=
  fun H locs ls hP hD hS hl => lv_iadd C.1.1 C.1.2.1 hdg (kk H locs ls hP hD hS hl)
theorem mk_isub (C : mk_Cx p s m args c cc nL own D tys X Y A) {x y : Int32} (hdg : decode cc pc = .ok (.isub, 1)) (kk : mk_Go p l e R s m args below meth c D A nL cells slots Q (pc + 1) ws lv (.int (x - y) :: st)) : mk_Go p l e R s m args below meth c D A nL cells slots Q pc ws lv (.int y :: .int x :: st) :=
  fun H locs ls hP hD hS hl => lv_isub C.1.1 C.1.2.1 hdg (kk H locs ls hP hD hS hl)
theorem mk_imul (C : mk_Cx p s m args c cc nL own D tys X Y A) {x y : Int32} (hdg : decode cc pc = .ok (.imul, 1)) (kk : mk_Go p l e R s m args below meth c D A nL cells slots Q (pc + 1) ws lv (.int (x * y) :: st)) : mk_Go p l e R s m args below meth c D A nL cells slots Q pc ws lv (.int y :: .int x :: st) :=
  fun H locs ls hP hD hS hl => lv_imul C.1.1 C.1.2.1 hdg (kk H locs ls hP hD hS hl)
theorem mk_iand (C : mk_Cx p s m args c cc nL own D tys X Y A) {x y : Int32} (hdg : decode cc pc = .ok (.iand, 1)) (kk : mk_Go p l e R s m args below meth c D A nL cells slots Q (pc + 1) ws lv (.int (x &&& y) :: st)) : mk_Go p l e R s m args below meth c D A nL cells slots Q pc ws lv (.int y :: .int x :: st) :=
  fun H locs ls hP hD hS hl => lv_iand C.1.1 C.1.2.1 hdg (kk H locs ls hP hD hS hl)
theorem mk_ior (C : mk_Cx p s m args c cc nL own D tys X Y A) {x y : Int32} (hdg : decode cc pc = .ok (.ior, 1)) (kk : mk_Go p l e R s m args below meth c D A nL cells slots Q (pc + 1) ws lv (.int (x ||| y) :: st)) : mk_Go p l e R s m args below meth c D A nL cells slots Q pc ws lv (.int y :: .int x :: st) :=
  fun H locs ls hP hD hS hl => lv_ior C.1.1 C.1.2.1 hdg (kk H locs ls hP hD hS hl)
theorem mk_ixor (C : mk_Cx p s m args c cc nL own D tys X Y A) {x y : Int32} (hdg : decode cc pc = .ok (.ixor, 1)) (kk : mk_Go p l e R s m args below meth c D A nL cells slots Q (pc + 1) ws lv (.int (x ^^^ y) :: st)) : mk_Go p l e R s m args below meth c D A nL cells slots Q pc ws lv (.int y :: .int x :: st) :=
  fun H locs ls hP hD hS hl => lv_ixor C.1.1 C.1.2.1 hdg (kk H locs ls hP hD hS hl)
theorem mk_ishl (C : mk_Cx p s m args c cc nL own D tys X Y A) {x y : Int32} (hdg : decode cc pc = .ok (.ishl, 1)) (kk : mk_Go p l e R s m args below meth c D A nL cells slots Q (pc + 1) ws lv (.int (x <<< (y &&& 31)) :: st)) : mk_Go p l e R s m args below meth c D A nL cells slots Q pc ws lv (.int y :: .int x :: st) :=
  fun H locs ls hP hD hS hl => lv_ishl C.1.1 C.1.2.1 hdg (kk H locs ls hP hD hS hl)
theorem mk_ishr (C : mk_Cx p s m args c cc nL own D tys X Y A) {x y : Int32} (hdg : decode cc pc = .ok (.ishr, 1)) (kk : mk_Go p l e R s m args below meth c D A nL cells slots Q (pc + 1) ws lv (.int (x >>> (y &&& 31)) :: st)) : mk_Go p l e R s m args below meth c D A nL cells slots Q pc ws lv (.int y :: .int x :: st) :=
  fun H locs ls hP hD hS hl => lv_ishr C.1.1 C.1.2.1 hdg (kk H locs ls hP hD hS hl)
theorem mk_iushr (C : mk_Cx p s m args c cc nL own D tys X Y A) {x y : Int32} (hdg : decode cc pc = .ok (.iushr, 1)) (kk : mk_Go p l e R s m args below meth c D A nL cells slots Q (pc + 1) ws lv (.int ((x.toUInt32 >>> (y.toUInt32 &&& Int32.toUInt32 31)).toInt32) :: st)) : mk_Go p l e R s m args below meth c D A nL cells slots Q pc ws lv (.int y :: .int x :: st) :=
  fun H locs ls hP hD hS hl => lv_iushr C.1.1 C.1.2.1 hdg rfl (kk H locs ls hP hD hS hl)
theorem mk_idiv (C : mk_Cx p s m args c cc nL own D tys X Y A) {x y : Int32} (hdg : decode cc pc = .ok (.idiv, 1)) (hne : ¬ y = 0) (kk : mk_Go p l e R s m args below meth c D A nL cells slots Q (pc + 1) ws lv (.int (x / y) :: st)) : mk_Go p l e R s m args below meth c D A nL cells slots Q pc ws lv (.int y :: .int x :: st) :=
  fun H locs ls hP hD hS hl => lv_idiv C.1.1 C.1.2.1 hdg hne (kk H locs ls hP hD hS hl)
theorem mk_irem (C : mk_Cx p s m args c cc nL own D tys X Y A) {x y : Int32} (hdg : decode cc pc = .ok (.irem, 1)) (hne : ¬ y = 0) (kk : mk_Go p l e R s m args below meth c D A nL cells slots Q (pc + 1) ws lv (.int (x - x / y * y) :: st)) : mk_Go p l e R s m args below meth c D A nL cells slots Q pc ws lv (.int y :: .int x :: st) :=
  fun H locs ls hP hD hS hl => lv_irem C.1.1 C.1.2.1 hdg hne (kk H locs ls hP hD hS hl)
theorem mk_ineg (C : mk_Cx p s m args c cc nL own D tys X Y A) {x : Int32} (hdg : decode cc pc = .ok (.ineg, 1)) (kk : mk_Go p l e R s m args below meth c D A nL cells slots Q (pc + 1) ws lv (.int (-x) :: st)) : mk_Go p l e R s m args below meth c D A nL cells slots Q pc ws lv (.int x :: st) :=
  fun H locs ls hP hD hS hl => lv_ineg C.1.1 C.1.2.1 hdg (kk H locs ls hP hD hS hl)
theorem mk_ladd (C : mk_Cx p s m args c cc nL own D tys X Y A) {x y : Int64} (hdg : decode cc pc = .ok (.ladd, 1)) (kk : mk_Go p l e R s m args below meth c D A nL cells slots Q (pc + 1) ws lv (.long (x + y) :: st)) : mk_Go p l e R s m args below meth c D A nL cells slots Q pc ws lv (.long y :: .long x :: st) :=
  fun H locs ls hP hD hS hl => lv_ladd C.1.1 C.1.2.1 hdg (kk H locs ls hP hD hS hl)
theorem mk_lsub (C : mk_Cx p s m args c cc nL own D tys X Y A) {x y : Int64} (hdg : decode cc pc = .ok (.lsub, 1)) (kk : mk_Go p l e R s m args below meth c D A nL cells slots Q (pc + 1) ws lv (.long (x - y) :: st)) : mk_Go p l e R s m args below meth c D A nL cells slots Q pc ws lv (.long y :: .long x :: st) :=
  fun H locs ls hP hD hS hl => lv_lsub C.1.1 C.1.2.1 hdg (kk H locs ls hP hD hS hl)
theorem mk_lmul (C : mk_Cx p s m args c cc nL own D tys X Y A) {x y : Int64} (hdg : decode cc pc = .ok (.lmul, 1)) (kk : mk_Go p l e R s m args below meth c D A nL cells slots Q (pc + 1) ws lv (.long (x * y) :: st)) : mk_Go p l e R s m args below meth c D A nL cells slots Q pc ws lv (.long y :: .long x :: st) :=
  fun H locs ls hP hD hS hl => lv_lmul C.1.1 C.1.2.1 hdg (kk H locs ls hP hD hS hl)
theorem mk_ldiv (C : mk_Cx p s m args c cc nL own D tys X Y A) {x y : Int64} (hdg : decode cc pc = .ok (.ldiv, 1)) (hne : ¬ y = 0) (kk : mk_Go p l e R s m args below meth c D A nL cells slots Q (pc + 1) ws lv (.long (x / y) :: st)) : mk_Go p l e R s m args below meth c D A nL cells slots Q pc ws lv (.long y :: .long x :: st) :=
  fun H locs ls hP hD hS hl => lv_ldiv C.1.1 C.1.2.1 hdg hne (kk H locs ls hP hD hS hl)
theorem mk_lrem (C : mk_Cx p s m args c cc nL own D tys X Y A) {x y : Int64} (hdg : decode cc pc = .ok (.lrem, 1)) (hne : ¬ y = 0) (kk : mk_Go p l e R s m args below meth c D A nL cells slots Q (pc + 1) ws lv (.long (x - x / y * y) :: st)) : mk_Go p l e R s m args below meth c D A nL cells slots Q pc ws lv (.long y :: .long x :: st) :=
  fun H locs ls hP hD hS hl => lv_lrem C.1.1 C.1.2.1 hdg hne (kk H locs ls hP hD hS hl)
theorem mk_lneg (C : mk_Cx p s m args c cc nL own D tys X Y A) {x : Int64} (hdg : decode cc pc = .ok (.lneg, 1)) (kk : mk_Go p l e R s m args below meth c D A nL cells slots Q (pc + 1) ws lv (.long (-x) :: st)) : mk_Go p l e R s m args below meth c D A nL cells slots Q pc ws lv (.long x :: st) :=
  fun H locs ls hP hD hS hl => lv_lneg C.1.1 C.1.2.1 hdg (kk H locs ls hP hD hS hl)
theorem mk_i2l (C : mk_Cx p s m args c cc nL own D tys X Y A) {x : Int32} (hdg : decode cc pc = .ok (.i2l, 1)) (kk : mk_Go p l e R s m args below meth c D A nL cells slots Q (pc + 1) ws lv (.long x.toInt64 :: st)) : mk_Go p l e R s m args below meth c D A nL cells slots Q pc ws lv (.int x :: st) :=
  fun H locs ls hP hD hS hl => lv_i2l C.1.1 C.1.2.1 hdg rfl (kk H locs ls hP hD hS hl)
theorem mk_if_eq (C : mk_Cx p s m args c cc nL own D tys X Y A) {x : Int32} {off : Int} (tgt : Nat) (hdg : decode cc pc = .ok (.ifCond .eq off, 3)) (ht : (pc : Int) + off = (tgt : Int)) (kt : x = 0 → mk_Go p l e R s m args below meth c D A nL cells slots Q tgt ws lv st) (kf : ¬ x = 0 → mk_Go p l e R s m args below meth c D A nL cells slots Q (pc + 3) ws lv st) : mk_Go p l e R s m args below meth c D A nL cells slots Q pc ws lv (.int x :: st) :=
  fun H locs ls hP hD hS hl => lv_if_eq C.1.1 C.1.2.1 hdg ht (fun h => kt h H locs ls hP hD hS hl) (fun h => kf h H locs ls hP hD hS hl)
theorem mk_if_ne (C : mk_Cx p s m args c cc nL own D tys X Y A) {x : Int32} {off : Int} (tgt : Nat) (hdg : decode cc pc = .ok (.ifCond .ne off, 3)) (ht : (pc : Int) + off = (tgt : Int)) (kt : ¬ x = 0 → mk_Go p l e R s m args below meth c D A nL cells slots Q tgt ws lv st) (kf : x = 0 → mk_Go p l e R s m args below meth c D A nL cells slots Q (pc + 3) ws lv st) : mk_Go p l e R s m args below meth c D A nL cells slots Q pc ws lv (.int x :: st) :=
  fun H locs ls hP hD hS hl => lv_if_ne C.1.1 C.1.2.1 hdg ht (fun h => kt h H locs ls hP hD hS hl) (fun h => kf h H locs ls hP hD hS hl)
theorem mk_if_lt (C : mk_Cx p s m args c cc nL own D tys X Y A) {x : Int32} {off : Int} (tgt : Nat) (hdg : decode cc pc = .ok (.ifCond .lt off, 3)) (ht : (pc : Int) + off = (tgt : Int)) (kt : x < 0 → mk_Go p l e R s m args below meth c D A nL cells slots Q tgt ws lv st) (kf : ¬ x < 0 → mk_Go p l e R s m args below meth c D A nL cells slots Q (pc + 3) ws lv st) : mk_Go p l e R s m args below meth c D A nL cells slots Q pc ws lv (.int x :: st) :=
  fun H locs ls hP hD hS hl => lv_if_lt C.1.1 C.1.2.1 hdg ht (fun h => kt h H locs ls hP hD hS hl) (fun h => kf h H locs ls hP hD hS hl)
theorem mk_if_ge (C : mk_Cx p s m args c cc nL own D tys X Y A) {x : Int32} {off : Int} (tgt : Nat) (hdg : decode cc pc = .ok (.ifCond .ge off, 3)) (ht : (pc : Int) + off = (tgt : Int)) (kt : 0 ≤ x → mk_Go p l e R s m args below meth c D A nL cells slots Q tgt ws lv st) (kf : ¬ 0 ≤ x → mk_Go p l e R s m args below meth c D A nL cells slots Q (pc + 3) ws lv st) : mk_Go p l e R s m args below meth c D A nL cells slots Q pc ws lv (.int x :: st) :=
  fun H locs ls hP hD hS hl => lv_if_ge C.1.1 C.1.2.1 hdg ht (fun h => kt h H locs ls hP hD hS hl) (fun h => kf h H locs ls hP hD hS hl)
theorem mk_if_gt (C : mk_Cx p s m args c cc nL own D tys X Y A) {x : Int32} {off : Int} (tgt : Nat) (hdg : decode cc pc = .ok (.ifCond .gt off, 3)) (ht : (pc : Int) + off = (tgt : Int)) (kt : 0 < x → mk_Go p l e R s m args below meth c D A nL cells slots Q tgt ws lv st) (kf : ¬ 0 < x → mk_Go p l e R s m args below meth c D A nL cells slots Q (pc + 3) ws lv st) : mk_Go p l e R s m args below meth c D A nL cells slots Q pc ws lv (.int x :: st) :=
  fun H locs ls hP hD hS hl => lv_if_gt C.1.1 C.1.2.1 hdg ht (fun h => kt h H locs ls hP hD hS hl) (fun h => kf h H locs ls hP hD hS hl)
theorem mk_if_le (C : mk_Cx p s m args c cc nL own D tys X Y A) {x : Int32} {off : Int} (tgt : Nat) (hdg : decode cc pc = .ok (.ifCond .le off, 3)) (ht : (pc : Int) + off = (tgt : Int)) (kt : x ≤ 0 → mk_Go p l e R s m args below meth c D A nL cells slots Q tgt ws lv st) (kf : ¬ x ≤ 0 → mk_Go p l e R s m args below meth c D A nL cells slots Q (pc + 3) ws lv st) : mk_Go p l e R s m args below meth c D A nL cells slots Q pc ws lv (.int x :: st) :=
  fun H locs ls hP hD hS hl => lv_if_le C.1.1 C.1.2.1 hdg ht (fun h => kt h H locs ls hP hD hS hl) (fun h => kf h H locs ls hP hD hS hl)
theorem mk_icmp_eq (C : mk_Cx p s m args c cc nL own D tys X Y A) {x y : Int32} {off : Int} (tgt : Nat) (hdg : decode cc pc = .ok (.if_icmp .eq off, 3)) (ht : (pc : Int) + off = (tgt : Int)) (kt : x = y → mk_Go p l e R s m args below meth c D A nL cells slots Q tgt ws lv st) (kf : ¬ x = y → mk_Go p l e R s m args below meth c D A nL cells slots Q (pc + 3) ws lv st) : mk_Go p l e R s m args below meth c D A nL cells slots Q pc ws lv (.int y :: .int x :: st) :=
  fun H locs ls hP hD hS hl => lv_icmp_eq C.1.1 C.1.2.1 hdg ht (fun h => kt h H locs ls hP hD hS hl) (fun h => kf h H locs ls hP hD hS hl)
theorem mk_icmp_ne (C : mk_Cx p s m args c cc nL own D tys X Y A) {x y : Int32} {off : Int} (tgt : Nat) (hdg : decode cc pc = .ok (.if_icmp .ne off, 3)) (ht : (pc : Int) + off = (tgt : Int)) (kt : ¬ x = y → mk_Go p l e R s m args below meth c D A nL cells slots Q tgt ws lv st) (kf : x = y → mk_Go p l e R s m args below meth c D A nL cells slots Q (pc + 3) ws lv st) : mk_Go p l e R s m args below meth c D A nL cells slots Q pc ws lv (.int y :: .int x :: st) :=
  fun H locs ls hP hD hS hl => lv_icmp_ne C.1.1 C.1.2.1 hdg ht (fun h => kt h H locs ls hP hD hS hl) (fun h => kf h H locs ls hP hD hS hl)
theorem mk_icmp_lt (C : mk_Cx p s m args c cc nL own D tys X Y A) {x y : Int32} {off : Int} (tgt : Nat) (hdg : decode cc pc = .ok (.if_icmp .lt off, 3)) (ht : (pc : Int) + off = (tgt : Int)) (kt : x < y → mk_Go p l e R s m args below meth c D A nL cells slots Q tgt ws lv st) (kf : ¬ x < y → mk_Go p l e R s m args below meth c D A nL cells slots Q (pc + 3) ws lv st) : mk_Go p l e R s m args below meth c D A nL cells slots Q pc ws lv (.int y :: .int x :: st) :=
  fun H locs ls hP hD hS hl => lv_icmp_lt C.1.1 C.1.2.1 hdg ht (fun h => kt h H locs ls hP hD hS hl) (fun h => kf h H locs ls hP hD hS hl)
theorem mk_icmp_ge (C : mk_Cx p s m args c cc nL own D tys X Y A) {x y : Int32} {off : Int} (tgt : Nat) (hdg : decode cc pc = .ok (.if_icmp .ge off, 3)) (ht : (pc : Int) + off = (tgt : Int)) (kt : y ≤ x → mk_Go p l e R s m args below meth c D A nL cells slots Q tgt ws lv st) (kf : ¬ y ≤ x → mk_Go p l e R s m args below meth c D A nL cells slots Q (pc + 3) ws lv st) : mk_Go p l e R s m args below meth c D A nL cells slots Q pc ws lv (.int y :: .int x :: st) :=
  fun H locs ls hP hD hS hl => lv_icmp_ge C.1.1 C.1.2.1 hdg ht (fun h => kt h H locs ls hP hD hS hl) (fun h => kf h H locs ls hP hD hS hl)
theorem mk_icmp_gt (C : mk_Cx p s m args c cc nL own D tys X Y A) {x y : Int32} {off : Int} (tgt : Nat) (hdg : decode cc pc = .ok (.if_icmp .gt off, 3)) (ht : (pc : Int) + off = (tgt : Int)) (kt : y < x → mk_Go p l e R s m args below meth c D A nL cells slots Q tgt ws lv st) (kf : ¬ y < x → mk_Go p l e R s m args below meth c D A nL cells slots Q (pc + 3) ws lv st) : mk_Go p l e R s m args below meth c D A nL cells slots Q pc ws lv (.int y :: .int x :: st) :=
  fun H locs ls hP hD hS hl => lv_icmp_gt C.1.1 C.1.2.1 hdg ht (fun h => kt h H locs ls hP hD hS hl) (fun h => kf h H locs ls hP hD hS hl)
theorem mk_icmp_le (C : mk_Cx p s m args c cc nL own D tys X Y A) {x y : Int32} {off : Int} (tgt : Nat) (hdg : decode cc pc = .ok (.if_icmp .le off, 3)) (ht : (pc : Int) + off = (tgt : Int)) (kt : x ≤ y → mk_Go p l e R s m args below meth c D A nL cells slots Q tgt ws lv st) (kf : ¬ x ≤ y → mk_Go p l e R s m args below meth c D A nL cells slots Q (pc + 3) ws lv st) : mk_Go p l e R s m args below meth c D A nL cells slots Q pc ws lv (.int y :: .int x :: st) :=
  fun H locs ls hP hD hS hl => lv_icmp_le C.1.1 C.1.2.1 hdg ht (fun h => kt h H locs ls hP hD hS hl) (fun h => kf h H locs ls hP hD hS hl)
theorem mk_goto (C : mk_Cx p s m args c cc nL own D tys X Y A) {off : Int} (tgt : Nat) (hdg : decode cc pc = .ok (.goto off, 3)) (ht : (pc : Int) + off = (tgt : Int)) (kk : mk_Go p l e R s m args below meth c D A nL cells slots Q tgt ws lv st) : mk_Go p l e R s m args below meth c D A nL cells slots Q pc ws lv st :=
  fun H locs ls hP hD hS hl => lv_goto C.1.1 C.1.2.1 hdg ht (kk H locs ls hP hD hS hl)
theorem mk_lcmp (C : mk_Cx p s m args c cc nL own D tys X Y A) {x y : Int64} (hdg : decode cc pc = .ok (.lcmp, 1)) (kk : mk_Go p l e R s m args below meth c D A nL cells slots Q (pc + 1) ws lv (.int (lg_cmp x y) :: st)) : mk_Go p l e R s m args below meth c D A nL cells slots Q pc ws lv (.long y :: .long x :: st) :=
  fun H locs ls hP hD hS hl => W.lcmp C.1.1 C.1.2.1 hdg (kk H locs ls hP hD hS hl)
theorem mk_dup2 (C : mk_Cx p s m args c cc nL own D tys X Y A) {va vb : Value} (hdg : decode cc pc = .ok (.dup2, 1)) (ha : va.category = 1) (hb : vb.category = 1) (kk : mk_Go p l e R s m args below meth c D A nL cells slots Q (pc + 1) ws lv (va :: vb :: va :: vb :: st)) : mk_Go p l e R s m args below meth c D A nL cells slots Q pc ws lv (va :: vb :: st) :=
  fun H locs ls hP hD hS hl => lv_dup2_11 C.1.1 C.1.2.1 hdg ha hb (kk H locs ls hP hD hS hl)
theorem mk_ldc (C : mk_Cx p s m args c cc nL own D tys X Y A) {index : Nat} {v : Int32} (hw : Jvm.Cond.constant own index v ∈ mk_WL) (hdg : decode cc pc = .ok (.ldc index, 2)) (kk : mk_Go p l e R s m args below meth c D A nL cells slots Q (pc + 2) ws lv (.int v :: st)) : mk_Go p l e R s m args below meth c D A nL cells slots Q pc ws lv st :=
  fun H locs ls hP hD hS hl => lv_ldc C.1.1 C.1.2.1 C.1.2.2.2.1 (C.1.2.2.2.2 _ hw) hdg (kk H locs ls hP hD hS hl)
theorem mk_ldcw (C : mk_Cx p s m args c cc nL own D tys X Y A) {index : Nat} {v : Int32} (hw : Jvm.Cond.constant own index v ∈ mk_WL) (hdg : decode cc pc = .ok (.ldc_w index, 3)) (kk : mk_Go p l e R s m args below meth c D A nL cells slots Q (pc + 3) ws lv (.int v :: st)) : mk_Go p l e R s m args below meth c D A nL cells slots Q pc ws lv st :=
  fun H locs ls hP hD hS hl => lv_ldcw C.1.1 C.1.2.1 C.1.2.2.2.1 (C.1.2.2.2.2 _ hw) hdg (kk H locs ls hP hD hS hl)
theorem mk_ldc2 (C : mk_Cx p s m args c cc nL own D tys X Y A) {index : Nat} {v : Int64} (hw : Jvm.Cond.constantLong own index v ∈ mk_WL) (hdg : decode cc pc = .ok (.ldc2_w index, 3)) (kk : mk_Go p l e R s m args below meth c D A nL cells slots Q (pc + 3) ws lv (.long v :: st)) : mk_Go p l e R s m args below meth c D A nL cells slots Q pc ws lv st :=
  fun H locs ls hP hD hS hl => lv_ldc2 C.1.1 C.1.2.1 C.1.2.2.2.1 (C.1.2.2.2.2 _ hw) hdg (kk H locs ls hP hD hS hl)
theorem mk_ldcS (C : mk_Cx p s m args c cc nL own D tys X Y A) {index k : Nat} (hw : (own, index, k) ∈ mk_lits) (hdg : decode cc pc = .ok (.ldc index, 2)) (kk : mk_Go p l e R s m args below meth c D A nL cells slots Q (pc + 2) ws lv (.ref (X k) :: st)) : mk_Go p l e R s m args below meth c D A nL cells slots Q pc ws lv st :=
  fun H locs ls hP hD hS hl => va_ldcS C.1.1 C.1.2.1 C.1.2.2.2.1 (C.2.2.1.1.2.2.2.1 _ hw) hdg (kk H locs ls hP hD hS hl)
theorem mk_get (C : mk_Cx p s m args c cc nL own D tys X Y A) {a : Nat} {Cn : String} {T : u_T} {N ci index : Nat} (hin : ∀ w ∈ u_ws Cn T N, w ∈ mk_WL) (q0 : Nat) {fs : List Value} (he : ws[q0]? = some (a, .inr (ci, fs))) (hc : vwCl[ci]? = some (Cn, T, N)) (k : Nat) (hk : k < N) (hlink : Cond.fieldLink own index (T k).1 (T k).2.1 (T k).2.2.1 ∈ mk_WL) {v : Value} (hv : fs[k]? = some v) (hdg : decode cc pc = .ok (.getfield index, 3)) (kk : mk_Go p l e R s m args below meth c D A nL cells slots Q (pc + 3) ws lv (v :: st)) : mk_Go p l e R s m args below meth c D A nL cells slots Q pc ws lv (.ref a :: st) :=
  fun H locs ls hP hD hS hl => va_get C.1.1 C.1.2.1 C.1.2.2.2.2 hin C.1.2.2.2.1 C.2.1 hP q0 he hc k hk (C.1.2.2.2.2 _ hlink) (fun _ h9 => h9) hv hdg (kk H locs ls hP hD hS hl)
theorem mk_put (C : mk_Cx p s m args c cc nL own D tys X Y A) {a : Nat} {Cn : String} {T : u_T} {N ci index : Nat} (hin : ∀ w ∈ u_ws Cn T N, w ∈ mk_WL) (ty0 : Nat → FieldType) (hty : ∀ k, k < N → parseFieldDescriptor (T k).2.2.1 = some (ty0 k)) (hnm : ∀ a, a < N → ∀ b, b < N → a ≠ b → (T a).2.1 ≠ (T b).2.1) (q0 : Nat) {fs : List Value} (he : ws[q0]? = some (a, .inr (ci, fs))) (hc : vwCl[ci]? = some (Cn, T, N)) (k : Nat) (hk : k < N) (hlink : Cond.fieldLink own index (T k).1 (T k).2.1 (T k).2.2.1 ∈ mk_WL) (hfin : (T k).2.2.2 = false) {v : Value} (hn : narrow (ty0 k) v = v) (hfit : fits (ty0 k) v = true) (hlen : k < fs.length) {ws' : va_W} (hw : ws.set q0 (a, .inr (ci, fs.set k v)) = ws') (hdg : decode cc pc = .ok (.putfield index, 3)) (kk : mk_Go p l e R s m args below meth c D A nL cells slots Q (pc + 3) ws' lv st) : mk_Go p l e R s m args below meth c D A nL cells slots Q pc ws lv (v :: .ref a :: st) :=
  fun H locs ls hP hD hS hl => va_put C.1.1 C.1.2.1 C.1.2.2.2.2 hin ty0 hty hnm C.1.2.2.2.1 C.2.1 hP hD hS q0 he hc k hk (C.1.2.2.2.2 _ hlink) (fun _ h9 => h9) hfin (hty k hk) hn hfit hlen hdg (fun H1 locs1 hP1 hD1 hS1 => kk H1 locs1 ls (hw ▸ hP1) (hw ▸ hD1) hS1 hl)
theorem mk_putF (C : mk_Cx p s m args c cc nL own D tys X Y A) (hin2 : meth.name = "<init>") {a : Nat} {Cn : String} {T : u_T} {N ci index : Nat} (hin : ∀ w ∈ u_ws Cn T N, w ∈ mk_WL) (ty0 : Nat → FieldType) (hty : ∀ k, k < N → parseFieldDescriptor (T k).2.2.1 = some (ty0 k)) (hnm : ∀ a, a < N → ∀ b, b < N → a ≠ b → (T a).2.1 ≠ (T b).2.1) (q0 : Nat) {fs : List Value} (he : ws[q0]? = some (a, .inr (ci, fs))) (hc : vwCl[ci]? = some (Cn, T, N)) (k : Nat) (hk : k < N) (hlink : Cond.fieldLink own index (T k).1 (T k).2.1 (T k).2.2.1 ∈ mk_WL) (hfin : (T k).2.2.2 = true) (hdecl : (T k).1 = own) {v : Value} (hn : narrow (ty0 k) v = v) (hfit : fits (ty0 k) v = true) (hlen : k < fs.length) {ws' : va_W} (hw : ws.set q0 (a, .inr (ci, fs.set k v)) = ws') (hdg : decode cc pc = .ok (.putfield index, 3)) (kk : mk_Go p l e R s m args below meth c D A nL cells slots Q (pc + 3) ws' lv st) : mk_Go p l e R s m args below meth c D A nL cells slots Q pc ws lv (v :: .ref a :: st) :=
  fun H locs ls hP hD hS hl => va_putF C.1.1 C.1.2.1 C.1.2.2.2.2 hin ty0 hty hnm C.1.2.2.2.1 C.2.1 hP hD hS q0 he hc k hk (C.1.2.2.2.2 _ hlink) (fun _ h9 => h9) hfin hin2 hdecl (hty k hk) hn hfit hlen hdg (fun H1 locs1 hP1 hD1 hS1 => kk H1 locs1 ls (hw ▸ hP1) (hw ▸ hD1) hS1 hl)
theorem mk_iald (C : mk_Cx p s m args c cc nL own D tys X Y A) {a : Nat} (q0 t0 : Nat) {cA : ClassId} {n : Nat} {f : Nat → Int32} (ha : ws[q0]? = some (a, .inl (cA, n, .inl f))) (ht : tys[t0]? = some (cA, .int)) {i : Int32} (hin : vp_in i n) {j : Nat} (hj : i.toNatClampNeg = j) (hdg : decode cc pc = .ok (.iaload, 1)) (kk : mk_Go p l e R s m args below meth c D A nL cells slots Q (pc + 1) ws lv (.int (f j) :: st)) : mk_Go p l e R s m args below meth c D A nL cells slots Q pc ws lv (.int i :: .ref a :: st) :=
  by
  subst hj
  exact fun H locs ls hP hD hS hl => va_iald C.1.1 C.1.2.1 C.2.1 hP q0 t0 ha ht hin hdg (kk H locs ls hP hD hS hl)
theorem mk_iast (C : mk_Cx p s m args c cc nL own D tys X Y A) {a : Nat} (q0 t0 : Nat) {cA : ClassId} {n : Nat} {f : Nat → Int32} (ha : ws[q0]? = some (a, .inl (cA, n, .inl f))) (ht : tys[t0]? = some (cA, .int)) {i : Int32} {x : Int32} (hin : vp_in i n) {j : Nat} (hj : i.toNatClampNeg = j) {ws' : va_W} (hw : ws.set q0 (a, .inl (cA, n, .inl (upd f j x))) = ws') (hdg : decode cc pc = .ok (.iastore, 1)) (kk : mk_Go p l e R s m args below meth c D A nL cells slots Q (pc + 1) ws' lv st) : mk_Go p l e R s m args below meth c D A nL cells slots Q pc ws lv (.int x :: .int i :: .ref a :: st) :=
  by
  subst hj
  exact fun H locs ls hP hD hS hl => va_iast C.1.1 C.1.2.1 C.2.1 hP hD hS q0 t0 ha ht hin hdg (fun H1 locs1 hP1 hD1 hS1 => kk H1 locs1 ls (hw ▸ hP1) (hw ▸ hD1) hS1 hl)
theorem mk_lald (C : mk_Cx p s m args c cc nL own D tys X Y A) {a : Nat} (q0 t0 : Nat) {cA : ClassId} {n : Nat} {f : Nat → Int64} (ha : ws[q0]? = some (a, .inl (cA, n, .inr (.inl f)))) (ht : tys[t0]? = some (cA, .long)) {i : Int32} (hin : vp_in i n) {j : Nat} (hj : i.toNatClampNeg = j) (hdg : decode cc pc = .ok (.laload, 1)) (kk : mk_Go p l e R s m args below meth c D A nL cells slots Q (pc + 1) ws lv (.long (f j) :: st)) : mk_Go p l e R s m args below meth c D A nL cells slots Q pc ws lv (.int i :: .ref a :: st) :=
  by
  subst hj
  exact fun H locs ls hP hD hS hl => va_lald C.1.1 C.1.2.1 C.2.1 hP q0 t0 ha ht hin hdg (kk H locs ls hP hD hS hl)
theorem mk_last (C : mk_Cx p s m args c cc nL own D tys X Y A) {a : Nat} (q0 t0 : Nat) {cA : ClassId} {n : Nat} {f : Nat → Int64} (ha : ws[q0]? = some (a, .inl (cA, n, .inr (.inl f)))) (ht : tys[t0]? = some (cA, .long)) {i : Int32} {x : Int64} (hin : vp_in i n) {j : Nat} (hj : i.toNatClampNeg = j) {ws' : va_W} (hw : ws.set q0 (a, .inl (cA, n, .inr (.inl (vp_updL f j x)))) = ws') (hdg : decode cc pc = .ok (.lastore, 1)) (kk : mk_Go p l e R s m args below meth c D A nL cells slots Q (pc + 1) ws' lv st) : mk_Go p l e R s m args below meth c D A nL cells slots Q pc ws lv (.long x :: .int i :: .ref a :: st) :=
  by
  subst hj
  exact fun H locs ls hP hD hS hl => va_last C.1.1 C.1.2.1 C.2.1 hP hD hS q0 t0 ha ht hin hdg (fun H1 locs1 hP1 hD1 hS1 => kk H1 locs1 ls (hw ▸ hP1) (hw ▸ hD1) hS1 hl)
theorem mk_alen (C : mk_Cx p s m args c cc nL own D tys X Y A) {a : Nat} (q0 t0 : Nat) {cA : ClassId} {x : vp_A} (ha : ws[q0]? = some (a, .inl (cA, x))) {ty : FieldType} (ht : tys[t0]? = some (cA, ty)) {v : Int32} (hv : Int32.ofNat x.1 = v) (hdg : decode cc pc = .ok (.arraylength, 1)) (kk : mk_Go p l e R s m args below meth c D A nL cells slots Q (pc + 1) ws lv (.int v :: st)) : mk_Go p l e R s m args below meth c D A nL cells slots Q pc ws lv (.ref a :: st) :=
  fun H locs ls hP hD hS hl => va_alen C.1.1 C.1.2.1 C.2.1 hP q0 t0 ha ht hv hdg (kk H locs ls hP hD hS hl)
theorem mk_iret (C : mk_Cx p s m args c cc nL own D tys X Y A) (hr : meth.sig.returnType = some .int) (hlocks : meth.locks = false) {v r : Int32} (hv : v = r) {w1 : va_W} (hw : ws = w1) (hdg : decode cc pc = .ok (.ireturn, 1)) : mk_Go p l e R s m args below meth c D A nL cells slots (MQ below (mk_Q (some (.int r)) D w1 A) args s cells slots A) pc ws lv [.int v] :=
  fun H locs ls hP hD hS hl => by
    subst hw
    subst hv
    exact W.iret C.1.1 C.1.2.1 hr (fun t ht hW => ⟨⟨rfl, by rw [ht]; exact hP, hD⟩, hS.F ht⟩) hS.2.2 hdg hlocks
theorem mk_lret (C : mk_Cx p s m args c cc nL own D tys X Y A) (hr : meth.sig.returnType = some .long) (hlocks : meth.locks = false) {v r : Int64} (hv : v = r) {w1 : va_W} (hw : ws = w1) (hdg : decode cc pc = .ok (.lreturn, 1)) : mk_Go p l e R s m args below meth c D A nL cells slots (MQ below (mk_Q (some (.long r)) D w1 A) args s cells slots A) pc ws lv [.long v] :=
  fun H locs ls hP hD hS hl => by
    subst hw
    subst hv
    exact W.lret C.1.1 C.1.2.1 hr (fun t ht hW => ⟨⟨rfl, by rw [ht]; exact hP, hD⟩, hS.F ht⟩) hS.2.2 hdg hlocks
theorem mk_vret (C : mk_Cx p s m args c cc nL own D tys X Y A) (hr : meth.sig.returnType = none) (hlocks : meth.locks = false) {w1 : va_W} (hw : ws = w1) (hdg : decode cc pc = .ok (.return_, 1)) : mk_Go p l e R s m args below meth c D A nL cells slots (MQ below (mk_Q none D w1 A) args s cells slots A) pc ws lv [] :=
  fun H locs ls hP hD hS hl => by
    subst hw
    exact W.vret C.1.1 C.1.2.1 hr (fun t ht hW => ⟨⟨rfl, by rw [ht]; exact hP, hD⟩, hS.F ht⟩) hS.2.2 hdg hlocks
theorem mk_zret (C : mk_Cx p s m args c cc nL own D tys X Y A) {ty : FieldType} (hr : meth.sig.returnType = some ty) (hlocks : meth.locks = false) {v r : Int32} (hn : narrow ty (.int v) = .int v) (hv : v = r) {w1 : va_W} (hw : ws = w1) (hdg : decode cc pc = .ok (.ireturn, 1)) : mk_Go p l e R s m args below meth c D A nL cells slots (MQ below (mk_Q (some (.int r)) D w1 A) args s cells slots A) pc ws lv [.int v] :=
  fun H locs ls hP hD hS hl => by
    subst hw
    subst hv
    exact W.zret C.1.1 C.1.2.1 hr hn (fun t ht hW => ⟨⟨rfl, by rw [ht]; exact hP, hD⟩, hS.F ht⟩) hS.2.2 hdg hlocks
theorem mk_ne {x v : Int32} {k : Int} (h : ¬ x = v) (hv : v.toInt = k) : x.toInt ≠ k := fun e => h (Int32.toInt_inj.mp (e.trans hv.symm))
theorem mk_tableIn (C : mk_Cx p s m args c cc nL own D tys X Y A) {dflt lo hi : Int} {offs : Array Int} {len : Nat} {x : Int32} (tgt : Nat) {v : Int32} {off : Int} (hx : x = v) (hdg : decode cc pc = .ok (.tableswitch dflt lo hi offs, len)) (h1 : ¬ v.toInt < lo) (h2 : ¬ hi < v.toInt) (ho : offs[(v.toInt - lo).toNat]? = some off) (ht : (pc : Int) + off = (tgt : Int)) (kk : mk_Go p l e R s m args below meth c D A nL cells slots Q tgt ws lv st) : mk_Go p l e R s m args below meth c D A nL cells slots Q pc ws lv (.int x :: st) := by
  subst hx
  exact fun H locs ls hP hD hS hl => lv_tableIn C.1.1 C.1.2.1 hdg h1 h2 ho ht (kk H locs ls hP hD hS hl)
theorem mk_tableOut (C : mk_Cx p s m args c cc nL own D tys X Y A) {dflt lo hi : Int} {offs : Array Int} {len : Nat} {x : Int32} (tgt : Nat) (hdg : decode cc pc = .ok (.tableswitch dflt lo hi offs, len)) (h : x.toInt < lo ∨ hi < x.toInt) (ht : (pc : Int) + dflt = (tgt : Int)) (kk : mk_Go p l e R s m args below meth c D A nL cells slots Q tgt ws lv st) : mk_Go p l e R s m args below meth c D A nL cells slots Q pc ws lv (.int x :: st) :=
  fun H locs ls hP hD hS hl => lv_tableOut C.1.1 C.1.2.1 hdg h ht (kk H locs ls hP hD hS hl)
theorem mk_lookup (C : mk_Cx p s m args c cc nL own D tys X Y A) {dflt : Int} {ps : Array (Int × Int)} {len : Nat} {x : Int32} (tgt : Nat) {off : Int} (hdg : decode cc pc = .ok (.lookupswitch dflt ps, len)) (hp : (ps.toList.zip (ps.toList.drop 1)).all (fun (a, next) => a.1 < next.1) = true) (ho : Op.lookupswitch.offset ps.toList dflt x.toInt = off) (ht : (pc : Int) + off = (tgt : Int)) (kk : mk_Go p l e R s m args below meth c D A nL cells slots Q tgt ws lv st) : mk_Go p l e R s m args below meth c D A nL cells slots Q pc ws lv (.int x :: st) :=
  fun H locs ls hP hD hS hl => lv_lookup C.1.1 C.1.2.1 hdg hp ho ht (kk H locs ls hP hD hS hl)
theorem mk_mmax (C : mk_Cx p s m args c cc nL own D tys X Y A) {index : Nat} {x y : Int32} (hl1 : Cond.methodLink own index Lib.Math.max.name ∈ mk_WL) (hl2 : Cond.static Lib.Math.max.name ∈ mk_WL) (hl3 : Cond.initialized "java/lang/Math" ∈ mk_WL) (hl4 : Cond.code Lib.Math.max.name Lib.Math.max.code 2 (some .int) ∈ mk_WL) (hR : 1 ≤ R.frames ∧ (st.map fun v => v.category).sum + 13 ≤ R.locals) (hroom : cells ≤ R.cells ∧ slots ≤ R.slots) (hdg : decode cc pc = .ok (.invokestatic index, 3)) (kk : mk_Go p l e R s m args below meth c D A nL cells slots Q (pc + 3) ws lv (.int (if x < y then y else x) :: st)) : mk_Go p l e R s m args below meth c D A nL cells slots Q pc ws lv (.int y :: .int x :: st) :=
  fun H locs ls hP hD hS hl => va_mmax C.1.1 C.1.2.1 (C.1.2.2.1.trans hl.1.symm) C.1.2.2.2.1 (C.1.2.2.2.2 _ hl1) (C.1.2.2.2.2 _ hl2) (C.1.2.2.2.2 _ hl3) (C.1.2.2.2.2 _ hl4) hR.1 hR.2 hroom.1 hroom.2 hdg (kk H locs ls hP hD hS hl)
theorem mk_mmin (C : mk_Cx p s m args c cc nL own D tys X Y A) {index : Nat} {x y : Int32} (hl1 : Cond.methodLink own index Lib.Math.min.name ∈ mk_WL) (hl2 : Cond.static Lib.Math.min.name ∈ mk_WL) (hl3 : Cond.initialized "java/lang/Math" ∈ mk_WL) (hl4 : Cond.code Lib.Math.min.name Lib.Math.min.code 2 (some .int) ∈ mk_WL) (hR : 1 ≤ R.frames ∧ (st.map fun v => v.category).sum + 13 ≤ R.locals) (hroom : cells ≤ R.cells ∧ slots ≤ R.slots) (hdg : decode cc pc = .ok (.invokestatic index, 3)) (kk : mk_Go p l e R s m args below meth c D A nL cells slots Q (pc + 3) ws lv (.int (if y < x then y else x) :: st)) : mk_Go p l e R s m args below meth c D A nL cells slots Q pc ws lv (.int y :: .int x :: st) :=
  fun H locs ls hP hD hS hl => va_mmin C.1.1 C.1.2.1 (C.1.2.2.1.trans hl.1.symm) C.1.2.2.2.1 (C.1.2.2.2.2 _ hl1) (C.1.2.2.2.2 _ hl2) (C.1.2.2.2.2 _ hl3) (C.1.2.2.2.2 _ hl4) hR.1 hR.2 hroom.1 hroom.2 hdg (kk H locs ls hP hD hS hl)
theorem mk_mmaxl (C : mk_Cx p s m args c cc nL own D tys X Y A) {index : Nat} {x y : Int64} (hl1 : Cond.methodLink own index Lib.MathLoose.max_long.x ∈ mk_WL) (hl2 : Cond.static Lib.MathLoose.max_long.x ∈ mk_WL) (hl3 : Cond.initialized "java/lang/Math" ∈ mk_WL) (hl4 : Cond.code Lib.MathLoose.max_long.x Lib.MathLoose.max_long.code 4 (some .long) ∈ mk_WL) (hR : 1 ≤ R.frames ∧ (st.map fun v => v.category).sum + 15 ≤ R.locals) (hroom : cells ≤ R.cells ∧ slots ≤ R.slots) (hdg : decode cc pc = .ok (.invokestatic index, 3)) (kk : mk_Go p l e R s m args below meth c D A nL cells slots Q (pc + 3) ws lv (.long (if y < x then x else y) :: st)) : mk_Go p l e R s m args below meth c D A nL cells slots Q pc ws lv (.long y :: .long x :: st) :=
  fun H locs ls hP hD hS hl => va_mmax_long C.1.1 C.1.2.1 (C.1.2.2.1.trans hl.1.symm) C.1.2.2.2.1 (C.1.2.2.2.2 _ hl1) (C.1.2.2.2.2 _ hl2) (C.1.2.2.2.2 _ hl3) (C.1.2.2.2.2 _ hl4) hR.1 hR.2 hroom.1 hroom.2 hdg (kk H locs ls hP hD hS hl)
/-! calls -/
theorem mk_back {ls : Array Slot} {H : Heap} {locs : List Loc} {st0 : List Value} {mc ms : Nat} {a : Array Value} {res : Option Value} {ws' wc w1 : va_W} (C : mk_Cx p s m args c cc nL own D tys X Y A) (hF : mk_Fr ws wc w1 ws') (hP : va_P D vwCl ws H) (hD : va_D A ws) (hS : va_S A s.heap H locs) (hl : lv_has ls nL lv)
    (hr : va_Run p l e R s m args below meth c H locs cells slots mc ms (F0 m pc ls st0) st (mk_Q res D w1 (va_A wc H.size) a) (va_A wc H.size))
    (kk : mk_Go p l e R s m args below meth c D A nL (cells + mc) (slots + ms) Q (pc + 3) ws' lv (res.toList ++ st)) : W p l e R s m args below meth c H locs cells slots Q (F0 m pc ls st0) := by
  have hFc := hF.free hD hS C.2.2.2
  intro T hT X0
  obtain ⟨v, st₀, t, T', L, h0, X', hL, e1, e2, ⟨⟨hv, hp, hd⟩, hz, hk⟩, stp⟩ := hr T hT X0
  cases hv
  rw [h0] at hz hk
  obtain ⟨hP', hD'⟩ := mk_join hF hP hD hFc hk hp hd
  obtain ⟨t2, a1, b1⟩ := kk t.heap (locs ++ L) ls hP' hD'
    ⟨Nat.le_trans hS.1 hz, fun q h1 h2 => by rw [hk q (Nat.lt_of_lt_of_le h1 hS.1) (fun z => h2 (hFc q z))]; exact hS.2.1 q h1 h2, fun q hq => by
      rcases List.mem_append.mp hq with h | h
      · exact hS.2.2 q h
      · exact hFc _ (hL q h)⟩ hl T' e1 X'
  exact ⟨t2, stp t2 a1, b1⟩
theorem mk_pre {wc w1 ws' : va_W} {av : List Value} {H : Heap} {locs : List Loc} (C : mk_Cx p s m args c cc nL own D tys X Y A) (hF : mk_Fr ws wc w1 ws') (hP : va_P D vwCl ws H) (hD : va_D A ws) (hS : va_S A s.heap H locs) : PreS s H (mk_Pc av D tys X Y wc H.size) av := by
  refine ⟨mk_Pc.blind, fun U hU hW => ⟨rfl, by rw [hU], by rw [hU]; exact hF.P hP, va_K.moved hW.alike C.2.1, (hF.D hD).weaken (fun _ _ _ _ => trivial), ?_⟩⟩
  rw [hU]
  exact ((C.2.2.1.kept (fun a h1 h2 => hS.2.1 a h1 h2)).narrow (hF.free hD hS C.2.2.2)).warm hW
theorem mk_good {y : MethodName} {cy : ByteArray} {nY : Nat} {ret : Option FieldType} (hc : Cond.code y cy nY ret ∈ mk_WL) : GoodIn mk_WL (mk_ws y cy nY ret) := by
  intro w hw
  have hm : w ∈ mk_WL := by
    rcases List.mem_cons.mp hw with rfl | h
    · exact hc
    · exact h
  exact ⟨hm, good_of_word (mk_WL_good w hm)⟩
/-- what a callee's name and descriptor must be -/
abbrev mk_nm (y : MethodName) (n : Nat) : Prop := y.cls ≠ "java/lang/invoke/MethodHandle" ∧ y.cls ≠ "java/lang/invoke/VarHandle" ∧ (parseMethodDescriptor y.desc).map (fun d => d.parameters.length) = some n
theorem mk_callV (C : mk_Cx p s m args c cc nL own D tys X Y A) {y : MethodName} {cy : ByteArray} {nY index n : Nat} {ret : Option FieldType} {rm : Room} {b ci : Nat} {fs : List Value} {r : vw_C} {As stk : List Value} {wc w1 ws' : va_W} {res : Option Value} {mc ms : Nat}
    (hM : mk_Met l y cy nY ret rm D tys X Y (.ref b :: As) wc w1 res mc ms) (h1 : Cond.methodLink own index y ∈ mk_WL) (h2 : Cond.instanceMethod y ∈ mk_WL) (h3 : Cond.selects y.cls y y ∈ mk_WL) (h4 : Cond.initialized y.cls ∈ mk_WL) (h5 : Cond.code y cy nY ret ∈ mk_WL) (hn : mk_nm y n) (hAs : As.length = n)
    (hR : rm.frames + 1 ≤ R.frames ∧ 8 + (nY + 11) + rm.locals ≤ R.locals) (hrm : rm.cells = mc ∧ rm.slots = ms) (hroom : cells + mc ≤ R.cells ∧ slots + ms ≤ R.slots) (q0 : Nat) (he : ws[q0]? = some (b, .inr (ci, fs))) (hc : vwCl[ci]? = some r) (hr : r.1 = y.cls) (hF : mk_Fr ws wc w1 ws') (hst : (st.map fun v => v.category).sum ≤ 8)
    (hdg : decode cc pc = .ok (.invokevirtual index, 3)) (hs : stk = As.reverse ++ .ref b :: st) (kk : mk_Go p l e R s m args below meth c D A nL (cells + mc) (slots + ms) Q (pc + 3) ws' lv (res.toList ++ st)) : mk_Go p l e R s m args below meth c D A nL cells slots Q pc ws lv stk := by
  subst hs
  intro H locs ls hP hD hS hl
  have hp := mk_pre (av := .ref b :: As) C hF hP hD hS
  refine mk_back C hF hP hD hS hl (va_runV (As := As) (rest := st) (C := y.cls) (n := n) C.1 (hM H.size) ⟨callB_of n C.1.2.2.2.2 (mk_good h5) rfl hrm.1 hrm.2 (C.1.2.2.2.2 _ h4) (C.1.2.2.2.2 _ h1) hn hR, C.1.2.2.2.2 _ h2, C.1.2.2.2.2 _ h3⟩ ⟨hp.1, ?_, hp.2⟩ rfl hAs hl.1 rfl (lv_room hst) hdg hroom) kk
  have h := va_recv C.2.1 hP hc he
  rw [hr] at h
  exact h
theorem mk_callS (C : mk_Cx p s m args c cc nL own D tys X Y A) {y : MethodName} {cy : ByteArray} {nY index n : Nat} {ret : Option FieldType} {rm : Room} {As stk : List Value} {wc w1 ws' : va_W} {res : Option Value} {mc ms : Nat}
    (hM : mk_Met l y cy nY ret rm D tys X Y As wc w1 res mc ms) (h1 : Cond.methodLink own index y ∈ mk_WL) (h2 : Cond.static y ∈ mk_WL) (h4 : Cond.initialized y.cls ∈ mk_WL) (h5 : Cond.code y cy nY ret ∈ mk_WL) (hn : mk_nm y n) (hAs : As.length = n)
    (hR : rm.frames + 1 ≤ R.frames ∧ 8 + (nY + 11) + rm.locals ≤ R.locals) (hrm : rm.cells = mc ∧ rm.slots = ms) (hroom : cells + mc ≤ R.cells ∧ slots + ms ≤ R.slots) (hF : mk_Fr ws wc w1 ws') (hst : (st.map fun v => v.category).sum ≤ 8)
    (hdg : decode cc pc = .ok (.invokestatic index, 3)) (hs : stk = As.reverse ++ st) (kk : mk_Go p l e R s m args below meth c D A nL (cells + mc) (slots + ms) Q (pc + 3) ws' lv (res.toList ++ st)) : mk_Go p l e R s m args below meth c D A nL cells slots Q pc ws lv stk := by
  subst hs
  intro H locs ls hP hD hS hl
  have hp := mk_pre (av := As) C hF hP hD hS
  exact mk_back C hF hP hD hS hl (va_runS (As := As) (rest := st) (n := n) C.1 (hM H.size) ⟨callB_of n C.1.2.2.2.2 (mk_good h5) rfl hrm.1 hrm.2 (C.1.2.2.2.2 _ h4) (C.1.2.2.2.2 _ h1) hn hR, C.1.2.2.2.2 _ h2⟩ hp rfl hAs hl.1 rfl (lv_room hst) hdg hroom) kk
/-- a private static method of a nest mate -/
theorem mk_callN (C : mk_Cx p s m args c cc nL own D tys X Y A) {y : MethodName} {cy : ByteArray} {nY index n : Nat} {ret : Option FieldType} {rm : Room} {As stk : List Value} {wc w1 ws' : va_W} {res : Option Value} {mc ms : Nat}
    (hM : mk_Met l y cy nY ret rm D tys X Y As wc w1 res mc ms) (h1 : (own, index, y) ∈ mk_nest) (h2 : Cond.static y ∈ mk_WL) (h4 : Cond.initialized y.cls ∈ mk_WL) (h5 : Cond.code y cy nY ret ∈ mk_WL) (hn : mk_nm y n) (hAs : As.length = n)
    (hR : rm.frames + 1 ≤ R.frames ∧ 8 + (nY + 11) + rm.locals ≤ R.locals) (hrm : rm.cells = mc ∧ rm.slots = ms) (hroom : cells + mc ≤ R.cells ∧ slots + ms ≤ R.slots) (hF : mk_Fr ws wc w1 ws') (hst : (st.map fun v => v.category).sum ≤ 8)
    (hdg : decode cc pc = .ok (.invokestatic index, 3)) (hs : stk = As.reverse ++ st) (kk : mk_Go p l e R s m args below meth c D A nL (cells + mc) (slots + ms) Q (pc + 3) ws' lv (res.toList ++ st)) : mk_Go p l e R s m args below meth c D A nL cells slots Q pc ws lv stk := by
  subst hs
  intro H locs ls hP hD hS hl
  have hp := mk_pre (av := As) C hF hP hD hS
  exact mk_back C hF hP hD hS hl (va_runSN (As := As) (rest := st) (n := n) C.1 (hM H.size) ⟨va_cnB n C.1.2.2.2.2 (mk_good h5) rfl hrm.1 hrm.2 (C.2.2.1.1.1 _ h1) (C.1.2.2.2.2 _ h4) hn hR, C.1.2.2.2.2 _ h2, trivial⟩ hp rfl hAs hl.1 rfl (lv_room hst) hdg hroom) kk
end MKROWS
