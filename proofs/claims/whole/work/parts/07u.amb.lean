/-! what the Statement gives of the start: the links of nest mates, the constants, the statics -/
theorem mk_and {a b : Cond} {args : Array Value} {s : State} (h : (Cond.and a b).before args s = true) : a.before args s = true ∧ b.before args s = true := by
  rw [Cond.before_and, Bool.and_eq_true] at h
  exact h
theorem mk_andL {a b : Cond} {args : Array Value} {s : State} (h : (Cond.and a b).before args s = true) : a.before args s = true := (mk_and h).1
theorem mk_andR {a b : Cond} {args : Array Value} {s : State} (h : (Cond.and a b).before args s = true) : b.before args s = true := (mk_and h).2
set_option maxRecDepth 100000 in
theorem mk_nestW : ∀ w ∈ mk_nest, Cond.methodLinkNest w.1 w.2.1 w.2.2 RX8 ∈ lw_tbl := List.forall_mem_cons.mpr ⟨(List.mem_append_right _ (List.mem_append_left _ (List.mem_of_getElem? (i := 28) rfl))), List.forall_mem_cons.mpr ⟨(List.mem_append_right _ (List.mem_append_left _ (List.mem_of_getElem? (i := 34) rfl))), List.forall_mem_cons.mpr ⟨(List.mem_append_right _ (List.mem_append_left _ (List.mem_of_getElem? (i := 51) rfl))), List.forall_mem_cons.mpr ⟨(List.mem_append_right _ (List.mem_append_left _ (List.mem_of_getElem? (i := 154) rfl))), List.forall_mem_cons.mpr ⟨(List.mem_append_right _ (List.mem_append_left _ (List.mem_of_getElem? (i := 159) rfl))), List.forall_mem_cons.mpr ⟨(List.mem_append_right _ (List.mem_append_left _ (List.mem_of_getElem? (i := 162) rfl))), List.forall_mem_cons.mpr ⟨(List.mem_append_right _ (List.mem_append_left _ (List.mem_of_getElem? (i := 184) rfl))), List.forall_mem_cons.mpr ⟨(List.mem_append_right _ (List.mem_append_right _ (List.mem_append_left _ (List.mem_of_getElem? (i := 57) rfl)))), List.forall_mem_cons.mpr ⟨(List.mem_append_right _ (List.mem_append_right _ (List.mem_append_left _ (List.mem_of_getElem? (i := 60) rfl)))), List.forall_mem_cons.mpr ⟨(List.mem_append_right _ (List.mem_append_right _ (List.mem_append_left _ (List.mem_of_getElem? (i := 77) rfl)))), List.forall_mem_cons.mpr ⟨(List.mem_append_right _ (List.mem_append_right _ (List.mem_append_left _ (List.mem_of_getElem? (i := 138) rfl)))), List.forall_mem_cons.mpr ⟨(List.mem_append_right _ (List.mem_append_right _ (List.mem_append_left _ (List.mem_of_getElem? (i := 161) rfl)))), List.forall_mem_cons.mpr ⟨(List.mem_append_right _ (List.mem_append_right _ (List.mem_append_right _ (List.mem_append_left _ (List.mem_of_getElem? (i := 27) rfl))))), List.forall_mem_cons.mpr ⟨(List.mem_append_right _ (List.mem_append_right _ (List.mem_append_right _ (List.mem_append_left _ (List.mem_of_getElem? (i := 37) rfl))))), List.forall_mem_cons.mpr ⟨(List.mem_append_right _ (List.mem_append_right _ (List.mem_append_right _ (List.mem_append_left _ (List.mem_of_getElem? (i := 73) rfl))))), List.forall_mem_cons.mpr ⟨(List.mem_append_right _ (List.mem_append_right _ (List.mem_append_right _ (List.mem_append_left _ (List.mem_of_getElem? (i := 95) rfl))))), List.forall_mem_cons.mpr ⟨(List.mem_append_right _ (List.mem_append_right _ (List.mem_append_right _ (List.mem_append_left _ (List.mem_of_getElem? (i := 100) rfl))))), List.forall_mem_cons.mpr ⟨(List.mem_append_right _ (List.mem_append_right _ (List.mem_append_right _ (List.mem_append_left _ (List.mem_of_getElem? (i := 132) rfl))))), List.forall_mem_cons.mpr ⟨(List.mem_append_right _ (List.mem_append_right _ (List.mem_append_right _ (List.mem_append_left _ (List.mem_of_getElem? (i := 141) rfl))))), List.forall_mem_cons.mpr ⟨(List.mem_append_right _ (List.mem_append_right _ (List.mem_append_right _ (List.mem_append_left _ (List.mem_of_getElem? (i := 229) rfl))))), List.forall_mem_cons.mpr ⟨(List.mem_append_right _ (List.mem_append_right _ (List.mem_append_right _ (List.mem_append_right _ (List.mem_append_left _ (List.mem_of_getElem? (i := 95) rfl)))))), List.forall_mem_cons.mpr ⟨(List.mem_append_right _ (List.mem_append_right _ (List.mem_append_right _ (List.mem_append_right _ (List.mem_append_left _ (List.mem_of_getElem? (i := 102) rfl)))))), List.forall_mem_cons.mpr ⟨(List.mem_append_right _ (List.mem_append_right _ (List.mem_append_right _ (List.mem_append_right _ (List.mem_append_left _ (List.mem_of_getElem? (i := 152) rfl)))))), List.forall_mem_cons.mpr ⟨(List.mem_append_right _ (List.mem_append_right _ (List.mem_append_right _ (List.mem_append_right _ (List.mem_append_left _ (List.mem_of_getElem? (i := 171) rfl)))))), fun _ h => absurd h List.not_mem_nil⟩⟩⟩⟩⟩⟩⟩⟩⟩⟩⟩⟩⟩⟩⟩⟩⟩⟩⟩⟩⟩⟩⟩⟩
theorem mk_eqRef {args : Array Value} {s : State} {t u : Term} {a : Nat} (h : (Cond.eq t u).before args s = true) (ht : t.eval args s none [] s = some (.ref a)) : u.eval args s none [] s = some (.ref a) := by
  cases hu : u.eval args s none [] s with
  | none => simp [Cond.before, Cond.holds, Cond.value, ht, hu] at h
  | some w => cases w <;> simp_all [Cond.before, Cond.holds, Cond.value]
theorem mk_one {args : Array Value} {s : State} {own : String} {e k : Nat} {A : Nat → Prop} (hk : mk_len.getD k 0 < 2 ^ 31) (hex : (Cond.exactly (.string own e) "java/lang/String").before args s = true) (hco : (Cond.eq (.field (.string own e) "java/lang/String" "coder" "B") (.int 0)).before args s = true) (har : (Cond.arrayOf (.field (.string own e) "java/lang/String" "value" "[B") .byte).before args s = true) (hle : (Cond.eq (.length (.field (.string own e) "java/lang/String" "value" "[B")) (.int (Int32.ofNat (mk_len.getD k 0)))).before args s = true)
    (hel : ∀ j : Nat, j < mk_len.getD k 0 → (Cond.eq (.elem (.field (.string own e) "java/lang/String" "value" "[B") (.int (Int32.ofNat j))) (.int ((mk_byt.getD k []).getD j 0))).before args s = true) (hA : ∀ a : Nat, a < s.heap.size → ¬ A a) :
    ∃ x y : Nat, mk_S1 x y k A s s.heap ∧ (Term.string own e).eval args s none [] s = some (.ref x) := by
  obtain ⟨aK, aV, h1, h2⟩ := vk_Sof (N := 1) (tm := fun _ => .string own e) (len := [mk_len.getD k 0]) (byt := [mk_byt.getD k []]) (A := A) (fun i hi => by (obtain rfl : i = 0 := (by omega)); exact hk) (fun _ _ => hex) (fun _ _ => hco) (fun _ _ => har) (fun i hi => by (obtain rfl : i = 0 := (by omega)); exact hle) (fun i hi j hj => by (obtain rfl : i = 0 := (by omega)); exact hel j hj) (fun i j hi hj hn => absurd (show i = j by omega) hn) hA
  exact ⟨aK 0, aV 0, h1.1 0 (by omega), h2 0 (by omega)⟩
set_option maxRecDepth 100000 in
theorem mk_str0 {args : Array Value} {s : State} {A : Nat → Prop} (h : narrow_1.before args s = true) (hA : ∀ a : Nat, a < s.heap.size → ¬ A a) : ∃ x y : Nat, mk_S1 x y 0 A s s.heap ∧ (Term.string RX5 51).eval args s none [] s = some (.ref x) ∧ (Term.string RX9 149).eval args s none [] s = some (.ref x) := by
  obtain ⟨x, y, h1, h2⟩ := mk_one (args := args) (s := s) (own := RX5) (e := 51) (k := 0) (A := A) (by decide) (mk_andL (mk_andL (mk_andR (mk_andL (mk_andL (mk_andL (mk_andL h))))))) (mk_andL (mk_andR (mk_andL (mk_andR (mk_andL (mk_andL (mk_andL (mk_andL h)))))))) (mk_andR (mk_andR (mk_andL (mk_andR (mk_andL (mk_andL (mk_andL (mk_andL h)))))))) (mk_andL (mk_andL (mk_andR (mk_andR (mk_andL (mk_andL (mk_andL (mk_andL h)))))))) (fun j hj => by
    have hj : j < 7 := hj
    rcases (show j = 0 ∨ j = 1 ∨ j = 2 ∨ j = 3 ∨ j = 4 ∨ j = 5 ∨ j = 6 by omega) with rfl | rfl | rfl | rfl | rfl | rfl | rfl
    · exact (mk_andR (mk_andL (mk_andR (mk_andR (mk_andL (mk_andL (mk_andL (mk_andL h))))))))
    · exact (mk_andL (mk_andR (mk_andR (mk_andR (mk_andL (mk_andL (mk_andL (mk_andL h))))))))
    · exact (mk_andR (mk_andR (mk_andR (mk_andR (mk_andL (mk_andL (mk_andL (mk_andL h))))))))
    · exact (mk_andL (mk_andL (mk_andL (mk_andR (mk_andL (mk_andL (mk_andL h)))))))
    · exact (mk_andL (mk_andR (mk_andL (mk_andL (mk_andR (mk_andL (mk_andL (mk_andL h))))))))
    · exact (mk_andR (mk_andR (mk_andL (mk_andL (mk_andR (mk_andL (mk_andL (mk_andL h))))))))
    · exact (mk_andL (mk_andL (mk_andR (mk_andL (mk_andR (mk_andL (mk_andL (mk_andL h))))))))) hA
  exact ⟨x, y, h1, h2, mk_eqRef (mk_andL (mk_andR (mk_andL (mk_andR (mk_andL (mk_andL (mk_andL (mk_andR h)))))))) h2⟩
set_option maxRecDepth 100000 in
theorem mk_str1 {args : Array Value} {s : State} {A : Nat → Prop} (h : narrow_1.before args s = true) (hA : ∀ a : Nat, a < s.heap.size → ¬ A a) : ∃ x y : Nat, mk_S1 x y 1 A s s.heap ∧ (Term.string RX5 74).eval args s none [] s = some (.ref x) ∧ (Term.string RX9 151).eval args s none [] s = some (.ref x) := by
  obtain ⟨x, y, h1, h2⟩ := mk_one (args := args) (s := s) (own := RX5) (e := 74) (k := 1) (A := A) (by decide) (mk_andR (mk_andL (mk_andR (mk_andL (mk_andR (mk_andL (mk_andL (mk_andL h)))))))) (mk_andL (mk_andR (mk_andR (mk_andL (mk_andR (mk_andL (mk_andL (mk_andL h)))))))) (mk_andR (mk_andR (mk_andR (mk_andL (mk_andR (mk_andL (mk_andL (mk_andL h)))))))) (mk_andL (mk_andL (mk_andL (mk_andR (mk_andR (mk_andL (mk_andL (mk_andL h)))))))) (fun j hj => by
    have hj : j < 3 := hj
    rcases (show j = 0 ∨ j = 1 ∨ j = 2 by omega) with rfl | rfl | rfl
    · exact (mk_andR (mk_andL (mk_andL (mk_andR (mk_andR (mk_andL (mk_andL (mk_andL h))))))))
    · exact (mk_andL (mk_andR (mk_andL (mk_andR (mk_andR (mk_andL (mk_andL (mk_andL h))))))))
    · exact (mk_andR (mk_andR (mk_andL (mk_andR (mk_andR (mk_andL (mk_andL (mk_andL h))))))))) hA
  exact ⟨x, y, h1, h2, mk_eqRef (mk_andR (mk_andR (mk_andL (mk_andL (mk_andR (mk_andL (mk_andL (mk_andR h)))))))) h2⟩
set_option maxRecDepth 100000 in
theorem mk_str2 {args : Array Value} {s : State} {A : Nat → Prop} (h : narrow_1.before args s = true) (hA : ∀ a : Nat, a < s.heap.size → ¬ A a) : ∃ x y : Nat, mk_S1 x y 2 A s s.heap ∧ (Term.string RX5 88).eval args s none [] s = some (.ref x) ∧ (Term.string RX9 157).eval args s none [] s = some (.ref x) := by
  obtain ⟨x, y, h1, h2⟩ := mk_one (args := args) (s := s) (own := RX5) (e := 88) (k := 2) (A := A) (by decide) (mk_andL (mk_andL (mk_andR (mk_andR (mk_andR (mk_andL (mk_andL (mk_andL h)))))))) (mk_andR (mk_andL (mk_andR (mk_andR (mk_andR (mk_andL (mk_andL (mk_andL h)))))))) (mk_andL (mk_andR (mk_andR (mk_andR (mk_andR (mk_andL (mk_andL (mk_andL h)))))))) (mk_andR (mk_andR (mk_andR (mk_andR (mk_andR (mk_andL (mk_andL (mk_andL h)))))))) (fun j hj => by
    have hj : j < 5 := hj
    rcases (show j = 0 ∨ j = 1 ∨ j = 2 ∨ j = 3 ∨ j = 4 by omega) with rfl | rfl | rfl | rfl | rfl
    · exact (mk_andL (mk_andL (mk_andL (mk_andL (mk_andR (mk_andL (mk_andL h)))))))
    · exact (mk_andL (mk_andR (mk_andL (mk_andL (mk_andL (mk_andR (mk_andL (mk_andL h))))))))
    · exact (mk_andR (mk_andR (mk_andL (mk_andL (mk_andL (mk_andR (mk_andL (mk_andL h))))))))
    · exact (mk_andL (mk_andL (mk_andR (mk_andL (mk_andL (mk_andR (mk_andL (mk_andL h))))))))
    · exact (mk_andR (mk_andL (mk_andR (mk_andL (mk_andL (mk_andR (mk_andL (mk_andL h))))))))) hA
  exact ⟨x, y, h1, h2, mk_eqRef (mk_andR (mk_andL (mk_andR (mk_andR (mk_andR (mk_andL (mk_andL (mk_andR h)))))))) h2⟩
set_option maxRecDepth 100000 in
theorem mk_str3 {args : Array Value} {s : State} {A : Nat → Prop} (h : narrow_1.before args s = true) (hA : ∀ a : Nat, a < s.heap.size → ¬ A a) : ∃ x y : Nat, mk_S1 x y 3 A s s.heap ∧ (Term.string RX5 92).eval args s none [] s = some (.ref x) ∧ (Term.string RX9 159).eval args s none [] s = some (.ref x) := by
  obtain ⟨x, y, h1, h2⟩ := mk_one (args := args) (s := s) (own := RX5) (e := 92) (k := 3) (A := A) (by decide) (mk_andL (mk_andR (mk_andR (mk_andL (mk_andL (mk_andR (mk_andL (mk_andL h)))))))) (mk_andR (mk_andR (mk_andR (mk_andL (mk_andL (mk_andR (mk_andL (mk_andL h)))))))) (mk_andL (mk_andL (mk_andL (mk_andR (mk_andL (mk_andR (mk_andL (mk_andL h)))))))) (mk_andR (mk_andL (mk_andL (mk_andR (mk_andL (mk_andR (mk_andL (mk_andL h)))))))) (fun j hj => by
    have hj : j < 5 := hj
    rcases (show j = 0 ∨ j = 1 ∨ j = 2 ∨ j = 3 ∨ j = 4 by omega) with rfl | rfl | rfl | rfl | rfl
    · exact (mk_andL (mk_andR (mk_andL (mk_andR (mk_andL (mk_andR (mk_andL (mk_andL h))))))))
    · exact (mk_andR (mk_andR (mk_andL (mk_andR (mk_andL (mk_andR (mk_andL (mk_andL h))))))))
    · exact (mk_andL (mk_andL (mk_andR (mk_andR (mk_andL (mk_andR (mk_andL (mk_andL h))))))))
    · exact (mk_andR (mk_andL (mk_andR (mk_andR (mk_andL (mk_andR (mk_andL (mk_andL h))))))))
    · exact (mk_andL (mk_andR (mk_andR (mk_andR (mk_andL (mk_andR (mk_andL (mk_andL h))))))))) hA
  exact ⟨x, y, h1, h2, mk_eqRef (mk_andL (mk_andL (mk_andL (mk_andR (mk_andL (mk_andR (mk_andL (mk_andR h)))))))) h2⟩
set_option maxRecDepth 100000 in
theorem mk_str4 {args : Array Value} {s : State} {A : Nat → Prop} (h : narrow_1.before args s = true) (hA : ∀ a : Nat, a < s.heap.size → ¬ A a) : ∃ x y : Nat, mk_S1 x y 4 A s s.heap ∧ (Term.string RX5 96).eval args s none [] s = some (.ref x) ∧ (Term.string RX9 161).eval args s none [] s = some (.ref x) := by
  obtain ⟨x, y, h1, h2⟩ := mk_one (args := args) (s := s) (own := RX5) (e := 96) (k := 4) (A := A) (by decide) (mk_andR (mk_andR (mk_andR (mk_andR (mk_andL (mk_andR (mk_andL (mk_andL h)))))))) (mk_andL (mk_andL (mk_andL (mk_andR (mk_andR (mk_andL (mk_andL h))))))) (mk_andL (mk_andR (mk_andL (mk_andL (mk_andR (mk_andR (mk_andL (mk_andL h)))))))) (mk_andR (mk_andR (mk_andL (mk_andL (mk_andR (mk_andR (mk_andL (mk_andL h)))))))) (fun j hj => by
    have hj : j < 6 := hj
    rcases (show j = 0 ∨ j = 1 ∨ j = 2 ∨ j = 3 ∨ j = 4 ∨ j = 5 by omega) with rfl | rfl | rfl | rfl | rfl | rfl
    · exact (mk_andL (mk_andL (mk_andR (mk_andL (mk_andR (mk_andR (mk_andL (mk_andL h))))))))
    · exact (mk_andR (mk_andL (mk_andR (mk_andL (mk_andR (mk_andR (mk_andL (mk_andL h))))))))
    · exact (mk_andL (mk_andR (mk_andR (mk_andL (mk_andR (mk_andR (mk_andL (mk_andL h))))))))
    · exact (mk_andR (mk_andR (mk_andR (mk_andL (mk_andR (mk_andR (mk_andL (mk_andL h))))))))
    · exact (mk_andL (mk_andL (mk_andL (mk_andR (mk_andR (mk_andR (mk_andL (mk_andL h))))))))
    · exact (mk_andR (mk_andL (mk_andL (mk_andR (mk_andR (mk_andR (mk_andL (mk_andL h))))))))) hA
  exact ⟨x, y, h1, h2, mk_eqRef (mk_andL (mk_andL (mk_andR (mk_andL (mk_andR (mk_andR (mk_andL (mk_andR h)))))))) h2⟩
set_option maxRecDepth 100000 in
theorem mk_str5 {args : Array Value} {s : State} {A : Nat → Prop} (h : narrow_1.before args s = true) (hA : ∀ a : Nat, a < s.heap.size → ¬ A a) : ∃ x y : Nat, mk_S1 x y 5 A s s.heap ∧ (Term.string RX5 64).eval args s none [] s = some (.ref x) ∧ (Term.string RX9 181).eval args s none [] s = some (.ref x) := by
  obtain ⟨x, y, h1, h2⟩ := mk_one (args := args) (s := s) (own := RX5) (e := 64) (k := 5) (A := A) (by decide) (mk_andL (mk_andR (mk_andL (mk_andR (mk_andR (mk_andR (mk_andL (mk_andL h)))))))) (mk_andR (mk_andR (mk_andL (mk_andR (mk_andR (mk_andR (mk_andL (mk_andL h)))))))) (mk_andL (mk_andL (mk_andR (mk_andR (mk_andR (mk_andR (mk_andL (mk_andL h)))))))) (mk_andR (mk_andL (mk_andR (mk_andR (mk_andR (mk_andR (mk_andL (mk_andL h)))))))) (fun j hj => by
    have hj : j < 6 := hj
    rcases (show j = 0 ∨ j = 1 ∨ j = 2 ∨ j = 3 ∨ j = 4 ∨ j = 5 by omega) with rfl | rfl | rfl | rfl | rfl | rfl
    · exact (mk_andL (mk_andR (mk_andR (mk_andR (mk_andR (mk_andR (mk_andL (mk_andL h))))))))
    · exact (mk_andR (mk_andR (mk_andR (mk_andR (mk_andR (mk_andR (mk_andL (mk_andL h))))))))
    · exact (mk_andL (mk_andL (mk_andL (mk_andL (mk_andL (mk_andR (mk_andL h)))))))
    · exact (mk_andL (mk_andR (mk_andL (mk_andL (mk_andL (mk_andL (mk_andR (mk_andL h))))))))
    · exact (mk_andR (mk_andR (mk_andL (mk_andL (mk_andL (mk_andL (mk_andR (mk_andL h))))))))
    · exact (mk_andL (mk_andL (mk_andR (mk_andL (mk_andL (mk_andL (mk_andR (mk_andL h))))))))) hA
  exact ⟨x, y, h1, h2, mk_eqRef (mk_andR (mk_andR (mk_andR (mk_andR (mk_andR (mk_andR (mk_andL (mk_andR h)))))))) h2⟩
set_option maxRecDepth 100000 in
theorem mk_str6 {args : Array Value} {s : State} {A : Nat → Prop} (h : narrow_1.before args s = true) (hA : ∀ a : Nat, a < s.heap.size → ¬ A a) : ∃ x y : Nat, mk_S1 x y 6 A s s.heap ∧ (Term.string RX5 106).eval args s none [] s = some (.ref x) ∧ (Term.string RX9 163).eval args s none [] s = some (.ref x) := by
  obtain ⟨x, y, h1, h2⟩ := mk_one (args := args) (s := s) (own := RX5) (e := 106) (k := 6) (A := A) (by decide) (mk_andR (mk_andL (mk_andR (mk_andL (mk_andL (mk_andL (mk_andR (mk_andL h)))))))) (mk_andL (mk_andR (mk_andR (mk_andL (mk_andL (mk_andL (mk_andR (mk_andL h)))))))) (mk_andR (mk_andR (mk_andR (mk_andL (mk_andL (mk_andL (mk_andR (mk_andL h)))))))) (mk_andL (mk_andL (mk_andR (mk_andL (mk_andL (mk_andR (mk_andL h))))))) (fun j hj => by
    have hj : j < 2 := hj
    rcases (show j = 0 ∨ j = 1 by omega) with rfl | rfl
    · exact (mk_andL (mk_andR (mk_andL (mk_andR (mk_andL (mk_andL (mk_andR (mk_andL h))))))))
    · exact (mk_andR (mk_andR (mk_andL (mk_andR (mk_andL (mk_andL (mk_andR (mk_andL h))))))))) hA
  exact ⟨x, y, h1, h2, mk_eqRef (mk_andR (mk_andR (mk_andR (mk_andL (mk_andL (mk_andL (mk_andR (mk_andR h)))))))) h2⟩
set_option maxRecDepth 100000 in
theorem mk_str7 {args : Array Value} {s : State} {A : Nat → Prop} (h : narrow_1.before args s = true) (hA : ∀ a : Nat, a < s.heap.size → ¬ A a) : ∃ x y : Nat, mk_S1 x y 7 A s s.heap ∧ (Term.string RX5 108).eval args s none [] s = some (.ref x) ∧ (Term.string RX9 164).eval args s none [] s = some (.ref x) := by
  obtain ⟨x, y, h1, h2⟩ := mk_one (args := args) (s := s) (own := RX5) (e := 108) (k := 7) (A := A) (by decide) (mk_andL (mk_andL (mk_andR (mk_andR (mk_andL (mk_andL (mk_andR (mk_andL h)))))))) (mk_andR (mk_andL (mk_andR (mk_andR (mk_andL (mk_andL (mk_andR (mk_andL h)))))))) (mk_andL (mk_andR (mk_andR (mk_andR (mk_andL (mk_andL (mk_andR (mk_andL h)))))))) (mk_andR (mk_andR (mk_andR (mk_andR (mk_andL (mk_andL (mk_andR (mk_andL h)))))))) (fun j hj => by
    have hj : j < 4 := hj
    rcases (show j = 0 ∨ j = 1 ∨ j = 2 ∨ j = 3 by omega) with rfl | rfl | rfl | rfl
    · exact (mk_andL (mk_andL (mk_andL (mk_andR (mk_andL (mk_andR (mk_andL h)))))))
    · exact (mk_andL (mk_andR (mk_andL (mk_andL (mk_andR (mk_andL (mk_andR (mk_andL h))))))))
    · exact (mk_andR (mk_andR (mk_andL (mk_andL (mk_andR (mk_andL (mk_andR (mk_andL h))))))))
    · exact (mk_andL (mk_andL (mk_andR (mk_andL (mk_andR (mk_andL (mk_andR (mk_andL h))))))))) hA
  exact ⟨x, y, h1, h2, mk_eqRef (mk_andL (mk_andR (mk_andL (mk_andL (mk_andR (mk_andL (mk_andR (mk_andR h)))))))) h2⟩
set_option maxRecDepth 100000 in
theorem mk_str8 {args : Array Value} {s : State} {A : Nat → Prop} (h : narrow_1.before args s = true) (hA : ∀ a : Nat, a < s.heap.size → ¬ A a) : ∃ x y : Nat, mk_S1 x y 8 A s s.heap ∧ (Term.string RX5 69).eval args s none [] s = some (.ref x) ∧ (Term.string RX9 186).eval args s none [] s = some (.ref x) := by
  obtain ⟨x, y, h1, h2⟩ := mk_one (args := args) (s := s) (own := RX5) (e := 69) (k := 8) (A := A) (by decide) (mk_andR (mk_andL (mk_andR (mk_andL (mk_andR (mk_andL (mk_andR (mk_andL h)))))))) (mk_andL (mk_andR (mk_andR (mk_andL (mk_andR (mk_andL (mk_andR (mk_andL h)))))))) (mk_andR (mk_andR (mk_andR (mk_andL (mk_andR (mk_andL (mk_andR (mk_andL h)))))))) (mk_andL (mk_andL (mk_andL (mk_andR (mk_andR (mk_andL (mk_andR (mk_andL h)))))))) (fun j hj => by
    have hj : j < 5 := hj
    rcases (show j = 0 ∨ j = 1 ∨ j = 2 ∨ j = 3 ∨ j = 4 by omega) with rfl | rfl | rfl | rfl | rfl
    · exact (mk_andR (mk_andL (mk_andL (mk_andR (mk_andR (mk_andL (mk_andR (mk_andL h))))))))
    · exact (mk_andL (mk_andR (mk_andL (mk_andR (mk_andR (mk_andL (mk_andR (mk_andL h))))))))
    · exact (mk_andR (mk_andR (mk_andL (mk_andR (mk_andR (mk_andL (mk_andR (mk_andL h))))))))
    · exact (mk_andL (mk_andL (mk_andR (mk_andR (mk_andR (mk_andL (mk_andR (mk_andL h))))))))
    · exact (mk_andR (mk_andL (mk_andR (mk_andR (mk_andR (mk_andL (mk_andR (mk_andL h))))))))) hA
  exact ⟨x, y, h1, h2, mk_eqRef (mk_andL (mk_andL (mk_andR (mk_andR (mk_andR (mk_andL (mk_andR (mk_andR h)))))))) h2⟩
set_option maxRecDepth 100000 in
theorem mk_str9 {args : Array Value} {s : State} {A : Nat → Prop} (h : narrow_1.before args s = true) (hA : ∀ a : Nat, a < s.heap.size → ¬ A a) : ∃ x y : Nat, mk_S1 x y 9 A s s.heap ∧ (Term.string RX5 126).eval args s none [] s = some (.ref x) ∧ (Term.string RX9 170).eval args s none [] s = some (.ref x) := by
  obtain ⟨x, y, h1, h2⟩ := mk_one (args := args) (s := s) (own := RX5) (e := 126) (k := 9) (A := A) (by decide) (mk_andL (mk_andR (mk_andR (mk_andR (mk_andR (mk_andL (mk_andR (mk_andL h)))))))) (mk_andR (mk_andR (mk_andR (mk_andR (mk_andR (mk_andL (mk_andR (mk_andL h)))))))) (mk_andL (mk_andL (mk_andL (mk_andL (mk_andR (mk_andR (mk_andL h))))))) (mk_andL (mk_andR (mk_andL (mk_andL (mk_andL (mk_andR (mk_andR (mk_andL h)))))))) (fun j hj => by
    have hj : j < 2 := hj
    rcases (show j = 0 ∨ j = 1 by omega) with rfl | rfl
    · exact (mk_andR (mk_andR (mk_andL (mk_andL (mk_andL (mk_andR (mk_andR (mk_andL h))))))))
    · exact (mk_andL (mk_andL (mk_andR (mk_andL (mk_andL (mk_andR (mk_andR (mk_andL h))))))))) hA
  exact ⟨x, y, h1, h2, mk_eqRef (mk_andL (mk_andL (mk_andR (mk_andL (mk_andL (mk_andR (mk_andR (mk_andR h)))))))) h2⟩
set_option maxRecDepth 100000 in
theorem mk_str10 {args : Array Value} {s : State} {A : Nat → Prop} (h : narrow_1.before args s = true) (hA : ∀ a : Nat, a < s.heap.size → ¬ A a) : ∃ x y : Nat, mk_S1 x y 10 A s s.heap ∧ (Term.string RX5 143).eval args s none [] s = some (.ref x) ∧ (Term.string RX9 172).eval args s none [] s = some (.ref x) := by
  obtain ⟨x, y, h1, h2⟩ := mk_one (args := args) (s := s) (own := RX5) (e := 143) (k := 10) (A := A) (by decide) (mk_andR (mk_andL (mk_andR (mk_andL (mk_andL (mk_andR (mk_andR (mk_andL h)))))))) (mk_andL (mk_andR (mk_andR (mk_andL (mk_andL (mk_andR (mk_andR (mk_andL h)))))))) (mk_andR (mk_andR (mk_andR (mk_andL (mk_andL (mk_andR (mk_andR (mk_andL h)))))))) (mk_andL (mk_andL (mk_andL (mk_andR (mk_andL (mk_andR (mk_andR (mk_andL h)))))))) (fun j hj => by
    have hj : j < 4 := hj
    rcases (show j = 0 ∨ j = 1 ∨ j = 2 ∨ j = 3 by omega) with rfl | rfl | rfl | rfl
    · exact (mk_andR (mk_andL (mk_andL (mk_andR (mk_andL (mk_andR (mk_andR (mk_andL h))))))))
    · exact (mk_andL (mk_andR (mk_andL (mk_andR (mk_andL (mk_andR (mk_andR (mk_andL h))))))))
    · exact (mk_andR (mk_andR (mk_andL (mk_andR (mk_andL (mk_andR (mk_andR (mk_andL h))))))))
    · exact (mk_andL (mk_andL (mk_andR (mk_andR (mk_andL (mk_andR (mk_andR (mk_andL h))))))))) hA
  exact ⟨x, y, h1, h2, mk_eqRef (mk_andR (mk_andL (mk_andR (mk_andR (mk_andL (mk_andR (mk_andR (mk_andR h)))))))) h2⟩
set_option maxRecDepth 100000 in
theorem mk_str11 {args : Array Value} {s : State} {A : Nat → Prop} (h : narrow_1.before args s = true) (hA : ∀ a : Nat, a < s.heap.size → ¬ A a) : ∃ x y : Nat, mk_S1 x y 11 A s s.heap ∧ (Term.string RX5 145).eval args s none [] s = some (.ref x) ∧ (Term.string RX9 174).eval args s none [] s = some (.ref x) := by
  obtain ⟨x, y, h1, h2⟩ := mk_one (args := args) (s := s) (own := RX5) (e := 145) (k := 11) (A := A) (by decide) (mk_andR (mk_andL (mk_andR (mk_andR (mk_andL (mk_andR (mk_andR (mk_andL h)))))))) (mk_andL (mk_andR (mk_andR (mk_andR (mk_andL (mk_andR (mk_andR (mk_andL h)))))))) (mk_andR (mk_andR (mk_andR (mk_andR (mk_andL (mk_andR (mk_andR (mk_andL h)))))))) (mk_andL (mk_andL (mk_andL (mk_andR (mk_andR (mk_andR (mk_andL h))))))) (fun j hj => by
    have hj : j < 3 := hj
    rcases (show j = 0 ∨ j = 1 ∨ j = 2 by omega) with rfl | rfl | rfl
    · exact (mk_andL (mk_andR (mk_andL (mk_andL (mk_andR (mk_andR (mk_andR (mk_andL h))))))))
    · exact (mk_andR (mk_andR (mk_andL (mk_andL (mk_andR (mk_andR (mk_andR (mk_andL h))))))))
    · exact (mk_andL (mk_andL (mk_andR (mk_andL (mk_andR (mk_andR (mk_andR (mk_andL h))))))))) hA
  exact ⟨x, y, h1, h2, mk_eqRef (mk_andL (mk_andR (mk_andR (mk_andL (mk_andR (mk_andR (mk_andR (mk_andR h)))))))) h2⟩
set_option maxRecDepth 100000 in
theorem mk_str12 {args : Array Value} {s : State} {A : Nat → Prop} (h : narrow_1.before args s = true) (hA : ∀ a : Nat, a < s.heap.size → ¬ A a) : ∃ x y : Nat, mk_S1 x y 12 A s s.heap ∧ (Term.string RX5 147).eval args s none [] s = some (.ref x) ∧ (Term.string RX9 176).eval args s none [] s = some (.ref x) := by
  obtain ⟨x, y, h1, h2⟩ := mk_one (args := args) (s := s) (own := RX5) (e := 147) (k := 12) (A := A) (by decide) (mk_andR (mk_andL (mk_andR (mk_andL (mk_andR (mk_andR (mk_andR (mk_andL h)))))))) (mk_andL (mk_andR (mk_andR (mk_andL (mk_andR (mk_andR (mk_andR (mk_andL h)))))))) (mk_andR (mk_andR (mk_andR (mk_andL (mk_andR (mk_andR (mk_andR (mk_andL h)))))))) (mk_andL (mk_andL (mk_andL (mk_andR (mk_andR (mk_andR (mk_andR (mk_andL h)))))))) (fun j hj => by
    have hj : j < 4 := hj
    rcases (show j = 0 ∨ j = 1 ∨ j = 2 ∨ j = 3 by omega) with rfl | rfl | rfl | rfl
    · exact (mk_andR (mk_andL (mk_andL (mk_andR (mk_andR (mk_andR (mk_andR (mk_andL h))))))))
    · exact (mk_andL (mk_andR (mk_andL (mk_andR (mk_andR (mk_andR (mk_andR (mk_andL h))))))))
    · exact (mk_andR (mk_andR (mk_andL (mk_andR (mk_andR (mk_andR (mk_andR (mk_andL h))))))))
    · exact (mk_andL (mk_andL (mk_andR (mk_andR (mk_andR (mk_andR (mk_andR (mk_andL h))))))))) hA
  exact ⟨x, y, h1, h2, mk_eqRef (mk_andR (mk_andR (mk_andR (mk_andR (mk_andR (mk_andR (mk_andR (mk_andR h)))))))) h2⟩
set_option maxRecDepth 100000 in
theorem mk_ambient {args : Array Value} {s : State} {A : Nat → Prop} (hts : ∀ w ∈ lw_tbl, w.before args s = true) (hn : narrow_1.before args s = true) (hA : ∀ a : Nat, a < s.heap.size → ¬ A a) : ∃ X Y : Nat → Nat, mk_Amb X Y A s s.heap := by
  obtain ⟨x0, y0, s0, e0⟩ := mk_str0 hn hA
  obtain ⟨x1, y1, s1, e1⟩ := mk_str1 hn hA
  obtain ⟨x2, y2, s2, e2⟩ := mk_str2 hn hA
  obtain ⟨x3, y3, s3, e3⟩ := mk_str3 hn hA
  obtain ⟨x4, y4, s4, e4⟩ := mk_str4 hn hA
  obtain ⟨x5, y5, s5, e5⟩ := mk_str5 hn hA
  obtain ⟨x6, y6, s6, e6⟩ := mk_str6 hn hA
  obtain ⟨x7, y7, s7, e7⟩ := mk_str7 hn hA
  obtain ⟨x8, y8, s8, e8⟩ := mk_str8 hn hA
  obtain ⟨x9, y9, s9, e9⟩ := mk_str9 hn hA
  obtain ⟨x10, y10, s10, e10⟩ := mk_str10 hn hA
  obtain ⟨x11, y11, s11, e11⟩ := mk_str11 hn hA
  obtain ⟨x12, y12, s12, e12⟩ := mk_str12 hn hA
  refine ⟨(fun i => [x0, x1, x2, x3, x4, x5, x6, x7, x8, x9, x10, x11, x12].getD i 0), (fun i => [y0, y1, y2, y3, y4, y5, y6, y7, y8, y9, y10, y11, y12].getD i 0), fun w hw => va_Nw.of rfl (hts _ (mk_nestW w hw)), List.forall_mem_cons.mpr ⟨vk_R.of (hts _ (List.mem_append_right _ (List.mem_append_right _ (List.mem_append_left _ (List.mem_of_getElem? (i := 174) rfl))))) e0.1, List.forall_mem_cons.mpr ⟨vk_R.of (hts _ (List.mem_append_right _ (List.mem_append_right _ (List.mem_append_left _ (List.mem_of_getElem? (i := 231) rfl))))) e1.1, List.forall_mem_cons.mpr ⟨vk_R.of (hts _ (List.mem_append_right _ (List.mem_append_right _ (List.mem_append_right _ (List.mem_append_left _ (List.mem_of_getElem? (i := 5) rfl)))))) e2.1, List.forall_mem_cons.mpr ⟨vk_R.of (hts _ (List.mem_append_right _ (List.mem_append_right _ (List.mem_append_right _ (List.mem_append_left _ (List.mem_of_getElem? (i := 6) rfl)))))) e3.1, List.forall_mem_cons.mpr ⟨vk_R.of (hts _ (List.mem_append_right _ (List.mem_append_right _ (List.mem_append_right _ (List.mem_append_left _ (List.mem_of_getElem? (i := 7) rfl)))))) e4.1, List.forall_mem_cons.mpr ⟨vk_R.of (hts _ (List.mem_append_right _ (List.mem_append_right _ (List.mem_append_right _ (List.mem_append_left _ (List.mem_of_getElem? (i := 12) rfl)))))) e5.1, List.forall_mem_cons.mpr ⟨vk_R.of (hts _ (List.mem_append_right _ (List.mem_append_right _ (List.mem_append_right _ (List.mem_append_left _ (List.mem_of_getElem? (i := 17) rfl)))))) e6.1, List.forall_mem_cons.mpr ⟨vk_R.of (hts _ (List.mem_append_right _ (List.mem_append_right _ (List.mem_append_right _ (List.mem_append_left _ (List.mem_of_getElem? (i := 18) rfl)))))) e7.1, List.forall_mem_cons.mpr ⟨vk_R.of (hts _ (List.mem_append_right _ (List.mem_append_right _ (List.mem_append_right _ (List.mem_append_left _ (List.mem_of_getElem? (i := 28) rfl)))))) e8.1, List.forall_mem_cons.mpr ⟨vk_R.of (hts _ (List.mem_append_right _ (List.mem_append_right _ (List.mem_append_right _ (List.mem_append_left _ (List.mem_of_getElem? (i := 38) rfl)))))) e9.1, List.forall_mem_cons.mpr ⟨vk_R.of (hts _ (List.mem_append_right _ (List.mem_append_right _ (List.mem_append_right _ (List.mem_append_left _ (List.mem_of_getElem? (i := 43) rfl)))))) e10.1, List.forall_mem_cons.mpr ⟨vk_R.of (hts _ (List.mem_append_right _ (List.mem_append_right _ (List.mem_append_right _ (List.mem_append_left _ (List.mem_of_getElem? (i := 44) rfl)))))) e11.1, List.forall_mem_cons.mpr ⟨vk_R.of (hts _ (List.mem_append_right _ (List.mem_append_right _ (List.mem_append_right _ (List.mem_append_left _ (List.mem_of_getElem? (i := 45) rfl)))))) e12.1, List.forall_mem_cons.mpr ⟨vk_R.of (hts _ (List.mem_append_right _ (List.mem_append_right _ (List.mem_append_right _ (List.mem_append_right _ (List.mem_append_right _ (List.mem_append_left _ (List.mem_of_getElem? (i := 113) rfl)))))))) e0.2, List.forall_mem_cons.mpr ⟨vk_R.of (hts _ (List.mem_append_right _ (List.mem_append_right _ (List.mem_append_right _ (List.mem_append_right _ (List.mem_append_right _ (List.mem_append_left _ (List.mem_of_getElem? (i := 128) rfl)))))))) e1.2, List.forall_mem_cons.mpr ⟨vk_R.of (hts _ (List.mem_append_right _ (List.mem_append_right _ (List.mem_append_right _ (List.mem_append_right _ (List.mem_append_right _ (List.mem_append_left _ (List.mem_of_getElem? (i := 137) rfl)))))))) e2.2, List.forall_mem_cons.mpr ⟨vk_R.of (hts _ (List.mem_append_right _ (List.mem_append_right _ (List.mem_append_right _ (List.mem_append_right _ (List.mem_append_right _ (List.mem_append_left _ (List.mem_of_getElem? (i := 138) rfl)))))))) e3.2, List.forall_mem_cons.mpr ⟨vk_R.of (hts _ (List.mem_append_right _ (List.mem_append_right _ (List.mem_append_right _ (List.mem_append_right _ (List.mem_append_right _ (List.mem_append_left _ (List.mem_of_getElem? (i := 139) rfl)))))))) e4.2, List.forall_mem_cons.mpr ⟨vk_R.of (hts _ (List.mem_append_right _ (List.mem_append_right _ (List.mem_append_right _ (List.mem_append_right _ (List.mem_append_right _ (List.mem_append_left _ (List.mem_of_getElem? (i := 140) rfl)))))))) e5.2, List.forall_mem_cons.mpr ⟨vk_R.of (hts _ (List.mem_append_right _ (List.mem_append_right _ (List.mem_append_right _ (List.mem_append_right _ (List.mem_append_right _ (List.mem_append_left _ (List.mem_of_getElem? (i := 145) rfl)))))))) e6.2, List.forall_mem_cons.mpr ⟨vk_R.of (hts _ (List.mem_append_right _ (List.mem_append_right _ (List.mem_append_right _ (List.mem_append_right _ (List.mem_append_right _ (List.mem_append_left _ (List.mem_of_getElem? (i := 146) rfl)))))))) e7.2, List.forall_mem_cons.mpr ⟨vk_R.of (hts _ (List.mem_append_right _ (List.mem_append_right _ (List.mem_append_right _ (List.mem_append_right _ (List.mem_append_right _ (List.mem_append_left _ (List.mem_of_getElem? (i := 147) rfl)))))))) e8.2, List.forall_mem_cons.mpr ⟨vk_R.of (hts _ (List.mem_append_right _ (List.mem_append_right _ (List.mem_append_right _ (List.mem_append_right _ (List.mem_append_right _ (List.mem_append_left _ (List.mem_of_getElem? (i := 156) rfl)))))))) e9.2, List.forall_mem_cons.mpr ⟨vk_R.of (hts _ (List.mem_append_right _ (List.mem_append_right _ (List.mem_append_right _ (List.mem_append_right _ (List.mem_append_right _ (List.mem_append_left _ (List.mem_of_getElem? (i := 157) rfl)))))))) e10.2, List.forall_mem_cons.mpr ⟨vk_R.of (hts _ (List.mem_append_right _ (List.mem_append_right _ (List.mem_append_right _ (List.mem_append_right _ (List.mem_append_right _ (List.mem_append_left _ (List.mem_of_getElem? (i := 158) rfl)))))))) e11.2, List.forall_mem_cons.mpr ⟨vk_R.of (hts _ (List.mem_append_right _ (List.mem_append_right _ (List.mem_append_right _ (List.mem_append_right _ (List.mem_append_right _ (List.mem_append_left _ (List.mem_of_getElem? (i := 159) rfl)))))))) e12.2, fun _ h => absurd h List.not_mem_nil⟩⟩⟩⟩⟩⟩⟩⟩⟩⟩⟩⟩⟩⟩⟩⟩⟩⟩⟩⟩⟩⟩⟩⟩⟩⟩, ⟨fun k hk => ?_, trivial⟩, va_Zof (hts _ (List.mem_append_right _ (List.mem_append_right _ (List.mem_append_left _ (List.mem_of_getElem? (i := 188) rfl))))) (hts _ (List.mem_append_right _ (List.mem_append_left _ (List.mem_of_getElem? (i := 11) rfl)))) (va_eqi (mk_andR (mk_andR (mk_andL (mk_andL (mk_andL (mk_andL (mk_andL (mk_andL hn))))))))) hA, va_Zqof (hts _ (List.mem_append_right _ (List.mem_append_right _ (List.mem_append_left _ (List.mem_of_getElem? (i := 204) rfl))))) (hts _ (List.mem_append_right _ (List.mem_append_left _ (List.mem_of_getElem? (i := 13) rfl)))) (mk_andL (mk_andL (mk_andR (mk_andL (mk_andL (mk_andL (mk_andL (mk_andL hn)))))))) hA⟩
  rcases (show k = 0 ∨ k = 1 ∨ k = 2 ∨ k = 3 ∨ k = 4 ∨ k = 5 ∨ k = 6 ∨ k = 7 ∨ k = 8 ∨ k = 9 ∨ k = 10 ∨ k = 11 ∨ k = 12 by omega) with rfl | rfl | rfl | rfl | rfl | rfl | rfl | rfl | rfl | rfl | rfl | rfl | rfl
  · exact s0
  · exact s1
  · exact s2
  · exact s3
  · exact s4
  · exact s5
  · exact s6
  · exact s7
  · exact s8
  · exact s9
  · exact s10
  · exact s11
  · exact s12
