/-! pure: the acts' tools -/
def ud (f : Nat → Nat) (k v : Nat) : Nat → Nat := fun j => if j = k then v else f j
theorem ud_s {f : Nat → Nat} {k v : Nat} : ud f k v k = v := if_pos rfl
theorem ud_n {f : Nat → Nat} {k v j : Nat} (h : j ≠ k) : ud f k v j = f j := if_neg h
theorem mk_MP_u {g : Nat → Int32} {d : Nat → Nat} (h : mk_MP g d) (k v : Nat) : mk_MP (upd g k (nI v)) (ud d k v) := by
  intro j
  by_cases q : j = k
  · subst q; rw [upd_s, ud_s]
  · rw [upd_n q, ud_n q]; exact h j
/-- the plan with one sender more -/
def dS (d : Nat → Nat) (t n b : Nat) : Nat → Nat := ud (ud (ud (ud d (7 + d 4) t) (17 + d 4) n) (27 + d 4) b) 4 (d 4 + 1)
/-- the plan with one noise more -/
def dN (d : Nat → Nat) (t k : Nat) : Nat → Nat := ud (ud (ud d (37 + d 5) t) (47 + d 5) k) 5 (d 5 + 1)
theorem dS_4 {d : Nat → Nat} {t n b : Nat} : dS d t n b 4 = d 4 + 1 := by unfold dS; rw [ud_s]
theorem dS_o {d : Nat → Nat} {t n b k : Nat} (h4 : k ≠ 4) (h7 : k ≠ 7 + d 4) (h17 : k ≠ 17 + d 4) (h27 : k ≠ 27 + d 4) : dS d t n b k = d k := by
  unfold dS; rw [ud_n h4, ud_n h27, ud_n h17, ud_n h7]
theorem dS_7 {d : Nat → Nat} {t n b : Nat} : dS d t n b (7 + d 4) = t := by
  unfold dS; rw [ud_n (by omega), ud_n (by omega), ud_n (by omega), ud_s]
theorem dS_17 {d : Nat → Nat} {t n b : Nat} : dS d t n b (17 + d 4) = n := by
  unfold dS; rw [ud_n (by omega), ud_n (by omega), ud_s]
theorem dS_27 {d : Nat → Nat} {t n b : Nat} : dS d t n b (27 + d 4) = b := by
  unfold dS; rw [ud_n (by omega), ud_s]
theorem dN_5 {d : Nat → Nat} {t n : Nat} : dN d t n 5 = d 5 + 1 := by unfold dN; rw [ud_s]
theorem dN_o {d : Nat → Nat} {t n k : Nat} (h5 : k ≠ 5) (h37 : k ≠ 37 + d 5) (h47 : k ≠ 47 + d 5) : dN d t n k = d k := by
  unfold dN; rw [ud_n h5, ud_n h47, ud_n h37]
theorem dN_37 {d : Nat → Nat} {t n : Nat} : dN d t n (37 + d 5) = t := by
  unfold dN; rw [ud_n (by omega), ud_n (by omega), ud_s]
theorem dN_47 {d : Nat → Nat} {t n : Nat} : dN d t n (47 + d 5) = n := by
  unfold dN; rw [ud_n (by omega), ud_s]
theorem mk_BD_S {d : Nat → Nat} {t n b : Nat} (hB : mk_BD d) (hm : d 4 < 10) (ht : t < 200) (hn : 1 ≤ n) (hn' : n ≤ 12) (hb : b < 2 ^ n) : mk_BD (dS d t n b) := by
  obtain ⟨h0, h1, h2, h3, h4, h5, h6, h7, h8, h9⟩ := hB
  refine ⟨?_, ?_, ?_, ?_, ?_, ?_, ?_, ?_, ?_, ?_⟩
  · rw [dS_o (by omega) (by omega) (by omega) (by omega)]; exact h0
  · rw [dS_o (by omega) (by omega) (by omega) (by omega)]; exact h1
  · rw [dS_o (by omega) (by omega) (by omega) (by omega)]; exact h2
  · rw [dS_o (by omega) (by omega) (by omega) (by omega)]; exact h3
  · rw [dS_4]; omega
  · rw [dS_o (by omega) (by omega) (by omega) (by omega)]; exact h5
  · rw [dS_o (by omega) (by omega) (by omega) (by omega)]; exact h6
  · rw [dS_o (by omega) (by omega) (by omega) (by omega), dS_o (k := 1) (by omega) (by omega) (by omega) (by omega)]; exact h7
  · intro i hi
    rw [dS_4] at hi
    by_cases q : i = d 4
    · subst q; rw [dS_7, dS_17, dS_27]; exact ⟨ht, hn, hn', hb⟩
    · rw [dS_o (by omega) (by omega) (by omega) (by omega), dS_o (k := 17 + i) (by omega) (by omega) (by omega) (by omega), dS_o (k := 27 + i) (by omega) (by omega) (by omega) (by omega)]
      exact h8 i (by omega)
  · intro i hi
    rw [dS_o (by omega) (by omega) (by omega) (by omega)] at hi
    rw [dS_o (by omega) (by omega) (by omega) (by omega), dS_o (k := 47 + i) (by omega) (by omega) (by omega) (by omega)]
    exact h9 i hi
theorem mk_BD_N {d : Nat → Nat} {t n : Nat} (hB : mk_BD d) (hm : d 5 < 10) (ht : t < 200) (hn : n ≤ 2) : mk_BD (dN d t n) := by
  obtain ⟨h0, h1, h2, h3, h4, h5, h6, h7, h8, h9⟩ := hB
  refine ⟨?_, ?_, ?_, ?_, ?_, ?_, ?_, ?_, ?_, ?_⟩
  · rw [dN_o (by omega) (by omega) (by omega)]; exact h0
  · rw [dN_o (by omega) (by omega) (by omega)]; exact h1
  · rw [dN_o (by omega) (by omega) (by omega)]; exact h2
  · rw [dN_o (by omega) (by omega) (by omega)]; exact h3
  · rw [dN_o (by omega) (by omega) (by omega)]; exact h4
  · rw [dN_5]; omega
  · rw [dN_o (by omega) (by omega) (by omega)]; exact h6
  · rw [dN_o (by omega) (by omega) (by omega), dN_o (k := 1) (by omega) (by omega) (by omega)]; exact h7
  · intro i hi
    rw [dN_o (by omega) (by omega) (by omega)] at hi
    rw [dN_o (by omega) (by omega) (by omega), dN_o (k := 17 + i) (by omega) (by omega) (by omega), dN_o (k := 27 + i) (by omega) (by omega) (by omega)]
    exact h8 i hi
  · intro i hi
    rw [dN_5] at hi
    by_cases q : i = d 5
    · subst q; rw [dN_37, dN_47]; exact ⟨ht, hn⟩
    · rw [dN_o (by omega) (by omega) (by omega), dN_o (k := 47 + i) (by omega) (by omega) (by omega)]
      exact h9 i (by omega)
theorem mk_BD_L {d : Nat → Nat} {l : Nat} (hB : mk_BD d) (hl : l ≤ 3) : mk_BD (ud d 0 l) := by
  obtain ⟨h0, h1, h2, h3, h4, h5, h6, h7, h8, h9⟩ := hB
  refine ⟨?_, ?_, ?_, ?_, ?_, ?_, ?_, ?_, ?_, ?_⟩
  · rw [ud_s]; exact hl
  · rw [ud_n (by omega)]; exact h1
  · rw [ud_n (by omega)]; exact h2
  · rw [ud_n (by omega)]; exact h3
  · rw [ud_n (by omega)]; exact h4
  · rw [ud_n (by omega)]; exact h5
  · rw [ud_n (by omega)]; exact h6
  · rw [ud_n (by omega), ud_n (j := 1) (by omega)]; exact h7
  · intro i hi
    rw [ud_n (by omega)] at hi
    rw [ud_n (by omega), ud_n (j := 17 + i) (by omega), ud_n (j := 27 + i) (by omega)]; exact h8 i hi
  · intro i hi
    rw [ud_n (by omega)] at hi
    rw [ud_n (by omega), ud_n (j := 47 + i) (by omega)]; exact h9 i hi
/-- the class's own: one sender more -/
theorem q_addSender {d : Nat → Nat} {u : Nat → Nat → Int32} (hB : mk_BD d) (hC : mk_CP u d) (hm : d 4 < 10) (t n b : Nat) : ∃ w, f_P_addSender u (nI t) (nI b) (nI n) = some w ∧ mk_CP w (dS d t n b) := by
  obtain ⟨c0, c1, c2, c3, c4, c5, c6, c7, c8⟩ := hC
  have h5 : d 5 ≤ 10 := hB.2.2.2.2.2.1
  unfold f_P_addSender
  rw [c5, mkPut_ok hm (by omega), mkPut_ok hm (by omega), mkPut_ok hm (by omega), pu_one]
  refine ⟨_, rfl, ?_, ?_, ?_, ?_, ?_, ?_, ?_, ?_, ?_⟩
  · rw [dS_o (by omega) (by omega) (by omega) (by omega)]; exact c0
  · rw [dS_o (by omega) (by omega) (by omega) (by omega)]; exact c1
  · rw [dS_o (by omega) (by omega) (by omega) (by omega)]; exact c2
  · rw [dS_o (by omega) (by omega) (by omega) (by omega)]; exact c3
  · rw [dS_o (by omega) (by omega) (by omega) (by omega)]; exact c4
  · rw [dS_4]; rfl
  · rw [dS_o (by omega) (by omega) (by omega) (by omega)]; exact c6
  · intro i hi
    rw [dS_4] at hi
    show upd (u 7) (d 4) (nI t) i = _ ∧ upd (u 8) (d 4) (nI n) i = _ ∧ upd (u 9) (d 4) (nI b) i = _
    by_cases q : i = d 4
    · subst q; rw [dS_7, dS_17, dS_27, upd_s, upd_s, upd_s]; exact ⟨rfl, rfl, rfl⟩
    · rw [upd_n q, upd_n q, upd_n q, dS_o (by omega) (by omega) (by omega) (by omega), dS_o (k := 17 + i) (by omega) (by omega) (by omega) (by omega), dS_o (k := 27 + i) (by omega) (by omega) (by omega) (by omega)]
      exact c7 i (by omega)
  · intro i hi
    rw [dS_o (by omega) (by omega) (by omega) (by omega)] at hi
    rw [dS_o (by omega) (by omega) (by omega) (by omega), dS_o (k := 47 + i) (by omega) (by omega) (by omega) (by omega)]
    exact c8 i hi
theorem q_addNoise {d : Nat → Nat} {u : Nat → Nat → Int32} (hB : mk_BD d) (hC : mk_CP u d) (hm : d 5 < 10) (t n : Nat) : ∃ w, f_P_addNoise u (nI t) (nI n) = some w ∧ mk_CP w (dN d t n) := by
  obtain ⟨c0, c1, c2, c3, c4, c5, c6, c7, c8⟩ := hC
  have h4 : d 4 ≤ 10 := hB.2.2.2.2.1
  unfold f_P_addNoise
  rw [c6, mkPut_ok hm (by omega), mkPut_ok hm (by omega), pu_one]
  refine ⟨_, rfl, ?_, ?_, ?_, ?_, ?_, ?_, ?_, ?_, ?_⟩
  · rw [dN_o (by omega) (by omega) (by omega)]; exact c0
  · rw [dN_o (by omega) (by omega) (by omega)]; exact c1
  · rw [dN_o (by omega) (by omega) (by omega)]; exact c2
  · rw [dN_o (by omega) (by omega) (by omega)]; exact c3
  · rw [dN_o (by omega) (by omega) (by omega)]; exact c4
  · rw [dN_o (by omega) (by omega) (by omega)]; exact c5
  · rw [dN_5]; rfl
  · intro i hi
    rw [dN_o (by omega) (by omega) (by omega)] at hi
    rw [dN_o (by omega) (by omega) (by omega), dN_o (k := 17 + i) (by omega) (by omega) (by omega), dN_o (k := 27 + i) (by omega) (by omega) (by omega)]
    exact c7 i hi
  · intro i hi
    rw [dN_5] at hi
    show upd (u 10) (d 5) (nI t) i = _ ∧ upd (u 11) (d 5) (nI n) i = _
    by_cases q : i = d 5
    · subst q; rw [dN_37, dN_47, upd_s, upd_s]; exact ⟨rfl, rfl⟩
    · rw [upd_n q, upd_n q, dN_o (by omega) (by omega) (by omega), dN_o (k := 47 + i) (by omega) (by omega) (by omega)]
      exact c8 i (by omega)
/-- what taking back gives -/
theorem mk_St_S {d : Nat → Nat} {t n b : Nat} (v : Int32) (hB : mk_BD d) (hm : d 4 < 10) : mk_St 0 v d (dS d t n b) := by
  left
  refine ⟨rfl, fun u hC => ?_⟩
  have h5 : d 5 ≤ 10 := hB.2.2.2.2.2.1
  obtain ⟨c0, c1, c2, c3, c4, c5, c6, c7, c8⟩ := hC
  rw [dS_o (by omega) (by omega) (by omega) (by omega)] at c0 c1 c2 c3 c4 c6
  rw [dS_4] at c5 c7
  rw [dS_o (by omega) (by omega) (by omega) (by omega)] at c8
  rw [c5, pu_s1]
  refine ⟨c0, c1, c2, c3, c4, rfl, c6, fun i hi => ?_, fun i hi => ?_⟩
  · have := c7 i (by omega)
    rw [dS_o (by omega) (by omega) (by omega) (by omega), dS_o (k := 17 + i) (by omega) (by omega) (by omega) (by omega), dS_o (k := 27 + i) (by omega) (by omega) (by omega) (by omega)] at this
    exact this
  · have := c8 i hi
    rw [dS_o (by omega) (by omega) (by omega) (by omega), dS_o (k := 47 + i) (by omega) (by omega) (by omega) (by omega)] at this
    exact this
theorem mk_St_N {d : Nat → Nat} {t n : Nat} (v : Int32) (hB : mk_BD d) (hm : d 5 < 10) : mk_St 1 v d (dN d t n) := by
  right; left
  refine ⟨rfl, fun u hC => ?_⟩
  have h4 : d 4 ≤ 10 := hB.2.2.2.2.1
  obtain ⟨c0, c1, c2, c3, c4, c5, c6, c7, c8⟩ := hC
  rw [dN_o (by omega) (by omega) (by omega)] at c0 c1 c2 c3 c4 c5
  rw [dN_5] at c6 c8
  rw [dN_o (by omega) (by omega) (by omega)] at c7
  rw [c6, pu_s1]
  refine ⟨c0, c1, c2, c3, c4, c5, rfl, fun i hi => ?_, fun i hi => ?_⟩
  · have := c7 i hi
    rw [dN_o (by omega) (by omega) (by omega), dN_o (k := 17 + i) (by omega) (by omega) (by omega), dN_o (k := 27 + i) (by omega) (by omega) (by omega)] at this
    exact this
  · have := c8 i (by omega)
    rw [dN_o (by omega) (by omega) (by omega), dN_o (k := 47 + i) (by omega) (by omega) (by omega)] at this
    exact this
theorem mk_CP_L {d : Nat → Nat} {u : Nat → Nat → Int32} (hC : mk_CP u d) (l : Nat) : mk_CP (upF 0 (nI l) u) (ud d 0 l) := by
  obtain ⟨c0, c1, c2, c3, c4, c5, c6, c7, c8⟩ := hC
  refine ⟨?_, ?_, ?_, ?_, ?_, ?_, ?_, ?_, ?_⟩
  · rw [ud_s]; rfl
  · rw [ud_n (by omega)]; exact c1
  · rw [ud_n (by omega)]; exact c2
  · rw [ud_n (by omega)]; exact c3
  · rw [ud_n (by omega)]; exact c4
  · rw [ud_n (by omega)]; exact c5
  · rw [ud_n (by omega)]; exact c6
  · intro i hi
    rw [ud_n (by omega)] at hi
    rw [ud_n (by omega), ud_n (j := 17 + i) (by omega), ud_n (j := 27 + i) (by omega)]; exact c7 i hi
  · intro i hi
    rw [ud_n (by omega)] at hi
    rw [ud_n (by omega), ud_n (j := 47 + i) (by omega)]; exact c8 i hi
theorem mk_St_L {d : Nat → Nat} (l : Nat) : mk_St 2 (nI (d 0)) d (ud d 0 l) := by
  right; right
  refine ⟨rfl, fun u hC => ?_⟩
  have := mk_CP_L hC (d 0)
  have e : ud (ud d 0 l) 0 (d 0) = d := by
    funext j
    by_cases q : j = 0
    · subst q; rw [ud_s]
    · rw [ud_n q, ud_n q]
  rw [e] at this
  exact this
/-- an act is noted, on both sides -/
theorem q_note {u : Nat → Nat → Int32} {a : Nat} (h : u 2 0 = nI a) (ha : a < 20) (k v : Int32) : f_A_note u k v = some (upF 2 (nI (a + 1)) (upR 1 (upd (u 1) a v) (upR 0 (upd (u 0) a k) u))) := by
  unfold f_A_note
  rw [h, mkPut_ok ha (by omega), mkPut_ok ha (by omega), pu_one]
theorem q_keeps_2 {a : Nat} (ha : a < 20) : ∀ k n i (x : Nat → Nat → Int32), i + k = 57 → k < n → x 3 0 = nI a → (∀ j, j < i → x 2 (57 * a + j) = x 0 j) → ∃ wX, f_X_keeps_2 n (nI i) x = some wX ∧ wX 3 0 = nI (a + 1) ∧ (∀ j, j < 57 → wX 2 (57 * a + j) = x 0 j) ∧ (∀ j, j < 57 * a → wX 2 j = x 2 j) ∧ (∀ k, k ≠ 2 → k ≠ 3 → wX k = x k)
  | 0, n, i, x, hk, hn, h3, h2 => by
    obtain ⟨n, rfl, hn'⟩ := q_fu hn
    obtain rfl : i = 57 := by omega
    rw [f_X_keeps_2, if_pos (by decide), h3, pu_one]
    exact ⟨_, rfl, rfl, h2, fun j _ => rfl, fun k _ b => upF_n b⟩
  | k + 1, n, i, x, hk, hn, h3, h2 => by
    obtain ⟨n, rfl, hn'⟩ := q_fu hn
    rw [f_X_keeps_2, if_neg (show ¬ (57 : Int32) ≤ nI i from le_f (a := 57) (by omega) (by omega)), gI_ok (by omega) (by omega), h3, show (57 : Int32) * nI a = nI (57 * a) from pk_mul 57 a, pu_add, gI_ok (by omega) (by omega), pu_cl (by omega), pu_cl (by omega), pu_one]
    obtain ⟨wX, g1, g2, g3, g4, g5⟩ := q_keeps_2 ha k n (i + 1) (upR 2 (upd (x 2) (57 * a + i) (x 0 i)) x) (by omega) (by omega) h3 (by
      intro j hj
      show upd (x 2) (57 * a + i) (x 0 i) (57 * a + j) = x 0 j
      by_cases q : j = i
      · subst q; rw [upd_s]
      · rw [upd_n (by omega)]; exact h2 j (by omega))
    refine ⟨wX, g1, g2, g3, fun j hj => ?_, fun k a b => by rw [g5 k a b, upR_n a]⟩
    rw [g4 j hj]
    show upd (x 2) (57 * a + i) (x 0 i) j = _
    rw [upd_n (by omega)]
theorem q_keeps {a : Nat} {x : Nat → Nat → Int32} (ha : a < 20) (h3 : x 3 0 = nI a) : ∃ wX, f_X_keeps x = some wX ∧ wX 3 0 = nI (a + 1) ∧ (∀ j, j < 57 → wX 2 (57 * a + j) = x 0 j) ∧ (∀ j, j < 57 * a → wX 2 j = x 2 j) ∧ (∀ k, k ≠ 2 → k ≠ 3 → wX k = x k) :=
  q_keeps_2 ha 57 600 0 x (by omega) (by omega) h3 (fun j hj => by omega)
theorem mk_Ac_push {a : Nat} {D : Nat → Nat → Nat} {uA uX wX : Nat → Nat → Int32} {d d' : Nat → Nat} {k v : Int32} (h : mk_Ac a D uA uX) (ha : a < 20) (hD : D a = d) (hB : mk_BD d) (hM : mk_MP (uX 0) d) (h57 : ∀ k, 57 ≤ k → d' k = d k) (hS : mk_St k v d d') (w3 : wX 3 0 = nI (a + 1)) (w2 : ∀ j, j < 57 → wX 2 (57 * a + j) = uX 0 j) (w2' : ∀ j, j < 57 * a → wX 2 j = uX 2 j) : mk_Ac (a + 1) (fun j => if j ≤ a then D j else d') (upF 2 (nI (a + 1)) (upR 1 (upd (uA 1) a v) (upR 0 (upd (uA 0) a k) uA))) wX := by
  obtain ⟨a1, a2, a3, a4, a5⟩ := h
  refine ⟨ha, rfl, w3, ?_, ?_⟩
  · intro j k hj hk
    show (if j ≤ a then D j else d') k = (if a + 1 ≤ a then D (a + 1) else d') k
    rw [if_neg (show ¬ a + 1 ≤ a by omega)]
    by_cases q : j ≤ a
    · rw [if_pos q, h57 k hk, a4 j k q hk, hD]
    · rw [if_neg q]
  · intro j hj
    show mk_BD (if j ≤ a then D j else d') ∧ (∀ k, k < 57 → wX 2 (57 * j + k) = nI ((if j ≤ a then D j else d') k)) ∧ mk_St (upd (uA 0) a k j) (upd (uA 1) a v j) (if j ≤ a then D j else d') (if j + 1 ≤ a then D (j + 1) else d')
    rw [if_pos (show j ≤ a by omega)]
    by_cases q : j = a
    · subst q
      rw [if_neg (show ¬ j + 1 ≤ j by omega), upd_s, upd_s, hD]
      exact ⟨hB, fun k hk => by rw [w2 k hk]; exact hM k, hS⟩
    · obtain ⟨b1, b2, b3⟩ := a5 j (by omega)
      rw [if_pos (show j + 1 ≤ a by omega), upd_n q, upd_n q]
      exact ⟨b1, fun k hk => by rw [w2' _ (by omega)]; exact b2 k hk, b3⟩
/-- after an act both run anew -/
theorem q_act {d : Nat → Nat} {u y s c x : Nat → Nat → Int32} (hB : mk_BD d) (hC : mk_CP u d) (hM : mk_MP (x 0) d) : ∃ wY wS wC wX, f_Y_run y u s c (nI (d 0)) (-1) (-1) = some (wC 9 0, wY, wS, wC) ∧ f_X_allNow x = some (wC 9 0, wX) ∧ mk_Now d wC ∧ ∀ k, k < 15 → wX k = x k := by
  obtain ⟨wY, wS, wC, h1, h2⟩ := q_now (y := y) (s := s) (c := c) hB hC
  obtain ⟨wX, r1, ⟨⟨_, _, _, f4, f5, _⟩, _⟩, r3⟩ := q_runs hM h2
  refine ⟨wY, wS, wC, wX, h1, ?_, h2, r3⟩
  unfold f_X_allNow
  rw [r1, b1_k, f4, f5]
