/-! the invariant of the law's loop -/
def mk_Now (d : Nat → Nat) (c : Nat → Nat → Int32) : Prop := ∀ x : Nat → Nat → Int32, mk_MP (x 0) d → ∃ wX, f_X_runsBy x (nI (d 0)) (-1) (-1) = some wX ∧ hFin d c wX ∧ ∀ k, k < 15 → wX k = x k
def mk_St (k v : Int32) (d d' : Nat → Nat) : Prop := (k = 0 ∧ ∀ u, mk_CP u d' → mk_CP (upF 5 ((u 5 0) - 1) u) d) ∨ (k = 1 ∧ ∀ u, mk_CP u d' → mk_CP (upF 6 ((u 6 0) - 1) u) d) ∨ (k = 2 ∧ ∀ u, mk_CP u d' → mk_CP (upF 0 v u) d)
def mk_Tp (tl : Nat) (uT uX : Nat → Nat → Int32) : Prop := tl ≤ 500 ∧ uT 1 0 = nI tl ∧ uX 5 0 = nI tl ∧ ∀ j, j < tl → uT 0 j = uX 4 j
def mk_Ac (a : Nat) (D : Nat → Nat → Nat) (uA uX : Nat → Nat → Int32) : Prop := a ≤ 20 ∧ uA 2 0 = nI a ∧ uX 3 0 = nI a ∧ (∀ j k, j ≤ a → 57 ≤ k → D j k = D a k) ∧ ∀ j, j < a → mk_BD (D j) ∧ (∀ k, k < 57 → uX 2 (57 * j + k) = nI (D j k)) ∧ mk_St (uA 0 j) (uA 1 j) (D j) (D (j + 1))
def mk_Inv (uR uT uD uY uP uS uC uO uA uX : Nat → Nat → Int32) : Prop := ∃ (d : Nat → Nat) (tl a : Nat) (D : Nat → Nat → Nat), mk_BD d ∧ mk_CP uP d ∧ mk_MP (uX 0) d ∧ mk_Tp tl uT uX ∧ (uR 6 0 = uX 6 0 ∧ uR 7 0 = uX 7 0) ∧ D a = d ∧ mk_Ac a D uA uX ∧ ((0 < d 1 ∧ mk_Now d uC) ∨ (d 1 = 0 ∧ d 4 = 0 ∧ d 5 = 0))
theorem mk_Tp_of {tl : Nat} {uT uX wX : Nat → Nat → Int32} (h : mk_Tp tl uT uX) (h4 : wX 4 = uX 4) (h5 : wX 5 = uX 5) : mk_Tp tl uT wX := by
  unfold mk_Tp; rw [h4, h5]; exact h
theorem mk_Ac_of {a : Nat} {D : Nat → Nat → Nat} {uA uX wX : Nat → Nat → Int32} (h : mk_Ac a D uA uX) (h2 : wX 2 = uX 2) (h3 : wX 3 = uX 3) : mk_Ac a D uA wX := by
  unfold mk_Ac; rw [h2, h3]; exact h
/-- what the reference's own run changes is none of the invariant's business -/
theorem mk_Inv_X {uR uT uD uY uP uS uC uO uA uX wX : Nat → Nat → Int32} (h : mk_Inv uR uT uD uY uP uS uC uO uA uX) (hx : ∀ k, k < 15 → wX k = uX k) : mk_Inv uR uT uD uY uP uS uC uO uA wX := by
  obtain ⟨d, tl, a, D, h1, h2, h3, h4, h5, h6, h7, h8⟩ := h
  exact ⟨d, tl, a, D, h1, h2, by rw [hx 0 (by omega)]; exact h3, mk_Tp_of h4 (hx 4 (by omega)) (hx 5 (by omega)), by rw [hx 6 (by omega), hx 7 (by omega)]; exact h5, h6, mk_Ac_of h7 (hx 2 (by omega)) (hx 3 (by omega)), h8⟩
/-- nor the class's other run -/
theorem mk_Inv_O {uR uT uD uY uP uS uC uO uA uX wY wS wO : Nat → Nat → Int32} (h : mk_Inv uR uT uD uY uP uS uC uO uA uX) : mk_Inv uR uT uD wY uP wS uC wO uA uX := h
theorem q_now {d : Nat → Nat} {u y s c : Nat → Nat → Int32} (hB : mk_BD d) (hC : mk_CQ u d) : ∃ wY wS wC, f_Y_run y u s c (nI (d 0)) (-1) (-1) = some (wC 9 0, wY, wS, wC) ∧ mk_Now d wC := by
  obtain ⟨wY, wS, wC, wX, h1, _⟩ := q_run (y := y) (s := s) (c := c) (x := fun _ j => nI (d j)) (-1) hB hC (fun j => rfl) hB.1
  refine ⟨wY, wS, wC, h1, fun x hx => ?_⟩
  obtain ⟨wY', wS', wC', wX', g1, g2, g3, g4⟩ := q_run (y := y) (s := s) (c := c) (x := x) (-1) hB hC hx hB.1
  rw [h1] at g1
  have e : wC = wC' := by
    injection g1 with g1
    injection g1 with _ g1
    injection g1 with _ g1
    injection g1
  subst e
  exact ⟨wX', g2, g3, g4.1⟩
theorem q_stands {d : Nat → Nat} {u : Nat → Nat → Int32} (hB : mk_BD d) (hC : mk_CQ u d) : f_P_stands u = some (if 0 < d 1 then 1 else 0) := by
  have h1 : d 1 ≤ 200 := hB.2.1
  unfold f_P_stands
  rw [hC.2.1]
  by_cases h : 0 < d 1
  · rw [if_neg (le_f0 h (by omega)), if_pos h]
  · rw [if_pos (show nI (d 1) ≤ 0 by rw [show d 1 = 0 by omega]; decide), if_neg h]
theorem q_is {d : Nat → Nat} {x : Nat → Nat → Int32} (hB : mk_BD d) (hM : mk_MP (x 0) d) : f_X_is x = some (if 0 < d 1 then 1 else 0) := by
  have h6 : d 6 ≤ 501 := hB.2.2.2.2.2.2.1
  have h61 := hB.2.2.2.2.2.2.2.1
  unfold f_X_is
  rw [hM]
  by_cases h : 0 < d 1
  · rw [if_neg (le_f0 (by omega) (by omega)), if_pos h]
  · rw [if_pos (show nI (d 6) ≤ 0 by rw [show d 6 = 0 by omega]; decide), if_neg h]
theorem q_runs {d : Nat → Nat} {c x : Nat → Nat → Int32} (hM : mk_MP (x 0) d) (h : mk_Now d c) : ∃ wX, f_X_runs x = some wX ∧ hFin d c wX ∧ ∀ k, k < 15 → wX k = x k := by
  obtain ⟨wX, h1, h2, h3⟩ := h x hM
  refine ⟨wX, ?_, h2, h3⟩
  unfold f_X_runs
  rw [hM, h1, b1_k]
theorem q_rng (x : Int32) {n : Nat} (hn : n < 2 ^ 31) : x < 0 ∨ nI n ≤ x ∨ ∃ j : Nat, j < n ∧ x = nI j := pk_ix x hn
theorem q_hasSender {d : Nat → Nat} {u : Nat → Nat → Int32} (hB : mk_BD d) (hC : mk_CQ u d) (p : Int32) : (f_P_hasSender u p = some 1 ∧ ∃ j, j < d 4 ∧ p = nI j) ∨ (f_P_hasSender u p = some 0 ∧ (p < 0 ∨ nI (d 4) ≤ p)) := by
  have h4 : d 4 ≤ 10 := hB.2.2.2.2.1
  unfold f_P_hasSender
  rw [hC.2.2.2.2.2.1]
  rcases q_rng p (n := d 4) (by omega) with q | q | ⟨j, q, rfl⟩
  · right; rw [if_pos q]; exact ⟨rfl, Or.inl q⟩
  · right
    by_cases q0 : p < 0
    · rw [if_pos q0]; exact ⟨rfl, Or.inl q0⟩
    · rw [if_neg q0, if_pos q]; exact ⟨rfl, Or.inr q⟩
  · left; rw [if_neg (lt_f0 (by omega)), if_neg (le_f q (by omega))]; exact ⟨rfl, j, q, rfl⟩
theorem q_inM {p y : Int32} {n : Nat} {a b : Int64} (hn : n < 2 ^ 30) (ha : a = (0 : Int32).toInt64) (hb : b = (nI n - 1).toInt64) : (p < 0 ∨ nI n ≤ p → f_X_in p.toInt64 a b = some 0) ∧ (∀ j, j < n → p = nI j → f_X_in p.toInt64 a b = some 1) := by
  refine ⟨fun h => ?_, fun j hj e => ?_⟩
  · by_cases q : p < 0
    · exact q_inL ha hb q
    · rcases h with h | h
      · exact absurd h q
      · refine q_inR ha hb ?_
        obtain ⟨m, hm, rfl⟩ := nI_of q
        rw [pu_le (by omega) hm] at h
        rw [Int32.lt_iff_toInt_lt, show (nI n - 1 : Int32) = nI n - nI 1 from rfl, pk_sub_toInt hn (by omega), nI_toInt hm]
        omega
  · subst e
    refine q_inY ha hb (le_t (a := 0) (by omega) (by omega)) ?_
    rw [show (nI n - 1 : Int32) = nI (n - 1) from pk_sub (b := 1) (by omega)]
    exact le_t (by omega) (by omega)
theorem q_isSender {d : Nat → Nat} {x : Nat → Nat → Int32} (hB : mk_BD d) (hM : mk_MP (x 0) d) (p : Int32) : (p < 0 ∨ nI (d 4) ≤ p → f_X_isSender x p = some 0) ∧ (∀ j, j < d 4 → p = nI j → f_X_isSender x p = some 1) := by
  have h4 : d 4 ≤ 10 := hB.2.2.2.2.1
  obtain ⟨a, b⟩ := q_inM (p := p) (y := 0) (n := d 4) (a := 0) (b := (nI (d 4) - 1).toInt64) (by omega) rfl rfl
  unfold f_X_isSender
  rw [hM]
  exact ⟨fun h => by rw [a h, b1_k, gZ0], fun j hj e => by rw [b j hj e, b1_k, gZ1]⟩
