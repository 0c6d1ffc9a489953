/-! pure: heard, epoch, order -/
theorem q_in3 {p : Int32} {n : Nat} {b : Int64} (hn : n + 1 < 2 ^ 31) (hb : b = (nI n).toInt64) : (p < 0 ∨ nI n < p → f_X_in p.toInt64 0 b = some 0) ∧ (∀ j, j ≤ n → p = nI j → f_X_in p.toInt64 0 b = some 1) := by
  refine ⟨fun h => ?_, fun j hj e => ?_⟩
  · rcases h with h | h
    · exact q_inL (y := 0) rfl hb h
    · exact q_inR (y := 0) rfl hb h
  · subst e
    exact q_inY (y := 0) rfl hb (le_t (a := 0) (by omega) (by omega)) (le_t hj (by omega))
theorem q_rng2 (p : Int32) {n : Nat} (hn : n + 1 < 2 ^ 31) : p < 0 ∨ nI n < p ∨ ∃ j : Nat, j ≤ n ∧ p = nI j := by
  by_cases q : p < 0
  · exact Or.inl q
  · obtain ⟨m, hm, rfl⟩ := nI_of q
    rcases Nat.lt_or_ge n m with z | z
    · exact Or.inr (Or.inl (lt_t z hm))
    · exact Or.inr (Or.inr ⟨m, z, rfl⟩)
theorem s_heard {uR uT uD uY uP uS uC uO uA uX : Nat → Nat → Int32}  (h : mk_Inv uR uT uD uY uP uS uC uO uA uX) (p1 : Int32) : ∃ (r : Int32) (wX : Nat → Nat → Int32), f_Z_heard uP uC p1 = some r ∧ f_X_heard uX p1 = some (r, wX) ∧ mk_Inv uR uT uD uY uP uS uC uO uA wX := by
  unfold f_Z_heard f_X_heard
  obtain ⟨i0, i1⟩ := q_in3 (p := p1) (n := 2) (b := 2) (by omega) rfl
  rcases q_std h with ⟨d, wX, h1, h2, h3, z0, e1, e2, r1, ⟨⟨f1, _⟩, _⟩, r3, hw⟩ | ⟨e1, e2⟩
  · rw [e1, e2, b1_k, b1_k, if_neg one0, if_neg one0]
    rcases q_rng2 p1 (n := 2) (by omega) with q | q | ⟨j, q, rfl⟩
    · rw [if_pos q, i0 (Or.inl q), b1_k, if_pos rfl]
      exact ⟨_, uX, rfl, rfl, h⟩
    · have q' : (2 : Int32) < p1 := q
      rw [if_pos q', i0 (Or.inr q), b1_k, if_pos rfl]
      refine ⟨-2, uX, ?_, rfl, h⟩
      split <;> rfl
    · have hM : mk_MP (wX 0) d := by rw [r3 0 (by omega)]; exact h3
      obtain ⟨r, g1, g2⟩ := q_heard_30 (c := uC) (nI j) h1.2.1 hM (fun v hv => (f1 v hv).2.1) (d 1) 600 0 0 (by omega) (by have := h1.2.1; omega)
      rw [if_neg (lt_f0 (by omega)), if_neg (show ¬ (2 : Int32) < nI j from lt_f (a := 2) q (by omega)), i1 j q rfl, b1_k, if_neg one0, r1, b1_k, h2.2.1]
      unfold f_C_slotsHeard
      rw [show (0 : Int32) = nI 0 from rfl] at g1 g2 ⊢
      rw [g1, g2]
      exact ⟨r, wX, rfl, rfl, hw⟩
  · rw [e1, e2, b1_k, b1_k, if_pos rfl, if_pos rfl]
    refine ⟨-2, uX, ?_, rfl, h⟩
    split
    · rfl
    · split <;> rfl
theorem q_order_22 {d : Nat → Nat} {c x : Nat → Nat → Int32} {m : Nat} (hB : mk_BD d) (hM : mk_MP (x 0) d) (hm : m < 2 ^ 31) (h9 : c 9 0 = nI (cg (x 32) (d 1))) (hle : cg (x 32) (d 1) ≤ 10) (h8 : ∀ u, u < d 1 → x 32 u = -1 ∨ c 8 (cg (x 32) u) = x 32 u) : ∀ k n t, t + k = d 1 → k < n → cg (x 32) t ≤ m → f_X_order_22 (nI m) n (nI (m - cg (x 32) t)) (nI t) x = some (if c 9 0 ≤ nI m then -1 else mkAt 10 (c 8) (nI m), x)
  | 0, n, t, hk, hn, hc => by
    have h1 : d 1 ≤ 200 := hB.2.1
    obtain ⟨n, rfl, hn'⟩ := q_fu hn
    obtain rfl : t = d 1 := by omega
    rw [f_X_order_22, hM 1, if_pos (le_t (Nat.le_refl _) (by omega)), h9, if_pos (le_t hc hm)]
  | k + 1, n, t, hk, hn, hc => by
    have h1 : d 1 ≤ 200 := hB.2.1
    obtain ⟨n, rfl, hn'⟩ := q_fu hn
    rw [f_X_order_22, hM 1, if_neg (le_f (by omega) (by omega)), gI_ok (by omega) (by omega), pu_cl (by omega), pu_one]
    by_cases q : x 32 t = -1
    · rw [if_pos q]
      have e : cg (x 32) (t + 1) = cg (x 32) t := by rw [cg, if_pos q]; rfl
      have go := q_order_22 hB hM hm h9 hle h8 k n (t + 1) (by omega) (by omega) (by omega)
      rw [e] at go
      exact go
    · rw [if_neg q]
      have hlt := cg_lt q (d 1) (by omega)
      by_cases z : m = cg (x 32) t
      · rw [if_pos (show nI (m - cg (x 32) t) = 0 by rw [show m - cg (x 32) t = 0 by omega]; rfl), h9, if_neg (le_f (by omega) (by omega)), mkAt_ok (by omega) (by omega), z]
        rcases h8 t (by omega) with y | y
        · exact absurd y q
        · rw [y]
      · rw [if_neg (eq_f0 (by omega) (by omega))]
        have e : cg (x 32) (t + 1) = cg (x 32) t + 1 := by rw [cg, if_neg q]
        have go := q_order_22 hB hM hm h9 hle h8 k n (t + 1) (by omega) (by omega) (by omega)
        rw [e] at go
        have e2 : nI (m - cg (x 32) t) + (-1) = nI (m - (cg (x 32) t + 1)) := by
          obtain ⟨w, hw⟩ : ∃ w, m - cg (x 32) t = w + 1 := ⟨m - cg (x 32) t - 1, by omega⟩
          rw [hw, pk_m1, show m - (cg (x 32) t + 1) = w by omega]
        rw [e2]
        exact go
theorem s_order {uR uT uD uY uP uS uC uO uA uX : Nat → Nat → Int32}  (h : mk_Inv uR uT uD uY uP uS uC uO uA uX) (p1 : Int32) : ∃ (r : Int32) (wX : Nat → Nat → Int32), f_Z_order uP uC p1 = some r ∧ f_X_order uX p1 = some (r, wX) ∧ mk_Inv uR uT uD uY uP uS uC uO uA wX := by
  unfold f_Z_order f_X_order
  rcases q_std h with ⟨d, wX, h1, h2, h3, z0, e1, e2, r1, ⟨⟨f1, _, _, f4, f5, f6, f7, _⟩, _⟩, r3, hw⟩ | ⟨e1, e2⟩
  · rw [e1, e2, b1_k, b1_k, if_neg one0, if_neg one0]
    by_cases q : p1 < 0
    · rw [if_pos q, if_neg (Int32.not_le.mpr q)]
      exact ⟨_, uX, rfl, rfl, h⟩
    · obtain ⟨m, hm, rfl⟩ := nI_of q
      have hM : mk_MP (wX 0) d := by rw [r3 0 (by omega)]; exact h3
      have h4 : d 4 ≤ 10 := h1.2.2.2.2.1
      have go := q_order_22 (c := uC) h1 hM hm f4 (by omega) (fun u hu => by
        rcases f7 u hu with y | ⟨i, _, y1, _, y2⟩
        · exact Or.inl y
        · right; rw [y1, y2]) (d 1) 600 0 (by omega) (by have := h1.2.1; omega) (Nat.zero_le _)
      rw [if_neg q, if_pos (Int32.not_lt.mp q), r1, b1_k]
      refine ⟨if uC 9 0 ≤ nI m then -1 else mkAt 10 (uC 8) (nI m), wX, ?_, go, hw⟩
      split <;> rfl
  · rw [e1, e2, b1_k, b1_k, if_pos rfl, if_pos rfl]
    refine ⟨-2, uX, ?_, rfl, h⟩
    split <;> rfl
