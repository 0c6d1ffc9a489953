/-! pure: undo, anew; the start -/
theorem q_back {a0 : Nat} (ha : a0 < 20) : ∀ k n i (x : Nat → Nat → Int32), i + k = 57 → k < n → (∀ j, j < i → x 0 j = x 2 (57 * a0 + j)) → ∃ wX, f_X_goesBack_7 (nI a0) n (nI i) x = some wX ∧ (∀ j, j < 57 → wX 0 j = x 2 (57 * a0 + j)) ∧ (∀ j, 57 ≤ j → wX 0 j = x 0 j) ∧ (∀ k, k ≠ 0 → wX k = x k)
  | 0, n, i, x, hk, hn, h0 => by
    obtain ⟨n, rfl, hn'⟩ := q_fu hn
    obtain rfl : i = 57 := by omega
    rw [f_X_goesBack_7, if_pos (by decide)]
    exact ⟨x, rfl, h0, fun _ _ => rfl, fun _ _ => rfl⟩
  | k + 1, n, i, x, hk, hn, h0 => by
    obtain ⟨n, rfl, hn'⟩ := q_fu hn
    rw [f_X_goesBack_7, if_neg (show ¬ (57 : Int32) ≤ nI i from le_f (a := 57) (by omega) (by omega)), show (57 : Int32) * nI a0 = nI (57 * a0) from pk_mul 57 a0, pu_add, gI_ok (by omega) (by omega), gI_ok (by omega) (by omega), pu_cl (by omega), pu_cl (by omega), pu_one]
    obtain ⟨wX, g1, g2, g3, g4⟩ := q_back ha k n (i + 1) (upR 0 (upd (x 0) i (x 2 (57 * a0 + i))) x) (by omega) (by omega) (by
      intro j hj
      show upd (x 0) i (x 2 (57 * a0 + i)) j = x 2 (57 * a0 + j)
      by_cases q : j = i
      · subst q; rw [upd_s]
      · rw [upd_n q]; exact h0 j (by omega))
    refine ⟨wX, g1, g2, fun j hj => ?_, fun k a => by rw [g4 k a, upR_n a]⟩
    rw [g3 j hj]
    show upd (x 0) i _ j = _
    rw [upd_n (by omega)]
theorem q_goesBack {a a0 : Nat} {D : Nat → Nat → Nat} {d : Nat → Nat} {uA uX : Nat → Nat → Int32} (h7 : mk_Ac a D uA uX) (h6 : D a = d) (h3 : mk_MP (uX 0) d) (h : a0 < a) : ∃ wX, f_X_goesBack uX (nI a0) = some wX ∧ mk_MP (wX 0) (D a0) ∧ wX 3 0 = nI a0 ∧ (∀ k, k ≠ 0 → k ≠ 3 → wX k = uX k) := by
  obtain ⟨a1, a2, a3, a4, a5⟩ := h7
  obtain ⟨wX, g1, g2, g3, g4⟩ := q_back (a0 := a0) (by omega) 57 600 0 (upF 3 (nI a0) uX) (by omega) (by omega) (fun j hj => by omega)
  refine ⟨wX, g1, fun j => ?_, ?_, fun k b c => by rw [g4 k b, upF_n c]⟩
  · by_cases q : j < 57
    · rw [g2 j q, upF_n (by decide)]; exact (a5 a0 h).2.1 j q
    · rw [g3 j (by omega), upF_n (by decide), h3 j, a4 a0 j (by omega) (by omega), h6]
  · rw [g4 3 (by decide), upF_s]
theorem q_takeBack {a : Nat} {d0 d1 : Nat → Nat} {uA u : Nat → Nat → Int32} (ha : a < 20) (h2 : uA 2 0 = nI (a + 1)) (hS : mk_St (uA 0 a) (uA 1 a) d0 d1) (hC : mk_CP u d1) : ∃ w, f_A_takeBack uA u = some (upF 2 (nI a) uA, w) ∧ mk_CP w d0 ∧ w 1 0 = u 1 0 := by
  unfold f_A_takeBack
  rw [h2, pu_s1, mkAt_ok ha (by omega), mkAt_ok ha (by omega), if_neg (eq_f0 (by omega) (by omega))]
  rcases hS with ⟨e, hS⟩ | ⟨e, hS⟩ | ⟨e, hS⟩
  · rw [e, if_pos rfl]
    exact ⟨_, rfl, hS u hC, rfl⟩
  · rw [e, if_neg one0, if_pos rfl]
    exact ⟨_, rfl, hS u hC, rfl⟩
  · rw [e, if_neg (show ¬ (2 : Int32) = 0 by decide), if_neg (show ¬ (2 : Int32) = 1 by decide)]
    exact ⟨_, rfl, hS u hC, rfl⟩
theorem q_d1 {d d' : Nat → Nat} {u w : Nat → Nat → Int32} (hB : mk_BD d) (hB' : mk_BD d') (hC : mk_CP u d) (hC' : mk_CP w d') (h : w 1 0 = u 1 0) : d' 1 = d 1 := by
  have h1 : d 1 ≤ 200 := hB.2.1
  have h1' : d' 1 ≤ 200 := hB'.2.1
  rw [hC.2.1, hC'.2.1] at h
  exact pu_inj (by omega) (by omega) h
theorem s_undo {uR uT uD uY uP uS uC uO uA uX : Nat → Nat → Int32} (uQ : Nat) (h : mk_Inv uR uT uD uY uP uS uC uO uA uX) : ∃ (r : Int32) (wQ : Nat) (wY : Nat → Nat → Int32) (wP : Nat → Nat → Int32) (wS : Nat → Nat → Int32) (wC : Nat → Nat → Int32) (wA : Nat → Nat → Int32) (wX : Nat → Nat → Int32), f_Z_undo uQ uY uP uS uC uA = some (r, wQ, wY, wP, wS, wC, wA) ∧ f_X_undo uX = some (r, wX) ∧ mk_Inv uR uT uD wY wP wS wC uO wA wX := by
  have h' := h
  obtain ⟨d, tl, a, D, h1, h2, h3, h4, h5, h6, h7, hnow⟩ := h
  have h7' := h7
  obtain ⟨a1, a2, a3, a4, a5⟩ := h7'
  unfold f_Z_undo f_X_undo
  rw [q_stands h1 h2, q_is h1 h3, b1_k, b1_k]
  rcases hnow with ⟨z0, hn⟩ | ⟨z0, _⟩
  · rw [if_pos z0, if_neg one0, if_neg one0, a2, a3]
    by_cases q : a = 0
    · subst q
      rw [if_pos (show nI 0 = 0 from rfl), if_pos (show nI 0 = 0 from rfl)]
      exact ⟨_, _, _, _, _, _, _, uX, rfl, rfl, h'⟩
    obtain ⟨b, rfl⟩ : ∃ b, a = b + 1 := ⟨a - 1, by omega⟩
    obtain ⟨b1', b2', b3'⟩ := a5 b (by omega)
    rw [h6] at b3'
    obtain ⟨w, w1, w2, w3⟩ := q_takeBack (by omega) a2 b3' h2
    obtain ⟨wX, g1, g2, g3, g4⟩ := q_goesBack h7 h6 h3 (show b < b + 1 by omega)
    obtain ⟨wY, wS, wC, r1, r2⟩ := q_now (y := uY) (s := uS) (c := uC) b1' w2
    rw [if_neg (eq_f0 (by omega) (by omega)), if_neg (eq_f0 (by omega) (by omega)), w1, b2_k, pu_s1, g1, b1_k, w2.1, r1, b4_k, g3, upF_s]
    refine ⟨_, _, wY, w, wS, wC, _, wX, rfl, rfl, D b, tl, b, D, b1', w2, g2, mk_Tp_of h4 (g4 4 (by decide) (by decide)) (g4 5 (by decide) (by decide)), ?_, rfl, ⟨by omega, rfl, g3, ?_, ?_⟩, Or.inl ⟨?_, r2⟩⟩
    · rw [g4 6 (by decide) (by decide), g4 7 (by decide) (by decide)]; exact h5
    · intro j k hj hk
      rw [a4 j k (by omega) hk, a4 b k (by omega) hk]
    · intro j hj
      obtain ⟨c1, c2, c3⟩ := a5 j (by omega)
      rw [g4 2 (by decide) (by decide)]
      exact ⟨c1, c2, c3⟩
    · rw [q_d1 h1 b1' h2 w2 w3]; exact z0
  · rw [if_neg (show ¬ 0 < d 1 by omega), if_pos rfl, if_pos rfl]
    exact ⟨_, _, _, _, _, _, _, uX, rfl, rfl, h'⟩
theorem q_anew {a : Nat} {D : Nat → Nat → Nat} {uA uX : Nat → Nat → Int32} (h7 : mk_Ac a D uA uX) (hB0 : mk_BD (D 0)) (uQ : Nat) (y s c : Nat → Nat → Int32) : ∀ j n i (u A : Nat → Nat → Int32), i + j = a → j < n → mk_CP u (D j) → A 2 0 = nI j → A 0 = uA 0 → A 1 = uA 1 → ∃ wY w wS wC wA, f_Z_anew_23 n (nI a) (nI i) uQ y u s c A = some (nI a, 0, wY, w, wS, wC, wA) ∧ mk_CP w (D 0) ∧ mk_Now (D 0) wC ∧ wA 2 0 = nI 0 ∧ w 1 0 = u 1 0
  | 0, n, i, u, A, hk, hn, hC, e2, e0, e1 => by
    have ha : a ≤ 20 := h7.1
    obtain ⟨n, rfl, _⟩ := q_fu hn
    obtain ⟨wY, wS, wC, r1, r2⟩ := q_now (y := y) (s := s) (c := c) hB0 hC
    rw [f_Z_anew_23, if_pos (le_t (by omega) (by omega)), hC.1, r1, b4_k]
    exact ⟨wY, u, wS, wC, A, rfl, hC, r2, e2, rfl⟩
  | j + 1, n, i, u, A, hk, hn, hC, e2, e0, e1 => by
    have ha : a ≤ 20 := h7.1
    obtain ⟨n, rfl, _⟩ := q_fu hn
    obtain ⟨_, _, b3⟩ := h7.2.2.2.2 j (by omega)
    rw [← e0, ← e1] at b3
    obtain ⟨w, w1, w2, w3⟩ := q_takeBack (by omega) e2 b3 hC
    obtain ⟨wY, v, wS, wC, wA, g1, g2, g3, g4, g5⟩ := q_anew h7 hB0 uQ y s c j n (i + 1) w (upF 2 (nI j) A) (by omega) (by omega) w2 rfl e0 e1
    rw [f_Z_anew_23, if_neg (le_f (by omega) (by omega)), w1, b2_k, pu_one]
    exact ⟨wY, v, wS, wC, wA, g1, g2, g3, g4, by rw [g5, w3]⟩
theorem s_anew {uR uT uD uY uP uS uC uO uA uX : Nat → Nat → Int32} (uQ : Nat) (h : mk_Inv uR uT uD uY uP uS uC uO uA uX) : ∃ (r : Int32) (wQ : Nat) (wY : Nat → Nat → Int32) (wP : Nat → Nat → Int32) (wS : Nat → Nat → Int32) (wC : Nat → Nat → Int32) (wA : Nat → Nat → Int32) (wX : Nat → Nat → Int32), f_Z_anew uQ uY uP uS uC uA = some (r, wQ, wY, wP, wS, wC, wA) ∧ f_X_anew uX = some (r, wX) ∧ mk_Inv uR uT uD wY wP wS wC uO wA wX := by
  have h' := h
  obtain ⟨d, tl, a, D, h1, h2, h3, h4, h5, h6, h7, hnow⟩ := h
  have h7' := h7
  obtain ⟨a1, a2, a3, a4, a5⟩ := h7'
  unfold f_Z_anew f_X_anew
  rw [q_stands h1 h2, q_is h1 h3, b1_k, b1_k]
  rcases hnow with ⟨z0, hn⟩ | ⟨z0, _⟩
  · have hB0 : mk_BD (D 0) := by
      by_cases q : a = 0
      · subst q; rw [h6]; exact h1
      · exact (a5 0 (by omega)).1
    obtain ⟨wY, w, wS, wC, wA, g1, g2, g3, g4, g5⟩ := q_anew h7 hB0 uQ uY uS uC a 600 0 uP uA (by omega) (by omega) (by rw [h6]; exact h2) a2 rfl rfl
    have hz : 0 < D 0 1 := by rw [q_d1 h1 hB0 h2 g2 g5]; exact z0
    rw [if_pos z0, if_neg one0, if_neg one0, a2, a3, show (0 : Int32) = nI 0 from rfl, g1]
    by_cases q : a = 0
    · subst q
      rw [if_pos (le_t (Nat.le_refl _) (by omega))]
      rw [← h6] at h3
      exact ⟨_, _, wY, w, wS, wC, wA, uX, rfl, rfl, D 0, tl, 0, D, hB0, g2, h3, h4, h5, rfl, ⟨by omega, g4, a3, a4, fun j hj => by omega⟩, Or.inl ⟨hz, g3⟩⟩
    · obtain ⟨wX, f1, f2, f3, f4⟩ := q_goesBack h7 h6 h3 (show 0 < a by omega)
      rw [if_neg (le_f (by omega) (by omega)), f1, b1_k]
      refine ⟨_, _, wY, w, wS, wC, wA, wX, rfl, rfl, D 0, tl, 0, D, hB0, g2, f2, mk_Tp_of h4 (f4 4 (by decide) (by decide)) (f4 5 (by decide) (by decide)), ?_, rfl, ⟨by omega, g4, f3, ?_, fun j hj => by omega⟩, Or.inl ⟨hz, g3⟩⟩
      · rw [f4 6 (by decide) (by decide), f4 7 (by decide) (by decide)]; exact h5
      · intro j k hj hk
        obtain rfl : j = 0 := by omega
        rfl
  · rw [if_neg (show ¬ 0 < d 1 by omega), if_pos rfl, if_pos rfl]
    exact ⟨_, _, _, _, _, _, _, uX, rfl, rfl, h'⟩
theorem mk_Inv_0 : mk_Inv (upF 7 (-1) mk_z) mk_z mk_z mk_z mk_z mk_z mk_z mk_z mk_z (upF 7 (-1) mk_z) := by
  refine ⟨fun _ => 0, 0, 0, fun _ _ => 0, ⟨Nat.zero_le _, Nat.zero_le _, Nat.zero_le _, Nat.zero_le _, Nat.zero_le _, Nat.zero_le _, Nat.zero_le _, Iff.rfl, fun i hi => absurd hi (Nat.not_lt_zero _), fun i hi => absurd hi (Nat.not_lt_zero _)⟩, ⟨rfl, rfl, rfl, rfl, rfl, rfl, rfl, fun i hi => absurd hi (Nat.not_lt_zero _), fun i hi => absurd hi (Nat.not_lt_zero _)⟩, fun j => rfl, ⟨Nat.zero_le _, rfl, rfl, fun j hj => absurd hj (Nat.not_lt_zero _)⟩, ⟨rfl, rfl⟩, rfl, ⟨Nat.zero_le _, rfl, rfl, fun _ _ _ _ => rfl, fun j hj => absurd hj (Nat.not_lt_zero _)⟩, Or.inr ⟨rfl, rfl, rfl⟩⟩
