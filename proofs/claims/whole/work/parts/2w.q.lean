/-! pure: the acts -/
theorem mk_Inv_act {uR uT uD uY uS uC uO uA uX kX x w : Nat → Nat → Int32} {d d' : Nat → Nat} {tl a : Nat} {D : Nat → Nat → Nat} {k v : Int32} (h1 : mk_BD d) (h3 : mk_MP (uX 0) d) (h4 : mk_Tp tl uT uX) (h5 : uR 6 0 = uX 6 0 ∧ uR 7 0 = uX 7 0) (h6 : D a = d) (h7 : mk_Ac a D uA uX) (ha : a < 20) (hB : mk_BD d') (hC : mk_CP w d') (h57 : ∀ k, 57 ≤ k → d' k = d k) (hS : mk_St k v d d') (z0 : 0 < d' 1) (k2 : kX 3 0 = nI (a + 1)) (k3 : ∀ j, j < 57 → kX 2 (57 * a + j) = uX 0 j) (k4 : ∀ j, j < 57 * a → kX 2 j = uX 2 j) (k5 : ∀ k, k ≠ 2 → k ≠ 3 → kX k = uX k) (x0 : mk_MP (x 0) d') (x1 : ∀ k, k ≠ 0 → x k = kX k) : ∃ r wY wS wC wX, f_Y_run uY w uS uC (nI (d' 0)) (-1) (-1) = some (r, wY, wS, wC) ∧ f_X_allNow x = some (r, wX) ∧ mk_Inv uR uT uD wY w wS wC uO (upF 2 (nI (a + 1)) (upR 1 (upd (uA 1) a v) (upR 0 (upd (uA 0) a k) uA))) wX := by
  obtain ⟨wY, wS, wC, wX, r1, r2, r3, r4⟩ := q_act (y := uY) (s := uS) (c := uC) hB hC x0
  have e : ∀ k, k ≠ 0 → k ≠ 2 → k ≠ 3 → k < 15 → wX k = uX k := fun k b0 b2 b3 hk => by rw [r4 k hk, x1 k b0, k5 k b2 b3]
  refine ⟨_, wY, wS, wC, wX, r1, r2, d', tl, a + 1, (fun j => if j ≤ a then D j else d'), hB, hC, ?_, ?_, ?_, ?_, ?_, Or.inl ⟨z0, r3⟩⟩
  · rw [r4 0 (by omega)]; exact x0
  · exact mk_Tp_of h4 (e 4 (by decide) (by decide) (by decide) (by decide)) (e 5 (by decide) (by decide) (by decide) (by decide))
  · rw [e 6 (by decide) (by decide) (by decide) (by decide), e 7 (by decide) (by decide) (by decide) (by decide)]; exact h5
  · show (if a + 1 ≤ a then D (a + 1) else d') = d'
    rw [if_neg (by omega)]
  · exact mk_Ac_of (mk_Ac_push h7 ha h6 h1 h3 h57 hS k2 k3 k4) (by rw [r4 2 (by omega), x1 2 (by decide)]) (by rw [r4 3 (by omega), x1 3 (by decide)])
theorem s_rule {uR uT uD uY uP uS uC uO uA uX : Nat → Nat → Int32} (uQ : Nat) (h : mk_Inv uR uT uD uY uP uS uC uO uA uX) (p1 : Int32) : ∃ (r : Int32) (wQ : Nat) (wY : Nat → Nat → Int32) (wP : Nat → Nat → Int32) (wS : Nat → Nat → Int32) (wC : Nat → Nat → Int32) (wA : Nat → Nat → Int32) (wX : Nat → Nat → Int32), f_Z_rule uQ uY uP uS uC uA p1 = some (r, wQ, wY, wP, wS, wC, wA) ∧ f_X_rule uX p1 = some (r, wX) ∧ mk_Inv uR uT uD wY wP wS wC uO wA wX := by
  have h' := h
  obtain ⟨d, tl, a, D, h1, h2, h3, h4, h5, h6, h7, hnow⟩ := h
  have h7' := h7
  obtain ⟨a1, a2, a3, _⟩ := h7'
  unfold f_Z_rule f_X_rule
  rw [q_stands h1 h2, q_is h1 h3, b1_k, b1_k]
  rcases hnow with ⟨z0, hn⟩ | ⟨z0, _⟩
  · rw [if_pos z0, if_neg one0, if_neg one0]
    obtain ⟨i0, i1⟩ := q_in3 (p := p1) (n := 3) (b := 3) (by omega) rfl
    rcases q_isLaw p1 with ⟨b, l, hl, rfl⟩ | ⟨b, b2⟩
    · rw [b, b1_k, if_neg one0, i1 l hl rfl, b1_k, if_neg one0, h2.1, h3 0]
      by_cases q : nI (d 0) = nI l
      · rw [if_pos q, if_pos q]; exact ⟨_, _, _, _, _, _, _, uX, rfl, rfl, h'⟩
      rw [if_neg q, if_neg q, a2, a3]
      by_cases qa : a < 20
      · rw [if_pos (show nI a < 20 from lt_t (b := 20) qa (by omega)), if_neg (show ¬ nI a = 20 from eq_f (b := 20) (by omega) (by omega) (by omega)), q_note a2 qa, b1_k]
        obtain ⟨kX, k1, k2, k3, k4, k5⟩ := q_keeps qa a3
        have hM : mk_MP (kX 0) d := by rw [k5 0 (by decide) (by decide)]; exact h3
        obtain ⟨r, wY, wS, wC, wX, r1, r2, r3⟩ := mk_Inv_act (uR := uR) (uT := uT) (uD := uD) (uY := uY) (uS := uS) (uC := uC) (uO := uO) (uA := uA) (x := upR 0 (upd (kX 0) 0 (nI l)) kX) h1 h3 h4 h5 h6 h7 qa (mk_BD_L h1 hl) (mk_CP_L h2 l) (fun k hk => ud_n (by omega)) (mk_St_L l) (by rw [ud_n (by omega)]; exact z0) k2 k3 k4 k5 (by rw [upR_s]; exact mk_MP_u hM 0 l) (fun k hk => upR_n hk)
        rw [ud_s] at r1
        rw [k1, b1_k, r1, b4_k, r2, b2_k]
        exact ⟨_, _, wY, _, wS, wC, _, wX, rfl, rfl, r3⟩
      · rw [if_neg (show ¬ nI a < 20 from lt_f (b := 20) (by omega) (by omega)), if_pos (show nI a = 20 from by rw [show a = 20 by omega]; rfl)]
        exact ⟨_, _, _, _, _, _, _, uX, rfl, rfl, h'⟩
    · rw [b, b1_k, if_pos rfl, i0 b2, b1_k, if_pos rfl]
      exact ⟨_, _, _, _, _, _, _, uX, rfl, rfl, h'⟩
  · rw [if_neg (show ¬ 0 < d 1 by omega), if_pos rfl, if_pos rfl]
    exact ⟨_, _, _, _, _, _, _, uX, rfl, rfl, h'⟩
theorem q_in1 {p : Int32} : (p < 1 ∨ nI 12 < p → f_X_in p.toInt64 1 12 = some 0) ∧ (∀ j, 1 ≤ j → j ≤ 12 → p = nI j → f_X_in p.toInt64 1 12 = some 1) := by
  refine ⟨fun h => ?_, fun j hj hj' e => ?_⟩
  · by_cases q : p < 1
    · exact q_inL (y := 1) (z := 12) rfl rfl q
    · rcases h with h | h
      · exact absurd h q
      · exact q_inR (y := 1) (z := 12) rfl rfl h
  · subst e
    exact q_inY (y := 1) (z := 12) rfl rfl (le_t (a := 1) hj (by omega)) (le_t (b := 12) hj' (by omega))
theorem q_rng1 (p : Int32) : p < 1 ∨ (¬ p < 1 ∧ nI 12 < p) ∨ ∃ j : Nat, 1 ≤ j ∧ j ≤ 12 ∧ p = nI j := by
  rcases q_rng2 p (n := 12) (by omega) with q | q | ⟨j, q, rfl⟩
  · left
    rw [Int32.lt_iff_toInt_lt] at q ⊢
    have e0 : (0 : Int32).toInt = 0 := rfl
    have e1 : (1 : Int32).toInt = 1 := rfl
    omega
  · right; left
    refine ⟨?_, q⟩
    rw [Int32.lt_iff_toInt_lt] at q ⊢
    have e0 : (nI 12).toInt = 12 := rfl
    have e1 : (1 : Int32).toInt = 1 := rfl
    omega
  · by_cases z : j = 0
    · subst z; left; decide
    · right; right; exact ⟨j, by omega, q, rfl⟩
theorem s_add {uR uT uD uY uP uS uC uO uA uX : Nat → Nat → Int32} (uQ : Nat) (h : mk_Inv uR uT uD uY uP uS uC uO uA uX) (p1 p2 p3 : Int32) : ∃ (r : Int32) (wQ : Nat) (wY : Nat → Nat → Int32) (wP : Nat → Nat → Int32) (wS : Nat → Nat → Int32) (wC : Nat → Nat → Int32) (wA : Nat → Nat → Int32) (wX : Nat → Nat → Int32), f_Z_add uQ uY uP uS uC uA p1 p2 p3 = some (r, wQ, wY, wP, wS, wC, wA) ∧ f_X_add uX p1 p2 p3 = some (r, wX) ∧ mk_Inv uR uT uD wY wP wS wC uO wA wX := by
  have h' := h
  obtain ⟨d, tl, a, D, h1, h2, h3, h4, h5, h6, h7, hnow⟩ := h
  have h7' := h7
  obtain ⟨a1, a2, a3, _⟩ := h7'
  have hd4 : d 4 ≤ 10 := h1.2.2.2.2.1
  unfold f_Z_add f_X_add
  rw [q_stands h1 h2, q_is h1 h3, b1_k, b1_k]
  rcases hnow with ⟨z0, hn⟩ | ⟨z0, _⟩
  · rw [if_pos z0, if_neg one0, if_neg one0]
    obtain ⟨i0, i1⟩ := q_in3 (p := p1) (n := 199) (b := 199) (by omega) rfl
    rcases q_rng2 p1 (n := 199) (by omega) with q | q | ⟨t, ht, rfl⟩
    · rw [if_pos q, i0 (Or.inl q), b1_k, if_pos rfl]
      exact ⟨_, _, _, _, _, _, _, uX, rfl, rfl, h'⟩
    · rw [i0 (Or.inr q), b1_k, if_pos rfl]
      refine ⟨-2, uQ, uY, uP, uS, uC, uA, uX, ?_, rfl, h'⟩
      rw [if_pos (show (200 : Int32) ≤ p1 from by
        rw [Int32.lt_iff_toInt_lt] at q
        rw [Int32.le_iff_toInt_le]
        have e0 : (nI 199).toInt = 199 := rfl
        have e1 : (200 : Int32).toInt = 200 := rfl
        omega)]
      split <;> rfl
    rw [if_neg (lt_f0 (by omega)), if_neg (show ¬ (200 : Int32) ≤ nI t from le_f (a := 200) (by omega) (by omega)), i1 t ht rfl, b1_k, if_neg one0]
    obtain ⟨j0, j1⟩ := q_in1 (p := p3)
    rcases q_rng1 p3 with q | ⟨q, q'⟩ | ⟨n, hn1, hn2, rfl⟩
    · rw [if_pos q, j0 (Or.inl q), b1_k, if_pos rfl]
      exact ⟨_, _, _, _, _, _, _, uX, rfl, rfl, h'⟩
    · rw [if_neg q, if_neg (show ¬ p3 ≤ 12 from Int32.not_le.mpr q'), j0 (Or.inr q'), b1_k, if_pos rfl]
      exact ⟨_, _, _, _, _, _, _, uX, rfl, rfl, h'⟩
    have hp : 2 ^ n ≤ 2 ^ 12 := Nat.pow_le_pow_right (by omega) hn2
    rw [if_neg (show ¬ nI n < 1 from lt_f (b := 1) hn1 (by omega)), if_pos (show nI n ≤ 12 from le_t (b := 12) hn2 (by omega)), j1 n hn1 hn2 rfl, b1_k, if_neg one0, pu_sh1 (by omega)]
    obtain ⟨m0, m1⟩ := q_inM (p := p2) (y := 0) (n := 2 ^ n) (a := 0) (b := (nI (2 ^ n) - 1).toInt64) (by omega) rfl rfl
    rcases q_rng p2 (n := 2 ^ n) (by omega) with q | q | ⟨b, hb, rfl⟩
    · rw [if_pos q, m0 (Or.inl q), b1_k, if_pos rfl]
      exact ⟨_, _, _, _, _, _, _, uX, rfl, rfl, h'⟩
    · rw [m0 (Or.inr q), b1_k, if_pos rfl]
      refine ⟨-2, uQ, uY, uP, uS, uC, uA, uX, ?_, rfl, h'⟩
      rw [if_neg (show ¬ p2 < nI (2 ^ n) from Int32.not_lt.mpr q)]
      split <;> rfl
    rw [if_neg (lt_f0 (by omega)), if_pos (lt_t hb (by omega)), m1 b hb rfl, b1_k, if_neg one0, h2.2.2.2.2.2.1, h3 4]
    by_cases q4 : d 4 = 10
    · rw [q4, if_pos (show (10 : Int32) ≤ nI 10 by decide), if_pos (show nI 10 = 10 from rfl)]
      exact ⟨_, _, _, _, _, _, _, uX, rfl, rfl, h'⟩
    rw [if_neg (show ¬ (10 : Int32) ≤ nI (d 4) from le_f (a := 10) (by omega) (by omega)), if_neg (show ¬ nI (d 4) = 10 from eq_f (b := 10) q4 (by omega) (by omega)), a2, a3]
    by_cases qa : a < 20
    · obtain ⟨w, w1, w2⟩ := q_addSender h1 h2 (by omega) t n b
      obtain ⟨kX, k1, k2, k3, k4, k5⟩ := q_keeps qa a3
      have hM : mk_MP (kX 0) d := by rw [k5 0 (by decide) (by decide)]; exact h3
      rw [if_pos (show nI a < 20 from lt_t (b := 20) qa (by omega)), if_neg (show ¬ nI a = 20 from eq_f (b := 20) (by omega) (by omega) (by omega)), w1, b1_k, q_note a2 qa, b1_k, k1, b1_k, hM 4, q_p7, q_p17, q_p27, gI_ok (by omega) (by omega), gI_ok (by omega) (by omega), gI_ok (by omega) (by omega), pu_cl (by omega), pu_cl (by omega), pu_cl (by omega), w2.1]
      have e4 : upd (upd (upd (kX 0) (7 + d 4) (nI t)) (17 + d 4) (nI n)) (27 + d 4) (nI b) 4 + 1 = nI (d 4 + 1) := by
        rw [upd_n (by omega), upd_n (by omega), upd_n (by omega), hM 4, pu_one]
      rw [e4]
      obtain ⟨r, wY, wS, wC, wX, r1, r2, r3⟩ := mk_Inv_act (uR := uR) (uT := uT) (uD := uD) (uY := uY) (uS := uS) (uC := uC) (uO := uO) (uA := uA) (v := nI (dS d t n b 0)) (x := upR 0 (upd (upd (upd (upd (kX 0) (7 + d 4) (nI t)) (17 + d 4) (nI n)) (27 + d 4) (nI b)) 4 (nI (d 4 + 1))) (upR 0 (upd (upd (upd (kX 0) (7 + d 4) (nI t)) (17 + d 4) (nI n)) (27 + d 4) (nI b)) (upR 0 (upd (upd (kX 0) (7 + d 4) (nI t)) (17 + d 4) (nI n)) (upR 0 (upd (kX 0) (7 + d 4) (nI t)) kX)))) h1 h3 h4 h5 h6 h7 qa (mk_BD_S h1 (by omega) (by omega) hn1 hn2 hb) w2 (fun k hk => dS_o (by omega) (by omega) (by omega) (by omega)) (mk_St_S _ h1 (by omega)) (by rw [dS_o (by omega) (by omega) (by omega) (by omega)]; exact z0) k2 k3 k4 k5 (by rw [upR_s]; exact mk_MP_u (mk_MP_u (mk_MP_u (mk_MP_u hM _ _) _ _) _ _) _ _) (fun k hk => by rw [upR_n hk, upR_n hk, upR_n hk, upR_n hk])
      rw [r1, b4_k, r2, b2_k]
      exact ⟨_, _, wY, _, wS, wC, _, wX, rfl, rfl, r3⟩
    · rw [if_neg (show ¬ nI a < 20 from lt_f (b := 20) (by omega) (by omega)), if_pos (show nI a = 20 from by rw [show a = 20 by omega]; rfl)]
      exact ⟨_, _, _, _, _, _, _, uX, rfl, rfl, h'⟩
  · rw [if_neg (show ¬ 0 < d 1 by omega), if_pos rfl, if_pos rfl]
    exact ⟨_, _, _, _, _, _, _, uX, rfl, rfl, h'⟩
theorem q_noisy_2 {d : Nat → Nat} {u x : Nat → Nat → Int32} (p : Int32) (hB : mk_BD d) (hC : mk_CP u d) (hM : mk_MP (x 0) d) : ∀ k n n' i, i + k = d 5 → k < n → k < n' → ∃ b, f_P_isNoisy_2 u p n (nI i) = some b ∧ f_X_isNoisy_2 x p n' (nI i) = some b ∧ (b = 0 ∨ b = 1)
  | 0, n, n', i, hk, hn, hn' => by
    have h5 : d 5 ≤ 10 := hB.2.2.2.2.2.1
    obtain ⟨n, rfl, _⟩ := q_fu hn
    obtain ⟨n', rfl, _⟩ := q_fu hn'
    rw [f_P_isNoisy_2, f_X_isNoisy_2, hC.2.2.2.2.2.2.1, hM 5, if_pos (le_t (by omega) (by omega)), if_pos (le_t (by omega) (by omega))]
    exact ⟨_, rfl, rfl, Or.inl rfl⟩
  | k + 1, n, n', i, hk, hn, hn' => by
    have h5 : d 5 ≤ 10 := hB.2.2.2.2.2.1
    obtain ⟨n, rfl, _⟩ := q_fu hn
    obtain ⟨n', rfl, _⟩ := q_fu hn'
    rw [f_P_isNoisy_2, f_X_isNoisy_2, hC.2.2.2.2.2.2.1, hM 5, if_neg (le_f (by omega) (by omega)), if_neg (le_f (by omega) (by omega)), mkAt_ok (by omega) (by omega), (hC.2.2.2.2.2.2.2.2 i (by omega)).1, q_p37, gI_ok (by omega) (by omega), pu_cl (by omega), hM (37 + i), pu_one]
    by_cases q : nI (d (37 + i)) = p
    · rw [if_pos q, if_pos q]; exact ⟨_, rfl, rfl, Or.inr rfl⟩
    · rw [if_neg q, if_neg q]; exact q_noisy_2 p hB hC hM k n n' (i + 1) (by omega) (by omega) (by omega)
theorem q_noisy {d : Nat → Nat} {u x : Nat → Nat → Int32} (p : Int32) (hB : mk_BD d) (hC : mk_CP u d) (hM : mk_MP (x 0) d) : ∃ b, f_P_isNoisy u p = some b ∧ f_X_isNoisy x p = some b ∧ (b = 0 ∨ b = 1) := by
  have h5 : d 5 ≤ 10 := hB.2.2.2.2.2.1
  exact q_noisy_2 p hB hC hM (d 5) 600 600 0 (by omega) (by omega) (by omega)
theorem s_disturb {uR uT uD uY uP uS uC uO uA uX : Nat → Nat → Int32} (uQ : Nat) (h : mk_Inv uR uT uD uY uP uS uC uO uA uX) (p1 p2 : Int32) : ∃ (r : Int32) (wQ : Nat) (wY : Nat → Nat → Int32) (wP : Nat → Nat → Int32) (wS : Nat → Nat → Int32) (wC : Nat → Nat → Int32) (wA : Nat → Nat → Int32) (wX : Nat → Nat → Int32), f_Z_disturb uQ uY uP uS uC uA p1 p2 = some (r, wQ, wY, wP, wS, wC, wA) ∧ f_X_disturb uX p1 p2 = some (r, wX) ∧ mk_Inv uR uT uD wY wP wS wC uO wA wX := by
  have h' := h
  obtain ⟨d, tl, a, D, h1, h2, h3, h4, h5, h6, h7, hnow⟩ := h
  have h7' := h7
  obtain ⟨a1, a2, a3, _⟩ := h7'
  have hd5 : d 5 ≤ 10 := h1.2.2.2.2.2.1
  unfold f_Z_disturb f_X_disturb
  rw [q_stands h1 h2, q_is h1 h3, b1_k, b1_k]
  rcases hnow with ⟨z0, hn⟩ | ⟨z0, _⟩
  · rw [if_pos z0, if_neg one0, if_neg one0]
    obtain ⟨i0, i1⟩ := q_in3 (p := p1) (n := 199) (b := 199) (by omega) rfl
    rcases q_rng2 p1 (n := 199) (by omega) with q | q | ⟨t, ht, rfl⟩
    · rw [if_pos q, i0 (Or.inl q), b1_k, if_pos rfl]
      exact ⟨_, _, _, _, _, _, _, uX, rfl, rfl, h'⟩
    · rw [i0 (Or.inr q), b1_k, if_pos rfl]
      refine ⟨-2, uQ, uY, uP, uS, uC, uA, uX, ?_, rfl, h'⟩
      rw [if_pos (show (200 : Int32) ≤ p1 from by
        rw [Int32.lt_iff_toInt_lt] at q
        rw [Int32.le_iff_toInt_le]
        have e0 : (nI 199).toInt = 199 := rfl
        have e1 : (200 : Int32).toInt = 200 := rfl
        omega)]
      split <;> rfl
    rw [if_neg (lt_f0 (by omega)), if_neg (show ¬ (200 : Int32) ≤ nI t from le_f (a := 200) (by omega) (by omega)), i1 t ht rfl, b1_k, if_neg one0]
    obtain ⟨j0, j1⟩ := q_in3 (p := p2) (n := 2) (b := 2) (by omega) rfl
    rcases q_rng2 p2 (n := 2) (by omega) with q | q | ⟨n, hn2, rfl⟩
    · rw [if_pos q, j0 (Or.inl q), b1_k, if_pos rfl]
      exact ⟨_, _, _, _, _, _, _, uX, rfl, rfl, h'⟩
    · rw [if_neg (show ¬ p2 ≤ 2 from Int32.not_le.mpr q), j0 (Or.inr q), b1_k, if_pos rfl]
      refine ⟨-2, uQ, uY, uP, uS, uC, uA, uX, ?_, rfl, h'⟩
      split <;> rfl
    obtain ⟨y, y1, y2, y3⟩ := q_noisy (nI t) h1 h2 h3
    rw [if_neg (lt_f0 (by omega)), if_pos (show nI n ≤ 2 from le_t (b := 2) hn2 (by omega)), j1 n hn2 rfl, b1_k, if_neg one0, y1, y2, b1_k, b1_k]
    rcases y3 with rfl | rfl
    · rw [if_pos rfl, if_pos rfl, h2.2.2.2.2.2.2.1, h3 5]
      by_cases q5 : d 5 = 10
      · rw [q5, if_pos (show (10 : Int32) ≤ nI 10 by decide), if_pos (show nI 10 = 10 from rfl)]
        exact ⟨_, _, _, _, _, _, _, uX, rfl, rfl, h'⟩
      rw [if_neg (show ¬ (10 : Int32) ≤ nI (d 5) from le_f (a := 10) (by omega) (by omega)), if_neg (show ¬ nI (d 5) = 10 from eq_f (b := 10) q5 (by omega) (by omega)), a2, a3]
      by_cases qa : a < 20
      · obtain ⟨w, w1, w2⟩ := q_addNoise h1 h2 (by omega) t n
        obtain ⟨kX, k1, k2, k3, k4, k5⟩ := q_keeps qa a3
        have hM : mk_MP (kX 0) d := by rw [k5 0 (by decide) (by decide)]; exact h3
        rw [if_pos (show nI a < 20 from lt_t (b := 20) qa (by omega)), if_neg (show ¬ nI a = 20 from eq_f (b := 20) (by omega) (by omega) (by omega)), w1, b1_k, q_note a2 qa, b1_k, k1, b1_k, hM 5, q_p37, gI_ok (by omega) (by omega), pu_cl (by omega), w2.1]
        have e5 : upd (kX 0) (37 + d 5) (nI t) 5 = nI (d 5) := by rw [upd_n (by omega), hM 5]
        rw [e5, q_p47, gI_ok (by omega) (by omega), pu_cl (by omega)]
        have e6 : upd (upd (kX 0) (37 + d 5) (nI t)) (47 + d 5) (nI n) 5 + 1 = nI (d 5 + 1) := by rw [upd_n (by omega), e5, pu_one]
        rw [e6]
        obtain ⟨r, wY, wS, wC, wX, r1, r2, r3⟩ := mk_Inv_act (uR := uR) (uT := uT) (uD := uD) (uY := uY) (uS := uS) (uC := uC) (uO := uO) (uA := uA) (v := nI (dN d t n 0)) (x := upR 0 (upd (upd (upd (kX 0) (37 + d 5) (nI t)) (47 + d 5) (nI n)) 5 (nI (d 5 + 1))) (upR 0 (upd (upd (kX 0) (37 + d 5) (nI t)) (47 + d 5) (nI n)) (upR 0 (upd (kX 0) (37 + d 5) (nI t)) kX))) h1 h3 h4 h5 h6 h7 qa (mk_BD_N h1 (by omega) (by omega) hn2) w2 (fun k hk => dN_o (by omega) (by omega) (by omega)) (mk_St_N _ h1 (by omega)) (by rw [dN_o (by omega) (by omega) (by omega)]; exact z0) k2 k3 k4 k5 (by rw [upR_s]; exact mk_MP_u (mk_MP_u (mk_MP_u hM _ _) _ _) _ _) (fun k hk => by rw [upR_n hk, upR_n hk, upR_n hk])
        rw [r1, b4_k, r2, b2_k]
        exact ⟨_, _, wY, _, wS, wC, _, wX, rfl, rfl, r3⟩
      · rw [if_neg (show ¬ nI a < 20 from lt_f (b := 20) (by omega) (by omega)), if_pos (show nI a = 20 from by rw [show a = 20 by omega]; rfl)]
        exact ⟨_, _, _, _, _, _, _, uX, rfl, rfl, h'⟩
    · rw [if_neg one0, if_neg one0]
      exact ⟨_, _, _, _, _, _, _, uX, rfl, rfl, h'⟩
  · rw [if_neg (show ¬ 0 < d 1 by omega), if_pos rfl, if_pos rfl]
    exact ⟨_, _, _, _, _, _, _, uX, rfl, rfl, h'⟩
