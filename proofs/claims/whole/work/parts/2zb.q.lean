/-! means: the calls -/
theorem T_mean {l : Nat} (hl : l ≤ 1) : ∃ A B, mk_T l 1 2 8 A B := by
  have : l = 0 ∨ l = 1 := by omega
  rcases this with rfl | rfl
  · exact ⟨_, _, tab_0_1_2⟩
  · exact ⟨_, _, tab_1_1_2⟩
theorem mk_T_le {l a b N n : Nat} {A B : Nat → Nat} (h : mk_T l a b N A B) (hn : n ≤ N) : mk_T l a b n A B := ⟨h.1, fun m hm => h.2 m (by omega)⟩
theorem T_lean {l a b : Nat} (hl : l ≤ 1) (ha : 1 ≤ a) (hab : a < b) (hb : b ≤ 5) : ∃ A B, mk_T l a b 5 A B := by
  have hL : l = 0 ∨ l = 1 := by omega
  have : (a = 1 ∧ b = 2) ∨ (a = 1 ∧ b = 3) ∨ (a = 2 ∧ b = 3) ∨ (a = 1 ∧ b = 4) ∨ (a = 2 ∧ b = 4) ∨ (a = 3 ∧ b = 4) ∨ (a = 1 ∧ b = 5) ∨ (a = 2 ∧ b = 5) ∨ (a = 3 ∧ b = 5) ∨ (a = 4 ∧ b = 5) := by omega
  rcases this with ⟨rfl, rfl⟩ | ⟨rfl, rfl⟩ | ⟨rfl, rfl⟩ | ⟨rfl, rfl⟩ | ⟨rfl, rfl⟩ | ⟨rfl, rfl⟩ | ⟨rfl, rfl⟩ | ⟨rfl, rfl⟩ | ⟨rfl, rfl⟩ | ⟨rfl, rfl⟩
  · rcases hL with rfl | rfl
    · exact ⟨_, _, mk_T_le tab_0_1_2 (by omega)⟩
    · exact ⟨_, _, mk_T_le tab_1_1_2 (by omega)⟩
  · rcases hL with rfl | rfl
    · exact ⟨_, _, tab_0_1_3⟩
    · exact ⟨_, _, tab_1_1_3⟩
  · rcases hL with rfl | rfl
    · exact ⟨_, _, tab_0_2_3⟩
    · exact ⟨_, _, tab_1_2_3⟩
  · rcases hL with rfl | rfl
    · exact ⟨_, _, tab_0_1_4⟩
    · exact ⟨_, _, tab_1_1_4⟩
  · rcases hL with rfl | rfl
    · exact ⟨_, _, tab_0_2_4⟩
    · exact ⟨_, _, tab_1_2_4⟩
  · rcases hL with rfl | rfl
    · exact ⟨_, _, tab_0_3_4⟩
    · exact ⟨_, _, tab_1_3_4⟩
  · rcases hL with rfl | rfl
    · exact ⟨_, _, tab_0_1_5⟩
    · exact ⟨_, _, tab_1_1_5⟩
  · rcases hL with rfl | rfl
    · exact ⟨_, _, tab_0_2_5⟩
    · exact ⟨_, _, tab_1_2_5⟩
  · rcases hL with rfl | rfl
    · exact ⟨_, _, tab_0_3_5⟩
    · exact ⟨_, _, tab_1_3_5⟩
  · rcases hL with rfl | rfl
    · exact ⟨_, _, tab_0_4_5⟩
    · exact ⟨_, _, tab_1_4_5⟩
theorem q_01 (p : Int32) : (∃ l, l ≤ 1 ∧ p = nI l ∧ f_Z_isTreeLaw p = some 1 ∧ f_Z_isPart p = some 1 ∧ f_X_in p.toInt64 0 1 = some 1) ∨ (f_Z_isTreeLaw p = some 0 ∧ f_Z_isPart p = some 0 ∧ f_X_in p.toInt64 0 1 = some 0) := by
  obtain ⟨i0, i1⟩ := q_in3 (p := p) (n := 1) (b := 1) (by omega) rfl
  unfold f_Z_isTreeLaw f_Z_isPart
  have no : (p < 0 ∨ nI 1 < p) → ¬ p = 0 ∧ ¬ p = 1 := by
    intro h
    constructor
    · intro e; subst e; revert h; decide
    · intro e; subst e; revert h; decide
  rcases q_rng2 p (n := 1) (by omega) with q | q | ⟨j, q, rfl⟩
  · right
    obtain ⟨a, b⟩ := no (Or.inl q)
    rw [if_neg a, if_neg b]; exact ⟨rfl, rfl, i0 (Or.inl q)⟩
  · right
    obtain ⟨a, b⟩ := no (Or.inr q)
    rw [if_neg a, if_neg b]; exact ⟨rfl, rfl, i0 (Or.inr q)⟩
  · left
    have e := i1 j q rfl
    refine ⟨j, q, rfl, ?_, ?_, e⟩
    · have : j = 0 ∨ j = 1 := by omega
      rcases this with rfl | rfl
      · rfl
      · rfl
    · have : j = 0 ∨ j = 1 := by omega
      rcases this with rfl | rfl
      · rfl
      · rfl
theorem q_mn {β : Type} (X K : Option β) (p1 p2 p3 : Int32) {N : Nat} (hN : N < 100) : (∃ l n w, l ≤ 1 ∧ n ≤ N ∧ w ≤ 1 ∧ p1 = nI l ∧ p2 = nI n ∧ p3 = nI w ∧ f_X_isMean p1 p2 (nI N) p3 = some 1 ∧ b1 (f_Z_isTreeLaw p1) (fun r1 => if r1 = 0 then X else if p2 < 0 then X else if nI N < p2 then X else b1 (f_Z_isPart p3) (fun r6 => if r6 = 0 then X else K)) = K) ∨ (f_X_isMean p1 p2 (nI N) p3 = some 0 ∧ b1 (f_Z_isTreeLaw p1) (fun r1 => if r1 = 0 then X else if p2 < 0 then X else if nI N < p2 then X else b1 (f_Z_isPart p3) (fun r6 => if r6 = 0 then X else K)) = X) := by
  unfold f_X_isMean
  rcases q_01 p1 with ⟨l, hl, e1, e2, _, e4⟩ | ⟨e2, _, e4⟩
  · rw [e2, e4, b1_k, b1_k, if_neg one0, if_neg one0]
    obtain ⟨i0, i1⟩ := q_in3 (p := p2) (n := N) (b := (nI N).toInt64) (by omega) rfl
    rcases q_rng2 p2 (n := N) (by omega) with q | q | ⟨n, q, rfl⟩
    · right
      rw [if_pos q, i0 (Or.inl q), b1_k, if_pos rfl]; exact ⟨rfl, rfl⟩
    · right
      rw [if_pos q, i0 (Or.inr q), b1_k, if_pos rfl]
      refine ⟨rfl, ?_⟩
      split <;> rfl
    · rw [if_neg (lt_f0 (by omega)), if_neg (lt_f q (by omega)), i1 n q rfl, b1_k, if_neg one0]
      rcases q_01 p3 with ⟨w, hw, f1, _, f3, f4⟩ | ⟨_, f3, f4⟩
      · left
        rw [f3, f4, b1_k, b1_k, if_neg one0, if_neg one0]
        exact ⟨l, n, w, hl, q, hw, e1, rfl, f1, rfl, rfl⟩
      · right
        rw [f3, f4, b1_k, b1_k, if_pos rfl, if_pos rfl]
        exact ⟨rfl, rfl⟩
  · right
    rw [e2, e4, b1_k, b1_k, if_pos rfl, if_pos rfl]; exact ⟨rfl, rfl⟩
theorem s_mean {uR uT uD uY uP uS uC uO uA uX : Nat → Nat → Int32} (uM : Nat → Nat → Int64) (uL : Nat → Nat → Int64) (h : mk_Inv uR uT uD uY uP uS uC uO uA uX) (p1 p2 p3 : Int32) : ∃ (r : Int64) (wM : Nat → Nat → Int64) (wL : Nat → Nat → Int64), f_Z_mean uM p1 p2 p3 = some (r, wM) ∧ f_X_mean uL p1 p2 p3 = some (r, wL) ∧ mk_Inv uR uT uD uY uP uS uC uO uA uX := by
  unfold f_Z_mean f_X_mean
  rcases q_mn (some ((-2 : Int64), uM)) (b1 (f_M_reckon uM p1 p2 1 2) (fun uM_9 => if p3 = 0 then some ((mkAtL 9 (uM_9 0) p2), uM_9) else some ((mkAtL 9 (uM_9 1) p2), uM_9))) p1 p2 p3 (N := 8) (by omega) with ⟨l, n, w, hl, hn, hw, rfl, rfl, rfl, e1, e2⟩ | ⟨e1, e2⟩
  · obtain ⟨A, B, hT⟩ := T_mean hl
    obtain ⟨⟨a, a1, a2⟩, ⟨b, b1', b2'⟩⟩ := L_means hT hl (by omega) (by omega) (by omega) hn uM uL
    rw [show (8 : Int32) = nI 8 from rfl, e1, e2, show (1 : Int32) = nI 1 from rfl, show (2 : Int32) = nI 2 from rfl, show (1 : Int64) = lN 1 from rfl, show (2 : Int64) = lN 2 from rfl, a1, b1_k, b1_k, if_neg (show ¬ nI 1 = 0 by decide), b1', b1_k, gI_ok (by omega) (by omega), gI_ok (by omega) (by omega), pu_cl (by omega), mkAtL_ok (by omega) (by omega), mkAtL_ok (by omega) (by omega), (a2 n (Nat.le_refl _)).1, (a2 n (Nat.le_refl _)).2, (b2' n (Nat.le_refl _)).1, (b2' n (Nat.le_refl _)).2]
    by_cases z : nI w = 0
    · rw [if_pos z, if_pos z]; exact ⟨_, _, _, rfl, rfl, h⟩
    · rw [if_neg z, if_neg z]; exact ⟨_, _, _, rfl, rfl, h⟩
  · rw [show (8 : Int32) = nI 8 from rfl, e1, e2, b1_k, if_pos rfl]
    exact ⟨_, _, _, rfl, rfl, h⟩
theorem q_inAB {p : Int32} {a b : Nat} {x y : Int64} (hb : b < 100) (ha : a ≤ b) (hx : x = (nI a).toInt64) (hy : y = (nI b).toInt64) : (p < nI a ∨ nI b < p → f_X_in p.toInt64 x y = some 0) ∧ (∀ j, a ≤ j → j ≤ b → p = nI j → f_X_in p.toInt64 x y = some 1) := by
  refine ⟨fun h => ?_, fun j h1 h2 e => ?_⟩
  · by_cases q : p < nI a
    · exact q_inL hx hy q
    · rcases h with h | h
      · exact absurd h q
      · exact q_inR hx hy h
  · subst e
    exact q_inY hx hy (le_t h1 (by omega)) (le_t h2 (by omega))
theorem q_rngAB (p : Int32) {a b : Nat} (hb : b < 100) (ha : a ≤ b) : p < nI a ∨ (¬ p < nI a ∧ nI b < p) ∨ ∃ j : Nat, a ≤ j ∧ j ≤ b ∧ p = nI j := by
  rcases q_rng2 p (n := b) (by omega) with q | q | ⟨j, q, rfl⟩
  · left
    rw [Int32.lt_iff_toInt_lt] at q ⊢
    rw [nI_toInt (by omega)]
    have e0 : (0 : Int32).toInt = 0 := rfl
    omega
  · right; left
    refine ⟨?_, q⟩
    rw [Int32.lt_iff_toInt_lt, nI_toInt (by omega)] at *
    omega
  · by_cases z : a ≤ j
    · right; right; exact ⟨j, z, q, rfl⟩
    · left; exact lt_t (by omega) (by omega)
theorem s_leaning {uR uT uD uY uP uS uC uO uA uX : Nat → Nat → Int32} (uM : Nat → Nat → Int64) (uL : Nat → Nat → Int64) (h : mk_Inv uR uT uD uY uP uS uC uO uA uX) (p1 p2 p3 p4 p5 : Int32) : ∃ (r : Int64) (wM : Nat → Nat → Int64) (wL : Nat → Nat → Int64), f_Z_leaning uM p1 p2 p3 p4 p5 = some (r, wM) ∧ f_X_leaning uL p1 p2 p3 p4 p5 = some (r, wL) ∧ mk_Inv uR uT uD uY uP uS uC uO uA uX := by
  unfold f_Z_leaning f_X_leaning
  rcases q_mn (some ((-2 : Int64), uM)) (if p3 < 1 then some ((-2), uM) else if (4 : Int32) < p3 then some ((-2), uM) else if p4 < 2 then some ((-2), uM) else if nI 5 < p4 then some ((-2), uM) else if p3 < p4 then b1 (f_M_reckon uM p1 p2 p3 p4) (fun uM_14 => if p5 = 0 then some ((mkAtL 9 (uM_14 0) p2), uM_14) else some ((mkAtL 9 (uM_14 1) p2), uM_14)) else some ((-2), uM)) p1 p2 p5 (N := 5) (by omega) with ⟨l, n, w, hl, hn, hw, rfl, rfl, rfl, e1, e2⟩ | ⟨e1, e2⟩
  · rw [show (5 : Int32) = nI 5 from rfl, e1, e2, b1_k, if_neg one0]
    obtain ⟨i0, i1⟩ := q_inAB (p := p3) (a := 1) (b := 4) (x := 1) (y := 4) (by omega) (by omega) rfl rfl
    rcases q_rngAB p3 (a := 1) (b := 4) (by omega) (by omega) with q | ⟨q, q'⟩ | ⟨a, ha1, ha4, rfl⟩
    · rw [i0 (Or.inl q), b1_k, if_pos rfl, if_pos (show p3 < 1 from q)]
      exact ⟨_, _, _, rfl, rfl, h⟩
    · rw [i0 (Or.inr q'), b1_k, if_pos rfl, if_neg (show ¬ p3 < 1 from q), if_pos (show (4 : Int32) < p3 from q')]
      exact ⟨_, _, _, rfl, rfl, h⟩
    rw [i1 a ha1 ha4 rfl, b1_k, if_neg one0, if_neg (show ¬ nI a < 1 from lt_f (b := 1) ha1 (by omega)), if_neg (show ¬ (4 : Int32) < nI a from lt_f (a := 4) ha4 (by omega))]
    obtain ⟨j0, j1⟩ := q_inAB (p := p4) (a := a + 1) (b := 5) (x := ((nI a + 1 : Int32)).toInt64) (y := 5) (by omega) (by omega) (by rw [pu_one]) rfl
    rcases q_rngAB p4 (a := a + 1) (b := 5) (by omega) (by omega) with q | ⟨q, q'⟩ | ⟨b, hb1, hb5, rfl⟩
    · rw [j0 (Or.inl q), b1_k, if_pos rfl]
      refine ⟨-2, uM, uL, ?_, rfl, h⟩
      have nl : ¬ nI a < p4 := by
        intro z
        rw [Int32.lt_iff_toInt_lt, nI_toInt (by omega)] at q z
        omega
      rw [if_neg nl]
      split
      · rfl
      · split <;> rfl
    · rw [j0 (Or.inr q'), b1_k, if_pos rfl, if_pos (show nI 5 < p4 from q')]
      refine ⟨-2, uM, uL, ?_, rfl, h⟩
      split <;> rfl
    rw [j1 b hb1 hb5 rfl, b1_k, if_neg one0, if_neg (show ¬ nI b < 2 from lt_f (b := 2) (by omega) (by omega)), if_neg (show ¬ nI 5 < nI b from lt_f hb5 (by omega)), if_pos (lt_t (by omega) (by omega))]
    obtain ⟨A, B, hT⟩ := T_lean hl ha1 (show a < b by omega) hb5
    obtain ⟨⟨x, a1, a2⟩, ⟨y, b1', b2'⟩⟩ := L_means hT hl (by omega) (by omega) (by omega) hn uM uL
    rw [a1, b1_k, nI_l (n := a) (by omega), nI_l (n := b) (by omega), b1', b1_k, gI_ok (by omega) (by omega), gI_ok (by omega) (by omega), pu_cl (by omega), mkAtL_ok (by omega) (by omega), mkAtL_ok (by omega) (by omega), (a2 n (Nat.le_refl _)).1, (a2 n (Nat.le_refl _)).2, (b2' n (Nat.le_refl _)).1, (b2' n (Nat.le_refl _)).2]
    by_cases z : nI w = 0
    · rw [if_pos z, if_pos z]; exact ⟨_, _, _, rfl, rfl, h⟩
    · rw [if_neg z, if_neg z]; exact ⟨_, _, _, rfl, rfl, h⟩
  · rw [show (5 : Int32) = nI 5 from rfl, e1, e2, b1_k, if_pos rfl]
    exact ⟨_, _, _, rfl, rfl, h⟩
theorem q_best {A B : Nat → Nat} (p : Int32) {u v : Nat → Nat → Int64} (hu : ∀ k, k ≤ 8 → u 0 k = lN (A k) ∧ u 1 k = lN (B k)) (hv : ∀ k, k ≤ 8 → v 43 k = lN (A k) ∧ v 44 k = lN (B k)) : ∀ j n n' i z, i + j = 9 → j < n → j < n' → z < 9 → ∃ r, f_M_bestCount_13 p n (nI z) (nI i) u = some (r, u) ∧ f_X_best_28 p n' (nI z) (nI i) v = some (r, v)
  | 0, n, n', i, z, hj, hn, hn', hz => by
    obtain ⟨n, rfl, _⟩ := q_fu hn
    obtain ⟨n', rfl, _⟩ := q_fu hn'
    rw [f_M_bestCount_13, f_X_best_28, if_pos (show (8 : Int32) < nI i from lt_t (a := 8) (by omega) (by omega)), if_pos (show (9 : Int32) ≤ nI i from le_t (a := 9) (by omega) (by omega))]
    exact ⟨_, rfl, rfl⟩
  | j + 1, n, n', i, z, hj, hn, hn', hz => by
    obtain ⟨n, rfl, _⟩ := q_fu hn
    obtain ⟨n', rfl, _⟩ := q_fu hn'
    obtain ⟨a1, a2⟩ := hu i (by omega)
    obtain ⟨a3, a4⟩ := hu z (by omega)
    obtain ⟨b1', b2'⟩ := hv i (by omega)
    obtain ⟨b3', b4'⟩ := hv z (by omega)
    rw [f_M_bestCount_13, f_X_best_28, if_neg (show ¬ (8 : Int32) < nI i from lt_f (a := 8) (by omega) (by omega)), if_neg (show ¬ (9 : Int32) ≤ nI i from le_f (a := 9) (by omega) (by omega)), gI_ok (by omega) (by omega), gI_ok (by omega) (by omega), pu_cl (by omega), pu_cl (by omega), mkAtL_ok (by omega) (by omega), mkAtL_ok (by omega) (by omega), mkAtL_ok (by omega) (by omega), mkAtL_ok (by omega) (by omega), a1, a2, a3, a4, b1', b2', b3', b4', pu_one]
    split
    · exact q_best p hu hv j n n' (i + 1) z (by omega) (by omega) (by omega) hz
    · exact q_best p hu hv j n n' (i + 1) i (by omega) (by omega) (by omega) (by omega)
theorem s_best {uR uT uD uY uP uS uC uO uA uX : Nat → Nat → Int32} (uM : Nat → Nat → Int64) (uL : Nat → Nat → Int64) (h : mk_Inv uR uT uD uY uP uS uC uO uA uX) (p1 : Int32) : ∃ (r : Int32) (wM : Nat → Nat → Int64) (wL : Nat → Nat → Int64), f_Z_best uM p1 = some (r, wM) ∧ f_X_best uL p1 = some (r, wL) ∧ mk_Inv uR uT uD uY uP uS uC uO uA uX := by
  unfold f_Z_best f_X_best f_M_bestCount
  rcases q_01 p1 with ⟨l, hl, rfl, e2, _, e4⟩ | ⟨e2, _, e4⟩
  · obtain ⟨A, B, hT⟩ := T_mean hl
    obtain ⟨⟨x, a1, a2⟩, ⟨y, c1, c2⟩⟩ := L_means hT hl (by omega) (by omega) (by omega) (Nat.le_refl 8) uM uL
    obtain ⟨r, r1, r2⟩ := q_best (nI l) a2 c2 7 600 600 2 1 (by omega) (by omega) (by omega) (by omega)
    rw [e2, e4, b1_k, b1_k, if_neg one0, if_neg one0, show (8 : Int32) = nI 8 from rfl, show (1 : Int64) = lN 1 from rfl, show (2 : Int64) = lN 2 from rfl, show (1 : Int32) = nI 1 from rfl, show (2 : Int32) = nI 2 from rfl, a1, c1, b1_k, b1_k, r1, r2, b2_k]
    exact ⟨r, x, y, rfl, rfl, h⟩
  · rw [e2, e4, b1_k, b1_k, if_pos rfl, if_pos rfl]
    exact ⟨_, _, _, rfl, rfl, h⟩
