/-! chances: the reference's loops -/
def hPq (P Q : Nat → Nat) (N t m : Nat) (u : Nat → Nat → Int64) : Prop := (∀ k, k ≤ N → ∀ x, x < t → u 45 (13 * k + x) = lN (P (13 * k + x)) ∧ u 46 (13 * k + x) = lN (Q (13 * k + x))) ∧ (∀ k, k < m → u 45 (13 * k + t) = lN (P (13 * k + t)) ∧ u 46 (13 * k + t) = lN (Q (13 * k + t)))
theorem L_c35 {l m t k e : Nat} {P Q : Nat → Nat} {s' q' : Nat} (p1 : Int32) (k9 : Int64 → Int64 → Int32 → (Nat → Nat → Int64) → Option ((Nat → Nat → Int64))) (hm : m ≤ 3) (ht : t ≤ 12) (hk : k ≤ m) (he : e ≤ 1) : ∀ n s q i (u : Nat → Nat → Int64), e_c35 l m t P Q k e n s q i = some (s', q') → 1 ≤ i → i ≤ 20 → (∀ k, k ≤ m → ∀ x, x < t → u 45 (13 * k + x) = lN (P (13 * k + x)) ∧ u 46 (13 * k + x) = lN (Q (13 * k + x))) → ∃ w, f_X_chanceOf_35 p1 (nI m) (nI t) k9 n (lN s) (lN q) (nI k) (nI e) (nI i) u = k9 (lN s') (lN q') (nI (k + 1)) w ∧ w 45 = u 45 ∧ w 46 = u 46
  | 0, _, _, _, _, h, _, _, _ => nomatch h
  | n + 1, s, q, i, u, h, hi, hi2, hu => by
    rw [e_c35] at h
    rw [f_X_chanceOf_35, pu_add]
    by_cases z : t + e ≤ i
    · rw [if_pos z] at h
      injection h with h
      injection h with h1 h2
      subst h1; subst h2
      rw [if_pos (le_t z (by omega)), pu_one]
      exact ⟨u, rfl, rfl, rfl⟩
    · rw [if_neg z] at h
      rw [if_neg (le_f (by omega) (by omega)), show nI t - 1 = nI (t - 1) from pu_sub (b := 1) (by omega), pu_add, pu_sub (show i ≤ t - 1 + e by omega), pu_one]
      generalize hj : t - 1 + e - i = j at *
      by_cases y : j < 1
      · rw [if_pos y] at h
        rw [if_pos (show nI j < 1 from lt_t (b := 1) y (by omega))]
        exact L_c35 p1 k9 hm ht hk he n s q (i + 1) u h (by omega) (by omega) hu
      · rw [if_neg y] at h
        rw [if_neg (show ¬ nI j < 1 from lt_f (b := 1) (by omega) (by omega))]
        by_cases x : j < t
        · rw [if_pos x] at h
          obtain ⟨s1, t1, e1, h⟩ := b2_some h
          obtain ⟨s2, t2, e2, h⟩ := b2_some h
          obtain ⟨s3, t3, e3, h⟩ := b2_some h
          obtain ⟨s4, t4, e4, h⟩ := b2_some h
          obtain ⟨a1, a2⟩ := hu k hk i (by omega)
          obtain ⟨a3, a4⟩ := hu (m - k) (by omega) j x
          rw [if_pos (lt_t x (by omega)), show (13 : Int32) * nI k = nI (13 * k) from pk_mul 13 k, pu_add, gI_ok (by omega) (by omega), pu_cl (by omega), a1, a2, L_is e1, b1_k, pu_sub hk, show (13 : Int32) * nI (m - k) = nI (13 * (m - k)) from pk_mul 13 (m - k), pu_add, gI_ok (by omega) (by omega), pu_cl (by omega)]
          rw [show upF 42 (lN t1) (upF 41 (lN s1) u) 45 = u 45 from rfl, show upF 42 (lN t1) (upF 41 (lN s1) u) 46 = u 46 from rfl, a3, a4, L_ti e2 _ rfl rfl, b1_k, (q_ch m (by omega) k (by omega) hk).1, b1_k, show (2 : Int64) = lN 2 from rfl, L_powX 2 (by omega), b1_k, L_ti e3 _ rfl rfl, b1_k, L_ad e4 _ rfl rfl, b1_k]
          obtain ⟨w, g1, g2, g3⟩ := L_c35 p1 k9 hm ht hk he n s4 t4 (i + 1) (upF 42 (lN t4) (upF 41 (lN s4) (upF 42 (lN t3) (upF 41 (lN s3) (upF 42 (lN t2) (upF 41 (lN s2) (upF 42 (lN t1) (upF 41 (lN s1) u)))))))) h (by omega) (by omega) hu
          exact ⟨w, g1, g2, g3⟩
        · rw [if_neg x] at h
          rw [if_neg (lt_f (by omega) (by omega))]
          exact L_c35 p1 k9 hm ht hk he n s q (i + 1) u h (by omega) (by omega) hu
theorem L_c9 {l m t : Nat} {P Q : Nat → Nat} {s' q' : Nat} (hl : l ≤ 1) (hm : m ≤ 3) (ht : t ≤ 12) : ∀ n s q k (u : Nat → Nat → Int64), e_c9 l m t P Q n s q k = some (s', q') → k ≤ m + 1 → (∀ k, k ≤ m → ∀ x, x < t → u 45 (13 * k + x) = lN (P (13 * k + x)) ∧ u 46 (13 * k + x) = lN (Q (13 * k + x))) → ∃ w, f_X_chanceOf_9 (nI l) (nI m) (nI t) n (lN s) (lN q) (nI k) u = some w ∧ w 41 0 = lN s' ∧ w 42 0 = lN q' ∧ w 45 = u 45 ∧ w 46 = u 46
  | 0, _, _, _, _, h, _, _ => nomatch h
  | n + 1, s, q, k, u, h, hk, hu => by
    rw [e_c9] at h
    rw [f_X_chanceOf_9]
    by_cases z : m < k
    · rw [if_pos z] at h
      rw [if_pos (lt_t z (by omega)), L_is h, b1_k]
      exact ⟨_, rfl, rfl, rfl, rfl, rfl⟩
    · rw [if_neg z] at h
      obtain ⟨s1, t1, e1, h⟩ := b2_some h
      rw [if_neg (lt_f (by omega) (by omega))]
      have fin : ∀ e, e ≤ 1 → e_c35 l m t P Q k e 600 s q 1 = some (s1, t1) → ∃ w, f_X_chanceOf_35 (nI l) (nI m) (nI t) (f_X_chanceOf_9 (nI l) (nI m) (nI t) n) 600 (lN s) (lN q) (nI k) (nI e) (nI 1) u = some w ∧ w 41 0 = lN s' ∧ w 42 0 = lN q' ∧ w 45 = u 45 ∧ w 46 = u 46 := by
        intro e he e1
        obtain ⟨w, g1, g2, g3⟩ := L_c35 (nI l) (f_X_chanceOf_9 (nI l) (nI m) (nI t) n) hm ht (show k ≤ m by omega) he 600 s q 1 u e1 (by omega) (by omega) hu
        obtain ⟨v, f1, f2, f3, f4, f5⟩ := L_c9 hl hm ht n s1 t1 (k + 1) w h (by omega) (by rw [g2, g3]; exact hu)
        exact ⟨v, by rw [g1, f1], f2, f3, by rw [f4, g2], by rw [f5, g3]⟩
      by_cases y : l = 1
      · rw [if_pos (show nI l = 1 by rw [y]; rfl)]
        by_cases x : k = 0
        · rw [if_pos ⟨y, x⟩] at e1
          rw [if_pos (show nI k = 0 by rw [x]; rfl)]
          exact fin 1 (by omega) e1
        · rw [if_neg (fun q => x q.2)] at e1
          rw [if_neg (eq_f0 x (by omega))]
          exact fin 0 (by omega) e1
      · rw [if_neg (fun q => y q.1)] at e1
        rw [if_neg (show ¬ nI l = 1 from eq_f (b := 1) y (by omega) (by omega))]
        exact fin 0 (by omega) e1
theorem L_c12 {W P Q : Nat → Nat} {l : Nat} (hH : mk_H l W P Q) (hl : l ≤ 1) {N t : Nat} (hN : N ≤ 3) (ht : t ≤ 12) (p3 : Int32) (k3 : Int32 → (Nat → Nat → Int64) → Option ((Nat → Nat → Int64))) : ∀ j n m (u : Nat → Nat → Int64), m + j = N + 1 → j < n → hPq P Q N t m u → ∃ w, f_X_chances_12 (nI l) (nI N) p3 k3 n (nI t) (nI m) u = k3 (nI (t + 1)) w ∧ hPq P Q N t (N + 1) w
  | 0, n, m, u, hj, hn, h => by
    obtain ⟨n, rfl, _⟩ := q_fu hn
    obtain rfl : m = N + 1 := by omega
    rw [f_X_chances_12, if_pos (lt_t (by omega) (by omega)), pu_one]
    exact ⟨u, rfl, h⟩
  | j + 1, n, m, u, hj, hn, h => by
    obtain ⟨n, rfl, _⟩ := q_fu hn
    have hH' := hH
    obtain ⟨_, _, _, _, h5, h6⟩ := hH'
    have fin : ∀ v : Nat → Nat → Int64, v 41 0 = lN (P (13 * m + t)) → v 42 0 = lN (Q (13 * m + t)) → v 45 = u 45 → v 46 = u 46 → ∃ w, f_X_chances_52 (nI l) (nI N) p3 k3 (f_X_chances_12 (nI l) (nI N) p3 k3 n) (nI t) (nI m) v = k3 (nI (t + 1)) w ∧ hPq P Q N t (N + 1) w := by
      intro v v1 v2 v3 v4
      unfold f_X_chances_52
      rw [show (13 : Int32) * nI m = nI (13 * m) from pk_mul 13 m, pu_add, gI_ok (by omega) (by omega), pu_cl (by omega), v1, v2, v3, v4, pu_one]
      refine L_c12 hH hl hN ht p3 k3 j n (m + 1) _ (by omega) (by omega) ⟨fun k hk x hx => ?_, fun k hk => ?_⟩
      · show vp_updL (u 45) (13 * m + t) _ (13 * k + x) = _ ∧ vp_updL (u 46) (13 * m + t) _ (13 * k + x) = _
        rw [updL_n (by omega), updL_n (by omega)]; exact h.1 k hk x hx
      · show vp_updL (u 45) (13 * m + t) _ (13 * k + t) = _ ∧ vp_updL (u 46) (13 * m + t) _ (13 * k + t) = _
        by_cases y : k = m
        · subst y; rw [updL_s, updL_s]; exact ⟨rfl, rfl⟩
        · rw [updL_n (by omega), updL_n (by omega)]; exact h.2 k (by omega)
    rw [f_X_chances_12, if_neg (lt_f (by omega) (by omega))]
    by_cases z : 2 ≤ m
    · obtain ⟨w, g1, g2, g3, g4, g5⟩ := L_c9 (P := P) (Q := Q) hl (show m ≤ 3 by omega) ht 600 0 1 0 u (h6 m (by omega) z t (by omega)) (by omega) (fun k hk x hx => h.1 k (by omega) x hx)
      have g1' : f_X_chanceOf u (nI l) (nI m) (nI t) = some w := g1
      rw [if_pos (show (2 : Int32) ≤ nI m from le_t (a := 2) z (by omega)), g1', b1_k]
      exact fin w g2 g3 g4 g5
    · have e := h5 m (by omega) t (by omega)
      rw [if_neg (show ¬ (2 : Int32) ≤ nI m from le_f (a := 2) (by omega) (by omega))]
      unfold f_X_chances_36
      by_cases y : t = 1
      · rw [if_pos y] at e
        rw [if_pos (show nI t = 1 by rw [y]; rfl), show (1 : Int64) = lN 1 from rfl, L_is e, b1_k]
        exact fin _ rfl rfl rfl rfl
      · rw [if_neg y] at e
        rw [if_neg (show ¬ nI t = 1 from eq_f (b := 1) y (by omega) (by omega)), show (1 : Int64) = lN 1 from rfl, show (0 : Int64) = lN 0 from rfl, L_is e, b1_k]
        exact fin _ rfl rfl rfl rfl
theorem L_c3 {W P Q : Nat → Nat} {l : Nat} (hH : mk_H l W P Q) (hl : l ≤ 1) {N S : Nat} (hN : N ≤ 3) (hS : S ≤ 12) : ∀ j n t (u : Nat → Nat → Int64), t + j = S + 1 → j < n → (∀ k, k ≤ N → ∀ x, x < t → u 45 (13 * k + x) = lN (P (13 * k + x)) ∧ u 46 (13 * k + x) = lN (Q (13 * k + x))) → ∃ w, f_X_chances_3 (nI l) (nI N) (nI S) n (nI t) u = some w ∧ (∀ k, k ≤ N → ∀ x, x < S + 1 → w 45 (13 * k + x) = lN (P (13 * k + x)) ∧ w 46 (13 * k + x) = lN (Q (13 * k + x)))
  | 0, n, t, u, hj, hn, h => by
    obtain ⟨n, rfl, _⟩ := q_fu hn
    obtain rfl : t = S + 1 := by omega
    rw [f_X_chances_3, if_pos (lt_t (by omega) (by omega))]
    exact ⟨u, rfl, h⟩
  | j + 1, n, t, u, hj, hn, h => by
    obtain ⟨n, rfl, _⟩ := q_fu hn
    obtain ⟨w, g1, g2⟩ := L_c12 hH hl hN (show t ≤ 12 by omega) (nI S) (f_X_chances_3 (nI l) (nI N) (nI S) n) (N + 1) 600 0 u (by omega) (by omega) ⟨h, fun k hk => by omega⟩
    rw [f_X_chances_3, if_neg (lt_f (by omega) (by omega)), show (0 : Int32) = nI 0 from rfl, g1]
    refine L_c3 hH hl hN hS j n (t + 1) w (by omega) (by omega) (fun k hk x hx => ?_)
    by_cases y : x = t
    · subst y; exact g2.2 k (by omega)
    · exact g2.1 k hk x (by omega)
theorem s_chance {uR uT uD uY uP uS uC uO uA uX : Nat → Nat → Int32} (uM : Nat → Nat → Int64) (uL : Nat → Nat → Int64) (h : mk_Inv uR uT uD uY uP uS uC uO uA uX) (p1 p2 p3 p4 : Int32) : ∃ (r : Int64) (wM : Nat → Nat → Int64) (wL : Nat → Nat → Int64), f_Z_chance uM p1 p2 p3 p4 = some (r, wM) ∧ f_X_chance uL p1 p2 p3 p4 = some (r, wL) ∧ mk_Inv uR uT uD uY uP uS uC uO uA uX := by
  unfold f_Z_chance f_X_chance
  rcases q_mn (some ((-2 : Int64), uM)) (if p3 < 1 then some ((-2), uM) else if p3 ≤ 12 then b1 (f_M_reckonChance uM p1 p2 p3) (fun uM_11 => if p4 = 0 then some ((uM_11 3 0), uM_11) else some ((uM_11 4 0), uM_11)) else some ((-2), uM)) p1 p2 p4 (N := 3) (by omega) with ⟨l, n, w, hl, hn, hw, rfl, rfl, rfl, e1, e2⟩ | ⟨e1, e2⟩
  · rw [show (3 : Int32) = nI 3 from rfl, e1, e2, b1_k, if_neg one0]
    obtain ⟨i0, i1⟩ := q_in1 (p := p3)
    rcases q_rng1 p3 with q | ⟨q, q'⟩ | ⟨s, hs1, hs2, rfl⟩
    · rw [i0 (Or.inl q), b1_k, if_pos rfl, if_pos q]
      exact ⟨_, _, _, rfl, rfl, h⟩
    · rw [i0 (Or.inr q'), b1_k, if_pos rfl, if_neg q, if_neg (show ¬ p3 ≤ 12 from Int32.not_le.mpr q')]
      exact ⟨_, _, _, rfl, rfl, h⟩
    obtain ⟨W, P, Q, hH⟩ := T_chance hl
    obtain ⟨x, a1, a2, a3⟩ := L_chM hH hl hn hs1 hs2 uM
    obtain ⟨y, b1', b2'⟩ := L_c3 hH hl hn hs2 (s + 1) 600 0 uL (by omega) (by omega) (fun k _ x hx => by omega)
    have b1'' : f_X_chances uL (nI l) (nI n) (nI s) = some y := b1'
    rw [i1 s hs1 hs2 rfl, b1_k, if_neg one0, if_neg (show ¬ nI s < 1 from lt_f (b := 1) hs1 (by omega)), if_pos (show nI s ≤ 12 from le_t (b := 12) hs2 (by omega)), a1, b1'', b1_k, b1_k, show (13 : Int32) * nI n = nI (13 * n) from pk_mul 13 n, pu_add, gI_ok (by omega) (by omega), gI_ok (by omega) (by omega), pu_cl (by omega), a2, a3, (b2' n (Nat.le_refl _) s (by omega)).1, (b2' n (Nat.le_refl _) s (by omega)).2]
    by_cases z : nI w = 0
    · rw [if_pos z, if_pos z]; exact ⟨_, _, _, rfl, rfl, h⟩
    · rw [if_neg z, if_neg z]; exact ⟨_, _, _, rfl, rfl, h⟩
  · rw [show (3 : Int32) = nI 3 from rfl, e1, e2, b1_k, if_pos rfl]
    exact ⟨_, _, _, rfl, rfl, h⟩
