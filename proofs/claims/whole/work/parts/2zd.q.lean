/-! chances: the class's loops -/
theorem q_pl (a b : Nat) : f_M_place (nI a) (nI b) = some (nI (13 * a + b)) := by
  unfold f_M_place
  rw [show (13 : Int32) = nI 13 from rfl, pk_mul, pu_add, Nat.mul_comm]
theorem L_bw {W : Nat → Nat} {one two s : Nat} {u : Nat → Nat → Int64} (h1 : one ≤ 3) (h2 : two ≤ 3) (hs : s ≤ 12) (ho : ∀ t, t < s → u 2 (13 * one + t) = lN (W (13 * one + t))) (ht : ∀ t, t < s → u 2 (13 * two + t) = lN (W (13 * two + t))) : ∀ k n j, j + k = s - 1 → k < n → f_M_bothWays_6 u (nI one) (nI two) (nI s) n (lN (sm (fun t => W (13 * one + (t + 1)) * W (13 * two + (s - (t + 1)))) j)) (nI (j + 1)) = some (lN (bw W one two s))
  | 0, n, j, hk, hn => by
    obtain ⟨n, rfl, _⟩ := q_fu hn
    obtain rfl : j = s - 1 := by omega
    rw [f_M_bothWays_6, if_pos (le_t (by omega) (by omega))]
    rfl
  | k + 1, n, j, hk, hn => by
    obtain ⟨n, rfl, _⟩ := q_fu hn
    have go := L_bw h1 h2 hs ho ht k n (j + 1) (by omega) (by omega)
    rw [sm] at go
    rw [f_M_bothWays_6, if_neg (le_f (by omega) (by omega)), q_pl, b1_k, pu_sub (by omega), q_pl, b1_k, mkAtL_ok (by omega) (by omega), mkAtL_ok (by omega) (by omega), ho (j + 1) (by omega), ht (s - (j + 1)) (by omega), lN_mul, lN_add, pu_one]
    exact go
theorem L_bothWays {W : Nat → Nat} {one two s : Nat} {u : Nat → Nat → Int64} (h1 : one ≤ 3) (h2 : two ≤ 3) (hs : s ≤ 12) (ho : ∀ t, t < s → u 2 (13 * one + t) = lN (W (13 * one + t))) (ht : ∀ t, t < s → u 2 (13 * two + t) = lN (W (13 * two + t))) : f_M_bothWays u (nI one) (nI two) (nI s) = some (lN (bw W one two s)) := L_bw h1 h2 hs ho ht (s - 1) 600 0 (by omega) (by omega)
theorem L_sw6 {W : Nat → Nat} {l m s : Nat} {u : Nat → Nat → Int64} (hl : l ≤ 1) (hm : m ≤ 3) (hs1 : 1 ≤ s) (hs : s ≤ 12) (hWy : ∀ k, k ≤ m → ∀ t, t < s → u 2 (13 * k + t) = lN (W (13 * k + t))) : ∀ j n k, k + j = m + 1 → j < n → f_M_splitWays_6 u (nI l) (nI m) (nI s) n (lN (sm (gSp W l m s) k)) (nI k) = some (lN (e_sw W l m s))
  | 0, n, k, hk, hn => by
    obtain ⟨n, rfl, _⟩ := q_fu hn
    obtain rfl : k = m + 1 := by omega
    rw [f_M_splitWays_6, if_pos (lt_t (by omega) (by omega)), show (3 : Int32) = nI 3 from rfl, pu_sub hm, show (2 : Int64) = lN 2 from rfl, L_powM 2 (by omega), b1_k, lN_mul]
    rfl
  | j + 1, n, k, hk, hn => by
    obtain ⟨n, rfl, _⟩ := q_fu hn
    have go := L_sw6 hl hm hs1 hs hWy j n (k + 1) (by omega) (by omega)
    rw [sm] at go
    have c := (q_ch m (by omega) k (by omega) (by omega)).2
    have e26 : ¬ (k = 0 ∧ l = 1) → f_M_splitWays_26 u (nI l) (nI m) (nI s) (f_M_splitWays_6 u (nI l) (nI m) (nI s) n) (lN (sm (gSp W l m s) k)) (nI k) = some (lN (e_sw W l m s)) := by
      intro z
      unfold f_M_splitWays_26 f_M_splitWays_27
      have eg : gSp W l m s k = ch m k * bw W k (m - k) (s - 1) := if_neg z
      rw [eg] at go
      rw [c, b1_k, if_pos rfl, pu_sub (show k ≤ m by omega), show nI s - 1 = nI (s - 1) from pu_sub (b := 1) hs1, L_bothWays (W := W) (by omega) (by omega) (by omega) (fun t ht => hWy k (by omega) t (by omega)) (fun t ht => hWy (m - k) (by omega) t (by omega)), b1_k, lN_mul, lN_add, pu_one]
      exact go
    rw [f_M_splitWays_6, if_neg (lt_f (by omega) (by omega))]
    by_cases z : k = 0
    · rw [if_pos (show nI k = 0 by rw [z]; rfl)]
      by_cases y : l = 1
      · rw [if_pos (show nI l = 1 by rw [y]; rfl)]
        unfold f_M_splitWays_27
        have eg : gSp W l m s k = ch m k * W (13 * m + (s - 1)) := if_pos ⟨z, y⟩
        rw [eg] at go
        rw [c, b1_k, if_neg one0, show nI s - 1 = nI (s - 1) from pu_sub (b := 1) hs1, q_pl, b1_k, mkAtL_ok (by omega) (by omega), hWy m (Nat.le_refl _) (s - 1) (by omega), lN_mul, lN_add, pu_one]
        exact go
      · rw [if_neg (show ¬ nI l = 1 from eq_f (b := 1) y (by omega) (by omega))]
        exact e26 (fun q => y q.2)
    · rw [if_neg (eq_f0 z (by omega))]
      exact e26 (fun q => z q.1)
theorem L_sw {W : Nat → Nat} {l m s : Nat} {u : Nat → Nat → Int64} (hl : l ≤ 1) (hm : m ≤ 3) (hs1 : 1 ≤ s) (hs : s ≤ 12) (hWy : ∀ k, k ≤ m → ∀ t, t < s → u 2 (13 * k + t) = lN (W (13 * k + t))) : f_M_splitWays u (nI l) (nI m) (nI s) = some (lN (e_sw W l m s)) := L_sw6 hl hm hs1 hs hWy (m + 1) 600 0 (by omega) (by omega)
/-- the ways, as far as reckoned -/
def hWy (W : Nat → Nat) (S i t : Nat) (u : Nat → Nat → Int64) : Prop := (∀ k, k < i → ∀ x, x ≤ S → u 2 (13 * k + x) = lN (W (13 * k + x))) ∧ (∀ x, x < t → i ≤ 3 → u 2 (13 * i + x) = lN (W (13 * i + x))) ∧ (∀ k, k ≤ 3 → u 2 (13 * k) = 0)
theorem L_r20 {W P Q : Nat → Nat} {l : Nat} (hH : mk_H l W P Q) (hl : l ≤ 1) {S i : Nat} (hi : i ≤ 3) (hS1 : 1 ≤ S) (hS : S ≤ 12) (p2 : Int32) (k11 : Int32 → (Nat → Nat → Int64) → Option ((Nat → Nat → Int64))) : ∀ j n t (u : Nat → Nat → Int64), t + j = S + 1 → 1 ≤ t → j < n → hWy W S i t u → ∃ w, f_M_reckonChance_20 (nI l) p2 (nI S) k11 n (nI i) (nI t) u = k11 (nI (i + 1)) w ∧ hWy W S i (S + 1) w
  | 0, n, t, u, hj, ht, hn, h => by
    obtain ⟨n, rfl, _⟩ := q_fu hn
    obtain rfl : t = S + 1 := by omega
    rw [f_M_reckonChance_20, if_pos (lt_t (by omega) (by omega)), pu_one]
    exact ⟨u, rfl, h⟩
  | j + 1, n, t, u, hj, ht, hn, h => by
    obtain ⟨n, rfl, _⟩ := q_fu hn
    have hH' := hH
    obtain ⟨h1, h2, h3, _⟩ := hH'
    have fin : ∀ v : Int64, v = lN (W (13 * i + t)) → ∃ w, f_M_reckonChance_72 (nI l) p2 (nI S) k11 (f_M_reckonChance_20 (nI l) p2 (nI S) k11 n) (nI i) (nI t) (nI (13 * i + t)) v u = k11 (nI (i + 1)) w ∧ hWy W S i (S + 1) w := by
      intro v hv
      subst hv
      unfold f_M_reckonChance_72
      rw [pu_one, mkPutL_ok (by omega) (by omega)]
      refine L_r20 hH hl hi hS1 hS p2 k11 j n (t + 1) _ (by omega) (by omega) (by omega) ⟨fun k hk x hx => ?_, fun x hx _ => ?_, fun k hk => ?_⟩
      · show vp_updL (u 2) (13 * i + t) _ (13 * k + x) = _
        rw [updL_n (by omega)]; exact h.1 k hk x hx
      · show vp_updL (u 2) (13 * i + t) _ (13 * i + x) = _
        by_cases y : x = t
        · subst y; rw [updL_s]
        · rw [updL_n (by omega)]; exact h.2.1 x (by omega) hi
      · show vp_updL (u 2) (13 * i + t) _ (13 * k) = _
        rw [updL_n (by omega)]; exact h.2.2 k hk
    have two : 2 ≤ i → ∀ t0, ∃ w, f_M_reckonChance_39 (nI l) p2 (nI S) k11 (f_M_reckonChance_20 (nI l) p2 (nI S) k11 n) (nI i) (nI t) t0 u = k11 (nI (i + 1)) w ∧ hWy W S i (S + 1) w := by
      intro z t0
      unfold f_M_reckonChance_39
      rw [q_pl, b1_k, if_pos (show (2 : Int32) ≤ nI i from le_t (a := 2) z (by omega)), L_sw (W := W) hl hi ht (by omega) (fun k hk x hx => by
        by_cases y : k = i
        · subst y; exact h.2.1 x hx hi
        · exact h.1 k (by omega) x (by omega)), b1_k]
      exact fin _ (by rw [h3 i (by omega) z t (by omega) ht])
    have one : i < 2 → ∀ t0, t0 = lN (if t = 1 then 8 else 0) → ∃ w, f_M_reckonChance_39 (nI l) p2 (nI S) k11 (f_M_reckonChance_20 (nI l) p2 (nI S) k11 n) (nI i) (nI t) t0 u = k11 (nI (i + 1)) w ∧ hWy W S i (S + 1) w := by
      intro z t0 e
      unfold f_M_reckonChance_39
      rw [q_pl, b1_k, if_neg (show ¬ (2 : Int32) ≤ nI i from le_f (a := 2) z (by omega))]
      exact fin _ (by rw [e, h2 i z t (by omega) ht])
    rw [f_M_reckonChance_20, if_neg (lt_f (by omega) (by omega))]
    by_cases y : t = 1
    · rw [if_pos (show nI t = 1 by rw [y]; rfl)]
      by_cases z : 2 ≤ i
      · exact two z 8
      · exact one (by omega) 8 (by rw [if_pos y]; rfl)
    · rw [if_neg (show ¬ nI t = 1 from eq_f (b := 1) y (by omega) (by omega))]
      by_cases z : 2 ≤ i
      · exact two z 0
      · exact one (by omega) 0 (by rw [if_neg y]; rfl)
theorem L_r11 {W P Q : Nat → Nat} {l : Nat} (hH : mk_H l W P Q) (hl : l ≤ 1) {S N : Nat} (hN : N ≤ 3) (hS1 : 1 ≤ S) (hS : S ≤ 12) : ∀ j n i (u : Nat → Nat → Int64), i + j = N + 1 → j < n → hWy W S i 1 u → ∃ w, f_M_reckonChance_11 (nI l) (nI N) (nI S) n (nI i) u = some w ∧ w 3 0 = lN (P (13 * N + S)) ∧ w 4 0 = lN (Q (13 * N + S))
  | 0, n, i, u, hj, hn, h => by
    obtain ⟨n, rfl, _⟩ := q_fu hn
    obtain rfl : i = N + 1 := by omega
    obtain ⟨_, _, _, h4, _⟩ := hH
    rw [f_M_reckonChance_11, if_pos (lt_t (by omega) (by omega)), q_pl, b1_k, show (8 : Int64) = lN 8 from rfl, L_powM 8 (by omega), b1_k, mkAtL_ok (by omega) (by omega), h.1 N (by omega) S (Nat.le_refl _), L_set (h4 N (by omega) S (by omega) hS1), b1_k]
    exact ⟨_, rfl, rfl, rfl⟩
  | j + 1, n, i, u, hj, hn, h => by
    obtain ⟨n, rfl, _⟩ := q_fu hn
    obtain ⟨w, g1, g2⟩ := L_r20 hH hl (i := i) (by omega) hS1 hS (nI N) (f_M_reckonChance_11 (nI l) (nI N) (nI S) n) S 600 1 u (by omega) (by omega) (by omega) h
    rw [f_M_reckonChance_11, if_neg (lt_f (by omega) (by omega)), show (1 : Int32) = nI 1 from rfl, g1]
    refine L_r11 hH hl hN hS1 hS j n (i + 1) w (by omega) (by omega) ⟨fun k hk x hx => ?_, fun x hx y => ?_, g2.2.2⟩
    · by_cases y : k = i
      · subst y; exact g2.2.1 x (by omega) (by omega)
      · exact g2.1 k (by omega) x hx
    · obtain rfl : x = 0 := by omega
      rw [Nat.add_zero, g2.2.2 (i + 1) y, hH.1 (i + 1) (by omega)]; rfl
theorem L_chM {W P Q : Nat → Nat} {l : Nat} (hH : mk_H l W P Q) (hl : l ≤ 1) {S N : Nat} (hN : N ≤ 3) (hS1 : 1 ≤ S) (hS : S ≤ 12) (u : Nat → Nat → Int64) : ∃ w, f_M_reckonChance u (nI l) (nI N) (nI S) = some w ∧ w 3 0 = lN (P (13 * N + S)) ∧ w 4 0 = lN (Q (13 * N + S)) := by
  refine L_r11 hH hl hN hS1 hS (N + 1) 600 0 _ (by omega) (by omega) ⟨fun k hk => by omega, fun x hx _ => ?_, fun k hk => ?_⟩
  · obtain rfl : x = 0 := by omega
    show mkFill 52 (u 2) 0 0 = _
    unfold mkFill
    rw [if_pos (by omega), hH.1 0 (by omega)]; rfl
  · show mkFill 52 (u 2) 0 (13 * k) = _
    unfold mkFill
    rw [if_pos (by omega)]
