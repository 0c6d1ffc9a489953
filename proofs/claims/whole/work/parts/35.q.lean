/-! pure: the sender's line -/
theorem L_184B {m : Nat} {Y : Nat → Nat → Int32} (hm : m < 10) (h : Y 12 0 = 1) : ∃ g, f_X_readsSender_184 (nI m) Y = some (upR 0 g Y) ∧ ∀ k, 57 ≤ k → g k = Y 0 k := by
  unfold f_X_readsSender_184
  rw [q_p17, gI_ok (by omega) (by omega), pu_cl (by omega), X_pB (x := upR 0 _ Y) h, b1_k, upR_R]
  exact ⟨_, rfl, hi_u (hi_u (fun _ _ => rfl) (by omega)) (by omega)⟩
theorem L_87B {Y : Nat → Nat → Int32} (h : Y 12 0 = 1) : f_X_readsSender_87 Y = some Y := by
  unfold f_X_readsSender_87
  rw [X_fB h, b1_k]
theorem upd_self {f : Nat → Int32} {k : Nat} {v : Int32} (h : f k = v) : upd f k v = f := by
  funext j
  by_cases q : j = k
  · subst q; rw [upd_s, h]
  · rw [upd_n q]
theorem J_b48 {T : Nat → Nat → Int32} {e m b : Nat} (he : e ≤ 500) (hm : m < 10) : ∀ k n n' j v (r X : Nat → Nat → Int32), j + k = e → k < n → k + 1 < n' → b ≤ j → (∀ i, j ≤ i → i < e → kd (T 0 i) = 2) → r 4 0 = nI e → X 8 0 = nI e → r 5 0 = nI v → X 0 (27 + m) = nI v → v < 2 ^ (j - b) → X 12 0 = 0 → (∀ i, i < e → X 4 i = T 0 i) → (∃ v' s Y, f_R_readBits_48 T n (nI j) r = some (1, s) ∧ s 5 0 = nI v' ∧ (∀ i, i ≠ 5 → s i = r i) ∧ f_X_readsSender_117 n' (nI m) (nI j) X = f_X_readsSender_184 (nI m) Y ∧ Y 0 = upd (X 0) (27 + m) (nI v') ∧ (∀ i, i ≠ 0 → Y i = X i) ∧ v' < 2 ^ (e - b)) ∨ (∃ s Y, f_R_readBits_48 T n (nI j) r = some (0, s) ∧ s 6 0 = 2 ∧ s 7 0 = r 3 0 ∧ f_X_readsSender_117 n' (nI m) (nI j) X = f_X_readsSender_184 (nI m) Y ∧ Y 12 0 = 1 ∧ Y 13 0 = 2 ∧ Y 14 0 = X 9 0 ∧ Sm X Y ∧ Hi X Y)
  | 0, n, n', j, v, r, X, hk, hn, hn', hb, hd, h4, h8, h5, h27, hv, h12, hT => by
    obtain ⟨n, rfl, _⟩ := q_fu hn
    obtain ⟨n', rfl, _⟩ := q_fu hn'
    left
    obtain rfl : j = e := by omega
    rw [f_R_readBits_48, f_X_readsSender_117, h4, h8, if_pos (le_t (Nat.le_refl _) (by omega)), if_pos (le_t (Nat.le_refl _) (by omega))]
    exact ⟨v, r, X, rfl, h5, fun _ _ => rfl, rfl, (upd_self h27).symm, fun _ _ => rfl, hv⟩
  | k + 1, n, n', j, v, r, X, hk, hn, hn', hb, hd, h4, h8, h5, h27, hv, h12, hT => by
    obtain ⟨n, rfl, _⟩ := q_fu hn
    obtain ⟨n', rfl, hn''⟩ := q_fu hn'
    obtain ⟨c, hc, e1, _⟩ := q_dig (hd j (Nat.le_refl _) (by omega))
    have e2 : T 0 j - 48 = nI c := by
      rw [e1, show nI (48 + c) - 48 = nI (48 + c - 48) from pu_sub (b := 48) (by omega)]
      congr 1; omega
    have ev : ((2 : Int32) * nI v + T 0 j) - 48 = nI (2 * v + c) := by
      rw [e1, show (2 : Int32) * nI v = nI (2 * v) from pk_mul 2 v, pu_add, show nI (2 * v + (48 + c)) - 48 = nI (2 * v + (48 + c) - 48) from pu_sub (b := 48) (by omega)]
      congr 1; omega
    rw [f_R_readBits_48, f_X_readsSender_117, h4, h8, if_neg (le_f (by omega) (by omega)), if_neg (le_f (by omega) (by omega)), if_pos h12, gI_ok (by omega) (by omega), pu_cl (by omega), hT j (by omega), mkAt_ok (by omega) (by omega), e2]
    by_cases z : c ≤ 1
    · rw [if_pos (show nI c ≤ 1 from le_t (b := 1) z (by omega)), if_pos (show T 0 j ≤ 49 from by rw [e1]; exact le_t (b := 49) (by omega) (by omega)), h5, show nI v * 2 = nI (v * 2) from pk_mul v 2, pu_add, pu_one]
      unfold f_X_readsSender_148
      rw [q_p27, gI_ok (by omega) (by omega), gI_ok (by omega) (by omega), pu_cl (by omega), pu_cl (by omega), h27, hT j (by omega), ev, pu_one]
      have hv' : 2 * v + c < 2 ^ (j + 1 - b) := by
        rw [show j + 1 - b = (j - b) + 1 by omega, Nat.pow_succ]
        omega
      rcases J_b48 (T := T) (b := b) he hm k n n' (j + 1) (2 * v + c) (upF 5 (nI (v * 2 + c)) r) (upR 0 (upd (X 0) (27 + m) (nI (2 * v + c))) X) (by omega) (by omega) (by omega) (by omega) (fun i a b => hd i (by omega) b) h4 h8 (by rw [upF_s, show v * 2 + c = 2 * v + c by omega]) (by rw [upR_s, upd_s]) hv' h12 hT with ⟨v', s, Y, g1, g2, g3, g4, g5, g6, g7⟩ | ⟨s, Y, g1, g2, g3, g4, g5, g6, g7, g8, g9⟩
      · left
        refine ⟨v', s, Y, g1, g2, fun i hi => by rw [g3 i hi, upF_n hi], g4, ?_, fun i hi => by rw [g6 i hi, upR_n hi], g7⟩
        rw [g5, upR_s, upd_u]
      · right
        refine ⟨s, Y, g1, g2, ?_, g4, g5, g6, ?_, fun i a b => by rw [g8 i a b, upR_n (by omega)], Hi_t (show Hi X (upR 0 (upd (X 0) (27 + m) (nI (2 * v + c))) X) from hi_u (fun _ _ => rfl) (by omega)) g9⟩
        · rw [g3]; rfl
        · rw [g7]; rfl
    · right
      rw [if_neg (show ¬ nI c ≤ 1 from le_f (b := 1) (by omega) (by omega)), if_neg (show ¬ T 0 j ≤ 49 from by rw [e1]; exact le_f (b := 49) (by omega) (by omega)), X_fG h12, b1_k]
      unfold f_X_readsSender_148 f_R_refuse
      rw [b2_k, gZ0, q_p27, gI_ok (by omega) (by omega), gI_ok (by omega) (by omega), pu_cl (by omega), pu_cl (by omega), pu_one]
      obtain ⟨n', rfl, _⟩ := q_fu (show 0 < n' by omega)
      rw [f_X_readsSender_117]
      refine ⟨_, upR 0 (upd (bdX 2 X 0) (27 + m) (((2 * (bdX 2 X 0) (27 + m)) + ((bdX 2 X 4) j)) - 48)) (bdX 2 X), rfl, rfl, rfl, ?_, rfl, rfl, rfl, Sm_t (Sm_b X 2) (Sm_0 _ _), Hi_t (Hi_b X 2) (hi_u (fun _ _ => rfl) (by omega))⟩
      have a12 : ∀ g, ¬ (upR 0 g (bdX 2 X)) 12 0 = 0 := fun g => one0
      split
      · rfl
      · rw [if_neg (a12 _)]
theorem J_bits {T r z : Nat → Nat → Int32} {tl q m : Nat} (ht : tl ≤ 500) (h1 : T 1 0 = nI tl) (hm : m < 10) (h : Rd (T 0) tl q r z) (z27 : z 0 (27 + m) = nI 0) (z4 : z 0 4 = nI m) : (∃ s b n w, f_R_readBits r T = some (1, s) ∧ s 5 0 = nI b ∧ (s 4 0) - (s 3 0) = nI n ∧ 1 ≤ n ∧ n ≤ 12 ∧ b < 2 ^ n ∧ (if (z 12 0) = 0 then if (z 10 0) = 2 then if ((z 8 0) - (z 9 0)) ≤ 12 then (f_X_readsSender_117 600 (nI m) (z 9 0) z) else b1 (f_X_faults z 2) (fun uX_19 => (f_X_readsSender_117 600 (nI m) (uX_19 9 0) uX_19)) else (f_X_readsSender_87 z) else (f_X_readsSender_87 z)) = some w ∧ w 0 = upd (upd (upd (z 0) (27 + m) (nI b)) (17 + m) (nI n)) 4 (nI (m + 1)) ∧ Rd (T 0) tl (nx (T 0) tl q) s w ∧ Sm z w) ∨ (∃ s w, f_R_readBits r T = some (0, s) ∧ (if (z 12 0) = 0 then if (z 10 0) = 2 then if ((z 8 0) - (z 9 0)) ≤ 12 then (f_X_readsSender_117 600 (nI m) (z 9 0) z) else b1 (f_X_faults z 2) (fun uX_19 => (f_X_readsSender_117 600 (nI m) (uX_19 9 0) uX_19)) else (f_X_readsSender_87 z) else (f_X_readsSender_87 z)) = some w ∧ Bd s w ∧ Sm z w ∧ Hi z w) := by
  obtain ⟨hq, h4, ⟨x10, x9, x8, x11⟩, hT, h12, hF⟩ := h
  obtain ⟨v, g1, ⟨g2, g3, g4⟩, g5⟩ := L_step ht h1 hq h4
  have hb := tB_le (B := T 0) hq
  have he := tEb_le (B := T 0) hb.2
  have hK := tKb_le (T 0) tl (tB (T 0) tl q)
  have hn := (nx_le (B := T 0) hq).2
  have eN : nx (T 0) tl q = tEb (T 0) tl (tB (T 0) tl q) := rfl
  rw [if_pos h12, x10, x9, x8]
  unfold f_R_readBits
  rw [g1, b1_k, g2, g3, g4]
  have hd := fun z => tE_dig (B := T 0) (tl := tl) (b := tB (T 0) tl q) z
  generalize tB (T 0) tl q = b at *
  generalize eE : tEb (T 0) tl b = e at *
  by_cases y : tKb (T 0) tl b = 2
  · have hbe := he.2.2 (by omega)
    rw [if_pos (show nI (tKb (T 0) tl b) = 2 by rw [y]; rfl), if_pos (show nI (tKb (T 0) tl b) = 2 by rw [y]; rfl), pu_sub he.1]
    by_cases l : e - b ≤ 12
    · rw [if_pos (show nI (e - b) ≤ 12 from le_t (b := 12) l (by omega)), if_pos (show nI (e - b) ≤ 12 from le_t (b := 12) l (by omega))]
      rcases J_b48 (T := T) (e := e) (m := m) (b := b) (by omega) hm (e - b) 600 600 b 0 (upF 5 0 v) z (by omega) (by omega) (by omega) (Nat.le_refl _) (hd y) g4 x8 rfl z27 (by rw [Nat.sub_self]; omega) h12 (fun i hi => hT.2 i (by omega)) with ⟨v', s, Y, k1, k2, k3, k4, k5, k6, k7⟩ | ⟨s, Y, k1, k2, k3, k4, k5, k6, k7, k8, k9⟩
      · left
        have Y12 : Y 12 0 = 0 := by rw [k6 12 (by decide)]; exact h12
        have YT : TP (T 0) tl Y := TP_of hT (k6 4 (by decide)) (k6 5 (by decide))
        have Y8 : Y 8 0 = nI e := by rw [k6 8 (by decide)]; exact x8
        have Y9 : Y 9 0 = nI b := by rw [k6 9 (by decide)]; exact x9
        obtain ⟨w, w1, w2, w3⟩ := X_pT (x := upR 0 (upd (Y 0) (17 + m) (nI (e - b))) Y) ht (show e ≤ tl by omega) (TP_of YT rfl rfl) Y12 Y8
        refine ⟨s, v', e - b, upR 0 (upd (w 0) 4 (nI (m + 1))) w, k1, k2, ?_, by omega, l, k7, ?_, ?_, ⟨by omega, ?_, ?_, ?_, ?_, ?_⟩, ?_⟩
        · rw [k3 4 (by decide), k3 3 (by decide), upF_n (by decide), upF_n (by decide), g3, g4, pu_sub he.1]
        · rw [k4]
          unfold f_X_readsSender_184
          rw [q_p17, gI_ok (by omega) (by omega), pu_cl (by omega), Y8, Y9, pu_sub he.1, w1, b1_k, w3 0 (by decide) (by decide) (by decide) (by decide), upR_s, upd_n (by omega), k5, upd_n (by omega), z4, pu_one]
        · rw [upR_s, w3 0 (by decide) (by decide) (by decide) (by decide), upR_s, k5]
        · rw [k3 4 (by decide), upF_n (by decide), g4, eN]
        · rw [eN]; exact w2
        · have YT' : TP (T 0) tl (upR 0 (upd (Y 0) (17 + m) (nI (e - b))) Y) := TP_of YT rfl rfl
          have wT : TP (T 0) tl w := TP_n YT' (Sm_n w3)
          exact TP_of wT rfl rfl
        · show w 12 0 = 0
          rw [w3 12 (by decide) (by decide) (by decide) (by decide)]; exact Y12
        · have hF1 : FR s (upR 0 (upd (Y 0) (17 + m) (nI (e - b))) Y) := by
            unfold FR
            rw [k3 6 (by decide), k3 7 (by decide), upF_n (by decide), upF_n (by decide), g5 6 (by decide) (by decide) (by decide), g5 7 (by decide) (by decide) (by decide), upR_n (by decide), upR_n (by decide), k6 13 (by decide), k6 14 (by decide)]
            exact hF
          have hF2 : FR s w := FR_n hF1 rfl rfl w3
          exact hF2
        · exact Sm_t (fun i a _ => k6 i (by omega)) (Sm_t (Sm_t (Sm_0 _ _) (Sm_n w3)) (Sm_0 _ _))
      · right
        obtain ⟨g, e1, eg⟩ := L_184B hm k5
        refine ⟨s, upR 0 g Y, k1, by rw [k4, e1], ⟨k5, ?_, ?_⟩, Sm_t k8 (Sm_0 _ _), Hi_t k9 eg⟩
        · rw [k2]; exact k6
        · rw [k3]
          show Y 14 0 = v 3 0
          rw [k7, x9, g3]
    · right
      unfold f_R_refuse
      rw [if_neg (show ¬ nI (e - b) ≤ 12 from le_f (b := 12) (by omega) (by omega)), if_neg (show ¬ nI (e - b) ≤ 12 from le_f (b := 12) (by omega) (by omega)), X_fG h12, b1_k, b2_k, gZ0]
      have e9 : bdX 2 z 9 0 = nI b := x9
      have e8 : bdX 2 z 8 0 = nI e := x8
      obtain ⟨g, e1, eg⟩ := L_184B (Y := bdX 2 z) hm rfl
      refine ⟨_, upR 0 g (bdX 2 z), rfl, ?_, ⟨rfl, rfl, ?_⟩, Sm_t (Sm_b _ _) (Sm_0 _ _), Hi_t (Hi_b _ _) eg⟩
      · rw [f_X_readsSender_117, e9, e8, if_neg (le_f (by omega) (by omega)), if_neg (show ¬ bdX 2 z 12 0 = 0 from one0), e1]
      · show z 9 0 = v 3 0
        rw [x9, g3]
  · right
    unfold f_R_refuse f_X_readsSender_87
    rw [if_neg (show ¬ nI (tKb (T 0) tl b) = 2 from eq_f (b := 2) y (by omega) (by omega)), if_neg (show ¬ nI (tKb (T 0) tl b) = 2 from eq_f (b := 2) y (by omega) (by omega)), X_fG h12, b1_k, b2_k, gZ0]
    exact ⟨_, _, rfl, rfl, Bd_of rfl g3 x9, Sm_b _ _, Hi_b _ _⟩
/-- a token that both see -/
def At (B : Nat → Int32) (tl p : Nat) (r x : Nat → Nat → Int32) : Prop := p ≤ tl ∧ TR B tl p r ∧ TX B tl p x ∧ TP B tl x ∧ x 12 0 = 0 ∧ FR r x
theorem At_next {T r x : Nat → Nat → Int32} {tl p : Nat} (ht : tl ≤ 500) (h : At (T 0) tl p r x) : ∃ y, f_X_next x = some y ∧ Rd (T 0) tl (nx (T 0) tl p) r y ∧ y 0 = x 0 ∧ Sm x y := by
  obtain ⟨hp, hR, hX, hT, h12, hF⟩ := h
  have hn := (nx_le (B := T 0) hp).2
  obtain ⟨y, y1, y2, y3⟩ := L_next ht hn hT hX.2.2.1
  refine ⟨y, y1, ⟨hn, hR.2.2, y2, TP_n hT (Sm_n y3), ?_, FR_n hF rfl rfl y3⟩, y3 0 (by decide) (by decide) (by decide) (by decide), Sm_n y3⟩
  rw [y3 12 (by decide) (by decide) (by decide) (by decide)]; exact h12
theorem ud_c {f : Nat → Nat} {k k' v v' : Nat} (h : k ≠ k') : ud (ud f k v) k' v' = ud (ud f k' v') k v := by
  funext j
  by_cases q : j = k
  · subst q; rw [ud_n h, ud_s, ud_s]
  · rw [ud_n (f := ud f k' v') q]
    by_cases q' : j = k'
    · subst q'; rw [ud_s, ud_s]
    · rw [ud_n q', ud_n q, ud_n q']
theorem J_send {T r x D : Nat → Nat → Int32} {tl p : Nat} {d : Nat → Nat} (ht : tl ≤ 500) (h1 : T 1 0 = nI tl) (h : At (T 0) tl p r x) (hK : tKb (T 0) tl (tB (T 0) tl p) ≠ 0) (hB : mk_BD d) (hM : mk_MP (x 0) d) (hC : mk_CP D d) (hZ : d 4 < 10 → d (27 + d 4) = 0) : (∃ t n b, t < 200 ∧ 1 ≤ n ∧ n ≤ 12 ∧ b < 2 ^ n ∧ d 4 < 10 ∧ Lok T tl p x (f_R_readSender r T D) (f_X_readsSender x) (dS d t n b)) ∨ Lno x (f_R_readSender r T D) (f_X_readsSender x) := by
  have hd4 : d 4 ≤ 10 := hB.2.2.2.2.1
  have h' := h
  obtain ⟨hp, hR, hX, hT, h12, hF⟩ := h'
  unfold f_R_readSender f_X_readsSender
  rw [hC.2.2.2.2.2.1, hM 4]
  by_cases z : d 4 = 10
  · right
    unfold f_R_refuse
    rw [z, if_neg (show ¬ nI 10 < 10 by decide), if_pos (show nI 10 = 10 from rfl), X_fG h12, b1_k, b2_k, gZ0]
    exact ⟨_, D, _, rfl, rfl, Bd_of rfl hR.2.1 hX.2.1, Sm_b _ _, Hi_b _ _⟩
  obtain ⟨y, y1, y2, y3, y4⟩ := At_next ht h
  have hlt := nx_lt hp hK
  rw [if_pos (show nI (d 4) < 10 from lt_t (b := 10) (by omega) (by omega)), if_neg (show ¬ nI (d 4) = 10 from eq_f (b := 10) z (by omega) (by omega)), y1, b1_k, y3, hM 4]
  have jn := J_named (w := 6) (lo := 0) (hi := 199) ht h1 (by omega) (by omega) (by omega) y2
  rw [show nI 0 = 0 from rfl, show nI 199 = 199 from rfl] at jn
  rcases jn with ⟨t, r1, r2, y5, q2, _, v2, a1, a2, a3, a4, a5, a6, a7, a8⟩ | ⟨r1, v, y5, a1, a4, a5, a6, a7⟩
  rotate_left
  · right
    have e69 : ∀ g, f_X_readsSender_64 (nI (d 4)) (upR 0 g y5) = some (upR 0 g y5) := by
      intro g
      unfold f_X_readsSender_64 f_X_readsSender_69
      rw [X_pB (x := upR 0 g y5) a5.1, b1_k, if_neg (show ¬ (upR 0 g y5) 12 0 = 0 from by rw [upR_n (by decide), a5.1]; exact one0), L_87B (Y := upR 0 g y5) a5.1]
    refine ⟨r1, D, upR 0 (upd (y5 0) (7 + d 4) v) y5, ?_, by rw [a4, b2_k, q_p7, gI_ok (by omega) (by omega), pu_cl (by omega), if_neg (show ¬ y5 12 0 = 0 from by rw [a5.1]; exact one0), e69], a5, Sm_t y4 (Sm_t a7 (Sm_0 _ _)), Hi_t (Hi_e y3) (Hi_t (Hi_e a6) (hi_u (fun _ _ => rfl) (by omega)))⟩
    rcases a1 with a1 | ⟨r0, a0, a1⟩
    · rw [a1, b2_k, if_pos rfl]
    · rw [a0, b2_k, if_neg one0, a1, b2_k, if_pos rfl]
  rw [a1, b2_k, if_neg one0, a2, b2_k, if_neg one0, a4, b2_k, q_p7, gI_ok (by omega) (by omega), pu_cl (by omega), if_pos (show y5 12 0 = 0 from a5.2.2.2.2.1), a3]
  have R1 : Rd (T 0) tl q2 r2 (upR 0 (upd (y5 0) (7 + d 4) (nI t)) y5) := a5
  have S1 : Sm x (upR 0 (upd (y5 0) (7 + d 4) (nI t)) y5) := Sm_t y4 (Sm_t a7 (Sm_0 _ _))
  have M1 : mk_MP ((upR 0 (upd (y5 0) (7 + d 4) (nI t)) y5) 0) (ud d (7 + d 4) t) := by rw [upR_s, a6, y3]; exact mk_MP_u hM _ _
  generalize upR 0 (upd (y5 0) (7 + d 4) (nI t)) y5 = x1 at *
  clear a1 a2 a3 a4 a5 a6 a7
  have R1' := R1
  obtain ⟨hq2, u4, uX, uT, u12, uF⟩ := R1'
  obtain ⟨cT, cF⟩ := L_readWord (w := 7) ht h1 hq2 u4 (by omega)
  have n2 := (nx_le (B := T 0) hq2).2
  rw [L_wX ht hq2 (by omega) uT uX, b1_k]
  unfold f_X_readsSender_64 f_X_readsSender_69
  cases hi' : isW (T 0) tl q2 7
  · right
    obtain ⟨u, w1, w2, w3⟩ := cF hi'
    rw [w1, b2_k, if_pos rfl, if_pos (show (if false = true then (1 : Int32) else 0) = 0 from rfl), X_pF u12, b1_k, if_neg (show ¬ bdX 1 x1 12 0 = 0 from one0), L_87B rfl]
    exact ⟨u, D, _, rfl, rfl, Bd_of w2 w3 uX.2.1, Sm_t S1 (Sm_b _ _), Hi_t (Hi_M hM M1 (fun k hk => ud_n (by omega))) (Hi_b _ _)⟩
  · obtain ⟨u, w1, w2, w3, w4⟩ := cT hi'
    obtain ⟨m, m1, m2, m3⟩ := X_pT ht n2 uT u12 uX.2.2.1
    have M2 : mk_MP (m 0) (ud d (7 + d 4) t) := by rw [m3 0 (by decide) (by decide) (by decide) (by decide)]; exact M1
    have R2 : Rd (T 0) tl (nx (T 0) tl q2) u m := ⟨n2, w2, m2, TP_n uT (Sm_n m3), by rw [m3 12 (by decide) (by decide) (by decide) (by decide)]; exact u12, FR_n uF w3 w4 m3⟩
    have m27 : m 0 (27 + d 4) = nI 0 := by rw [M2, ud_n (by omega), hZ (by omega)]
    have m4 : m 0 4 = nI (d 4) := by rw [M2, ud_n (by omega)]
    rw [w1, b2_k, if_neg one0, if_neg (show ¬ (if true = true then (1 : Int32) else 0) = 0 from one0), m1, b1_k]
    have n3 := (nx_le (B := T 0) n2)
    have n4 := (nx_le (B := T 0) hq2)
    rcases J_bits ht h1 (show d 4 < 10 by omega) R2 m27 m4 with ⟨s, b, n, w, k1, k2, k3, k4, k5, k6, k7, k8, k9, k10⟩ | ⟨s, w, k1, k2, k3, k4, k5⟩
    · left
      obtain ⟨D2, f1, f2⟩ := q_addSender hB hC (by omega) t n b
      refine ⟨t, n, b, by omega, k4, k5, k6, by omega, s, D2, w, _, ?_, k7, k9, ?_, f2, Sm_t S1 (Sm_t (Sm_n m3) k10), by omega⟩
      · rw [k1, b2_k, if_neg one0, k2, k3, f1, b1_k]
      · have e : dS d t n b = ud (ud (ud (ud d (7 + d 4) t) (27 + d 4) b) (17 + d 4) n) 4 (d 4 + 1) := by
          unfold dS
          rw [ud_c (show 17 + d 4 ≠ 27 + d 4 by omega)]
        rw [e, k8]
        exact mk_MP_u (mk_MP_u (mk_MP_u M2 _ _) _ _) _ _
    · right
      refine ⟨s, D, w, by rw [k1, b2_k, if_pos rfl], k2, k3, Sm_t S1 (Sm_t (Sm_n m3) k4), Hi_t (Hi_M hM M2 (fun k hk => ud_n (by omega))) k5⟩
