/-! pure: channel -/
theorem L_c2 {o : Nat → Int32} : ∀ j n i (x : Nat → Nat → Int32), i + j = 57 → j < n → (∀ k, k < i → x 0 k = 0 ∧ x 1 k = o k) → (∀ k, i ≤ k → x 0 k = o k) → ∃ w, f_X_channel_2 n (nI i) x = b1 (f_X_next (upF 14 (-1) (upF 13 0 (upF 12 0 (upF 8 0 w))))) (fun uX_26 => (f_X_channel_57 600 uX_26)) ∧ (∀ k, k < 57 → w 0 k = 0 ∧ w 1 k = o k) ∧ (∀ k, 57 ≤ k → w 0 k = o k) ∧ (∀ k, k ≠ 0 → k ≠ 1 → w k = x k)
  | 0, n, i, x, hj, hn, h1, h2 => by
    obtain ⟨n, rfl, _⟩ := q_fu hn
    obtain rfl : i = 57 := by omega
    rw [f_X_channel_2, if_pos (by decide)]
    exact ⟨x, rfl, h1, h2, fun _ _ _ => rfl⟩
  | j + 1, n, i, x, hj, hn, h1, h2 => by
    obtain ⟨n, rfl, _⟩ := q_fu hn
    rw [f_X_channel_2, if_neg (show ¬ (57 : Int32) ≤ nI i from le_f (a := 57) (by omega) (by omega)), gI_ok (by omega) (by omega), pu_cl (by omega), pu_one]
    obtain ⟨w, g1, g2, g3, g4⟩ := L_c2 (o := o) j n (i + 1) (upR 0 (upd (x 0) i 0) (upR 1 (upd (x 1) i (x 0 i)) x)) (by omega) (by omega) (by
      intro k hk
      show upd (x 0) i 0 k = 0 ∧ upd (x 1) i (x 0 i) k = o k
      by_cases q : k = i
      · subst q; rw [upd_s, upd_s]; exact ⟨rfl, h2 k (Nat.le_refl _)⟩
      · rw [upd_n q, upd_n q]; exact h1 k (by omega)) (by
      intro k hk
      show upd (x 0) i 0 k = o k
      rw [upd_n (by omega)]; exact h2 k (by omega))
    exact ⟨w, g1, g2, g3, fun k a b => by rw [g4 k a b, upR_n a, upR_n b]⟩
theorem L_c193 : ∀ j n i (x : Nat → Nat → Int32), i + j = 57 → j < n → (∀ k, k < i → x 0 k = x 1 k) → ∃ w, f_X_channel_193 n (nI i) x = some (-4, w) ∧ (∀ k, k < 57 → w 0 k = x 1 k) ∧ (∀ k, 57 ≤ k → w 0 k = x 0 k) ∧ (∀ k, k ≠ 0 → w k = x k)
  | 0, n, i, x, hj, hn, h => by
    obtain ⟨n, rfl, _⟩ := q_fu hn
    obtain rfl : i = 57 := by omega
    rw [f_X_channel_193, if_pos (by decide)]
    exact ⟨x, rfl, h, fun _ _ => rfl, fun _ _ => rfl⟩
  | j + 1, n, i, x, hj, hn, h => by
    obtain ⟨n, rfl, _⟩ := q_fu hn
    rw [f_X_channel_193, if_neg (show ¬ (57 : Int32) ≤ nI i from le_f (a := 57) (by omega) (by omega)), gI_ok (by omega) (by omega), pu_cl (by omega), pu_one]
    obtain ⟨w, g1, g2, g3, g4⟩ := L_c193 j n (i + 1) (upR 0 (upd (x 0) i (x 1 i)) x) (by omega) (by omega) (by
      intro k hk
      show upd (x 0) i (x 1 i) k = x 1 k
      by_cases q : k = i
      · subst q; rw [upd_s]
      · rw [upd_n q]; exact h k (by omega))
    refine ⟨w, g1, g2, fun k hk => ?_, fun k a => by rw [g4 k a, upR_n a]⟩
    rw [g3 k hk]
    show upd (x 0) i (x 1 i) k = _
    rw [upd_n (by omega)]
theorem L_b50 {d : Nat → Nat} {D : Nat → Nat → Int32} (hB : mk_BD d) (hC : mk_CP D d) : ∀ k n i (u : Nat → Nat → Int32), i + k = d 5 → k < n → u 5 0 = nI (d 4) → u 6 0 = nI i → (∀ j, j < d 4 → u 7 j = nI (d (7 + j)) ∧ u 8 j = nI (d (17 + j)) ∧ u 9 j = nI (d (27 + j))) → (∀ j, j < i → u 10 j = nI (d (37 + j)) ∧ u 11 j = nI (d (47 + j))) → ∃ w, f_P_become_50 D n (nI i) u = some w ∧ mk_CP w d
  | 0, n, i, u, hk, hn, h5, h6, h7, h10 => by
    have hd5 : d 5 ≤ 10 := hB.2.2.2.2.2.1
    obtain ⟨n, rfl, _⟩ := q_fu hn
    obtain rfl : i = d 5 := by omega
    obtain ⟨c0, c1, c2, c3, c4, c5, c6, c7, c8⟩ := hC
    rw [f_P_become_50, c6, if_pos (le_t (Nat.le_refl _) (by omega)), c0, c1, c2, c3, c4]
    exact ⟨_, rfl, rfl, rfl, rfl, rfl, rfl, h5, h6, h7, h10⟩
  | k + 1, n, i, u, hk, hn, h5, h6, h7, h10 => by
    have hd5 : d 5 ≤ 10 := hB.2.2.2.2.2.1
    obtain ⟨n, rfl, _⟩ := q_fu hn
    have hC' := hC
    obtain ⟨c0, c1, c2, c3, c4, c5, c6, c7, c8⟩ := hC'
    unfold f_P_become_50 f_P_addNoise
    rw [c6, if_neg (le_f (by omega) (by omega)), mkAt_ok (by omega) (by omega), mkAt_ok (by omega) (by omega), h6, mkPut_ok (by omega) (by omega), mkPut_ok (by omega) (by omega), (c8 i (by omega)).1, (c8 i (by omega)).2, b1_k, pu_one]
    refine L_b50 hB hC k n (i + 1) _ (by omega) (by omega) h5 rfl h7 (fun j hj => ?_)
    show upd (u 10) i _ j = _ ∧ upd (u 11) i _ j = _
    by_cases q : j = i
    · subst q; rw [upd_s, upd_s]; exact ⟨rfl, rfl⟩
    · rw [upd_n q, upd_n q]; exact h10 j (by omega)
theorem L_b6 {d : Nat → Nat} {D : Nat → Nat → Int32} (hB : mk_BD d) (hC : mk_CP D d) : ∀ k n i (u : Nat → Nat → Int32), i + k = d 4 → k < n → u 5 0 = nI i → u 6 0 = nI 0 → (∀ j, j < i → u 7 j = nI (d (7 + j)) ∧ u 8 j = nI (d (17 + j)) ∧ u 9 j = nI (d (27 + j))) → ∃ w, f_P_become_6 D n (nI i) u = some w ∧ mk_CP w d
  | 0, n, i, u, hk, hn, h5, h6, h7 => by
    have hd4 : d 4 ≤ 10 := hB.2.2.2.2.1
    have hd5 : d 5 ≤ 10 := hB.2.2.2.2.2.1
    obtain ⟨n, rfl, _⟩ := q_fu hn
    obtain rfl : i = d 4 := by omega
    rw [f_P_become_6, hC.2.2.2.2.2.1, if_pos (le_t (Nat.le_refl _) (by omega))]
    exact L_b50 hB hC (d 5) 600 0 u (by omega) (by omega) h5 h6 h7 (fun j hj => by omega)
  | k + 1, n, i, u, hk, hn, h5, h6, h7 => by
    have hd4 : d 4 ≤ 10 := hB.2.2.2.2.1
    obtain ⟨n, rfl, _⟩ := q_fu hn
    have hC' := hC
    obtain ⟨c0, c1, c2, c3, c4, c5, c6, c7, c8⟩ := hC'
    unfold f_P_become_6 f_P_addSender
    rw [c5, if_neg (le_f (by omega) (by omega)), mkAt_ok (by omega) (by omega), mkAt_ok (by omega) (by omega), mkAt_ok (by omega) (by omega), h5, mkPut_ok (by omega) (by omega), mkPut_ok (by omega) (by omega), mkPut_ok (by omega) (by omega), (c7 i (by omega)).1, (c7 i (by omega)).2.1, (c7 i (by omega)).2.2, b1_k, pu_one]
    refine L_b6 hB hC k n (i + 1) _ (by omega) (by omega) rfl h6 (fun j hj => ?_)
    show upd (u 7) i _ j = _ ∧ upd (u 8) i _ j = _ ∧ upd (u 9) i _ j = _
    by_cases q : j = i
    · subst q; rw [upd_s, upd_s, upd_s]; exact ⟨rfl, rfl, rfl⟩
    · rw [upd_n q, upd_n q, upd_n q]; exact h7 j (by omega)
theorem L_become {d : Nat → Nat} {u D : Nat → Nat → Int32} (hB : mk_BD d) (hC : mk_CP D d) : ∃ w, f_P_become u D = some w ∧ mk_CP w d := by
  have hd4 : d 4 ≤ 10 := hB.2.2.2.2.1
  unfold f_P_become f_P_clear
  rw [b1_k]
  exact L_b6 hB hC (d 4) 600 0 _ (by omega) (by omega) rfl rfl (fun j hj => by omega)
def d0 (d : Nat → Nat) : Nat → Nat := fun k => if k < 57 then 0 else d k
theorem d0_z {d : Nat → Nat} {k : Nat} (h : k < 57) : d0 d k = 0 := if_pos h
theorem s_channel {uR uT uD uY uP uS uC uO uA uX : Nat → Nat → Int32} (uQ : Nat) (h : mk_Inv uR uT uD uY uP uS uC uO uA uX) : ∃ (r : Int32) (wQ : Nat) (wR : Nat → Nat → Int32) (wT : Nat → Nat → Int32) (wD : Nat → Nat → Int32) (wY : Nat → Nat → Int32) (wP : Nat → Nat → Int32) (wS : Nat → Nat → Int32) (wC : Nat → Nat → Int32) (wA : Nat → Nat → Int32) (wX : Nat → Nat → Int32), f_Z_channel uQ uR uT uD uY uP uS uC uA = some (r, wQ, wR, wT, wD, wY, wP, wS, wC, wA) ∧ f_X_channel uX = some (r, wX) ∧ mk_Inv wR wT wD wY wP wS wC uO wA wX := by
  obtain ⟨d, tl, a, E, h1, h2, h3, ⟨t0, t1, t2, t3⟩, h5, h6, h7, h8⟩ := h
  obtain ⟨w, w1, w2, w3, w4⟩ := L_c2 (o := uX 0) 57 600 0 uX (by omega) (by omega) (fun k hk => by omega) (fun k _ => rfl)
  have w1' : f_X_channel uX = b1 (f_X_next (upF 14 (-1) (upF 13 0 (upF 12 0 (upF 8 0 w))))) (fun uX_26 => (f_X_channel_57 600 uX_26)) := w1
  have wT : TP (uT 0) tl (upF 14 (-1) (upF 13 0 (upF 12 0 (upF 8 0 w)))) := by
    refine ⟨?_, fun j hj => ?_⟩
    · show w 5 0 = nI tl
      rw [w4 5 (by decide) (by decide)]; exact t2
    · show w 4 j = uT 0 j
      rw [w4 4 (by decide) (by decide)]; exact (t3 j hj).symm
  obtain ⟨x, x1, x2, x3⟩ := L_next (p := 0) t0 (Nat.zero_le _) wT rfl
  have x0 : x 0 = w 0 := x3 0 (by decide) (by decide) (by decide) (by decide)
  have xS : Sm (upF 14 (-1) (upF 13 0 (upF 12 0 (upF 8 0 w)))) x := Sm_n x3
  have xk : ∀ k, 1 ≤ k → k ≤ 5 → x k = w k := fun k b c => by rw [xS k b c, upF_n (by omega), upF_n (by omega), upF_n (by omega), upF_n (by omega)]
  have hB0 : mk_BD (d0 d) := by
    refine ⟨by rw [d0_z (by omega)]; omega, by rw [d0_z (by omega)]; omega, by rw [d0_z (by omega)]; omega, by rw [d0_z (by omega)]; omega, by rw [d0_z (by omega)]; omega, by rw [d0_z (by omega)]; omega, by rw [d0_z (by omega)]; omega, by rw [d0_z (by omega), d0_z (by omega)], fun i hi => ?_, fun i hi => ?_⟩
    · rw [d0_z (by omega)] at hi; omega
    · rw [d0_z (by omega)] at hi; omega
  have hZ0 : Zd (d0 d) := ⟨fun k _ hk => d0_z (by omega), fun _ => ⟨d0_z (by omega), d0_z (by omega)⟩⟩
  have hM0 : mk_MP (x 0) (d0 d) := by
    intro j
    rw [x0]
    by_cases q : j < 57
    · rw [(w2 j q).1, d0_z q]; rfl
    · rw [w3 j (by omega), h3 j]
      unfold d0
      rw [if_neg q]
  have hC0 : mk_CP (upF 6 0 (upF 5 0 (upF 4 0 (upF 3 0 (upF 2 0 (upF 1 0 (upF 0 0 uD))))))) (d0 d) := by
    refine ⟨by rw [d0_z (by omega)]; rfl, by rw [d0_z (by omega)]; rfl, by rw [d0_z (by omega)]; rfl, by rw [d0_z (by omega)]; rfl, by rw [d0_z (by omega)]; rfl, by rw [d0_z (by omega)]; rfl, by rw [d0_z (by omega)]; rfl, fun i hi => ?_, fun i hi => ?_⟩
    · rw [d0_z (by omega)] at hi; omega
    · rw [d0_z (by omega)] at hi; omega
  have hR0 : Rd (uT 0) tl 0 (upF 4 0 (upF 7 (-1) (upF 6 0 uR))) x := by
    refine ⟨Nat.zero_le _, rfl, x2, TP_n wT xS, ?_, ?_, ?_⟩
    · rw [x3 12 (by decide) (by decide) (by decide) (by decide)]; rfl
    · rw [x3 13 (by decide) (by decide) (by decide) (by decide)]; rfl
    · rw [x3 14 (by decide) (by decide) (by decide) (by decide)]; rfl
  have hL := J_loop t0 t1 tl 600 600 0 0 _ x _ (d0 d) (by omega) (by omega) (by omega) (Nat.le_refl _) (by rw [d0_z (by omega)]; omega) hR0 hB0 hZ0 hM0 hC0
  unfold f_Z_channel f_R_read f_P_clear
  rw [w1', x1, b1_k, b1_k]
  have e5 : (eX · 5 0) = fun _ => (0 : Int32) := rfl
  rcases hL with ⟨r', D', d', y, g1, g2, g3, g4, g5, g6, g7, g8⟩ | ⟨r', D', y, g1, g2, g3, g4, g5⟩
  · have g1' : f_R_read_24 uT 600 0 (upF 4 0 (upF 7 (-1) (upF 6 0 uR))) (upF 6 0 (upF 5 0 (upF 4 0 (upF 3 0 (upF 2 0 (upF 1 0 (upF 0 0 uD))))))) = some (1, r', D') := g1
    obtain ⟨u, u1, u2⟩ := L_become (u := uP) g3 g6
    obtain ⟨wY, wS, wC, r1, r2⟩ := q_now (y := uY) (s := uS) (c := uC) g3 u2
    rw [g1', b3_k, if_neg one0, u1, b1_k, u2.1, r1, b4_k, g2, u2.2.2.2.2.1]
    refine ⟨_, _, r', _, D', wY, u, wS, wC, _, _, rfl, rfl, d', 0, 0, fun _ => d', g3, u2, g5, ⟨by omega, rfl, rfl, fun j hj => by omega⟩, ⟨g7.1.symm, g7.2.symm⟩, rfl, ⟨by omega, rfl, rfl, fun _ _ _ _ => rfl, fun j hj => by omega⟩, ?_⟩
    by_cases q : d' 6 = 0
    · right
      exact ⟨g3.2.2.2.2.2.2.2.1.mp q, g4.2 q⟩
    · left
      refine ⟨?_, r2⟩
      have := g3.2.2.2.2.2.2.2.1
      omega
  · have g1' : f_R_read_24 uT 600 0 (upF 4 0 (upF 7 (-1) (upF 6 0 uR))) (upF 6 0 (upF 5 0 (upF 4 0 (upF 3 0 (upF 2 0 (upF 1 0 (upF 0 0 uD))))))) = some (0, r', D') := g1
    obtain ⟨v, v1, v2, v3, v4⟩ := L_c193 57 600 0 (eX y) (by omega) (by omega) (fun k hk => by omega)
    have v1' : f_X_channel_193 600 0 (eX y) = some (-4, v) := v1
    rw [g1', b3_k, if_pos rfl, g2, v1']
    have y1 : ∀ k, 2 ≤ k → k ≤ 4 → v k = uX k := fun k b c => by
      rw [v4 k (by omega)]
      unfold eX
      rw [upF_n (by omega), upF_n (by omega), upF_n (by omega), g4 k (by omega) (by omega), xk k (by omega) (by omega), w4 k (by omega) (by omega)]
    refine ⟨_, _, r', _, D', uY, uP, uS, uC, uA, v, rfl, rfl, d, 0, a, E, h1, h2, ?_, ⟨by omega, rfl, ?_, fun j hj => by omega⟩, ⟨?_, ?_⟩, h6, mk_Ac_of h7 (y1 2 (by omega) (by omega)) (y1 3 (by omega) (by omega)), h8⟩
    · intro j
      by_cases q : j < 57
      · rw [v2 j q]
        show y 1 j = _
        rw [g4 1 (by omega) (by omega), xk 1 (by omega) (by omega), (w2 j q).2]; exact h3 j
      · rw [v3 j (by omega)]
        show y 0 j = _
        rw [g5 j (by omega), x0, w3 j (by omega)]; exact h3 j
    · rw [v4 5 (by decide)]; rfl
    · rw [v4 6 (by decide)]; exact g3.1.symm
    · rw [v4 7 (by decide)]; exact g3.2.symm
