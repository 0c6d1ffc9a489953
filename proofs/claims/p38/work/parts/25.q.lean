/-! pure: one slot's history -/
def hA (d : Nat → Nat) (t : Nat) (c x : Nat → Nat → Int32) : Prop := (∀ u, u < t → c 0 u = x 30 u ∧ c 1 u = x 31 u ∧ c 2 u = x 32 u ∧ ∃ P, x 30 u = mz P) ∧ (∀ u, t ≤ u → u < 200 → c 2 u = -1) ∧ (∀ i, i < d 4 → c 5 i = x 29 i ∧ c 6 i = nI (cb (x 30) i t)) ∧ c 9 0 = nI (cg (x 32) t) ∧ x 40 0 = nI (cg (x 32) t) ∧ cg (x 32) t + cu (x 29) (d 4) = d 4 ∧ (∀ u, u < t → x 32 u = -1 ∨ ∃ i, i < d 4 ∧ x 32 u = nI i ∧ x 29 i = nI u ∧ c 8 (cg (x 32) u) = nI i) ∧ (∀ i, i < d 4 → x 29 i = -1 ∨ ∃ u, u < t ∧ x 29 i = nI u ∧ x 32 u = nI i) ∧ hZ d t (x 29) (x 30) (x 31) (x 32)
theorem kk_cb {f : Nat → Int32} {M : Nat → Bool} {t i : Nat} (hi : i < 10) : cb (upd f t (mz M)) i (t + 1) = kk M (fun i => cb f i t) 10 i := by
  rw [cb, upd_s, cb_congr (g := f) t (fun u hu => upd_n (by omega))]
  unfold kk pf
  cases h : M i
  · rw [if_neg (mz_b1F hi h)]; simp [h]
  · rw [if_pos (mz_b1T hi h)]; simp [h, hi]
theorem hA_none {d : Nat → Nat} {t : Nat} {r : Nat} {M : Nat → Bool} {c x wC wX : Nat → Nat → Int32} (ht : t < 200) (hB : mk_BD d) (h : hA d t c x) (hMb : ∀ i, i < 10 → M i = true → i < d 4 ∧ d (7 + i) ≤ t ∧ x 29 i = -1) (hr : r = hvN d t (pc (ms M 10) 10) (d 5) 0) (hno : ¬ (pc (ms M 10) 10 = 1 ∧ r = 1)) (e0 : wC 0 = upd (c 0) t (mz M)) (e1 : wC 1 = upd (c 1) t (nI r)) (e2 : wC 2 = c 2) (e5 : wC 5 = c 5) (e6 : ∀ i, i < d 4 → wC 6 i = nI (kk M (fun i => cb (x 30) i t) 10 i)) (e8 : wC 8 = c 8) (e9 : wC 9 = c 9) (f30 : wX 30 = upd (x 30) t (mz M)) (f31 : wX 31 = upd (x 31) t (nI r)) (f32 : wX 32 = upd (x 32) t (-1)) (f29 : wX 29 = x 29) (f40 : wX 40 = x 40) : hA d (t + 1) wC wX := by
  have h4 : d 4 ≤ 10 := hB.2.2.2.2.1
  obtain ⟨a1, a2, a3, a4, a5, a6, a7, a8, a9⟩ := h
  have hcg : ∀ u, u ≤ t → cg (upd (x 32) t (-1)) u = cg (x 32) u := fun u hu => cg_congr u (fun v hv => upd_n (by omega))
  have hcgt : cg (upd (x 32) t (-1)) (t + 1) = cg (x 32) t := by rw [cg, upd_s, if_pos rfl, hcg t (Nat.le_refl _)]; rfl
  refine ⟨?_, ?_, ?_, ?_, ?_, ?_, ?_, ?_, by rw [f30, f31, f32, f29]; exact hZ_step h4 a9 hMb hr (Or.inr ⟨hno, rfl, rfl⟩)⟩
  · intro u hu
    rw [e0, e1, e2, f30, f31, f32]
    rcases Nat.lt_or_ge u t with q | q
    · rw [upd_n (by omega), upd_n (by omega), upd_n (by omega), upd_n (by omega), upd_n (by omega)]; exact a1 u q
    · obtain rfl : u = t := by omega
      rw [upd_s, upd_s, upd_s, upd_s, upd_s]; exact ⟨rfl, rfl, a2 u (Nat.le_refl _) ht, M, rfl⟩
  · intro u h1 h2; rw [e2]; exact a2 u (by omega) h2
  · intro i hi
    rw [e5, f29, f30, kk_cb (by omega)]
    exact ⟨(a3 i hi).1, e6 i hi⟩
  · rw [e9, f32, hcgt]; exact a4
  · rw [f40, f32, hcgt]; exact a5
  · rw [f29, f32, hcgt]; exact a6
  · intro u hu
    rw [f32, f29, e8]
    rcases Nat.lt_or_ge u t with q | q
    · rw [upd_n (by omega), hcg u (by omega)]; exact a7 u q
    · obtain rfl : u = t := by omega
      left; exact upd_s
  · intro i hi
    rw [f29]
    rcases a8 i hi with q | ⟨u, q1, q2, q3⟩
    · left; exact q
    · right; exact ⟨u, by omega, q2, by rw [f32, upd_n (by omega)]; exact q3⟩
theorem hA_one {d : Nat → Nat} {t i0 : Nat} {r : Nat} {M : Nat → Bool} {c x wC wX : Nat → Nat → Int32} (ht : t < 200) (hB : mk_BD d) (h : hA d t c x) (hMb : ∀ i, i < 10 → M i = true → i < d 4 ∧ d (7 + i) ≤ t ∧ x 29 i = -1) (hr : r = hvN d t (pc (ms M 10) 10) (d 5) 0) (hy1 : pc (ms M 10) 10 = 1 ∧ r = 1) (hi0 : i0 < d 4) (hM1 : ∀ i, i < 10 → M i = (i == i0)) (hun : x 29 i0 = -1) (e0 : wC 0 = upd (c 0) t (mz M)) (e1 : wC 1 = upd (c 1) t (nI r)) (e2 : wC 2 = upd (c 2) t (nI i0)) (e5 : wC 5 = upd (c 5) i0 (nI t)) (e6 : wC 6 = upd (c 6) i0 (nI (cb (x 30) i0 t + 1))) (e8 : wC 8 = mkPut 10 (c 8) (c 9 0) (nI i0)) (e9 : wC 9 0 = c 9 0 + 1) (f30 : wX 30 = upd (x 30) t (mz M)) (f31 : wX 31 = upd (x 31) t (nI r)) (f32 : wX 32 = upd (upd (x 32) t (-1)) t (nI i0)) (f29 : wX 29 = upd (x 29) i0 (nI t)) (f40 : wX 40 0 = x 40 0 + 1) : hA d (t + 1) wC wX := by
  have h4 : d 4 ≤ 10 := hB.2.2.2.2.1
  obtain ⟨a1, a2, a3, a4, a5, a6, a7, a8, a9⟩ := h
  have hn : ¬ nI i0 = -1 := pu_nm1 (by omega)
  have ht1 : ¬ nI t = -1 := pu_nm1 (by omega)
  have f32' : wX 32 = upd (x 32) t (nI i0) := by rw [f32, upd_u]
  have hcg : ∀ u, u ≤ t → cg (upd (x 32) t (nI i0)) u = cg (x 32) u := fun u hu => cg_congr u (fun v hv => upd_n (by omega))
  have hcgt : cg (upd (x 32) t (nI i0)) (t + 1) = cg (x 32) t + 1 := by rw [cg, upd_s, if_neg hn, hcg t (Nat.le_refl _)]
  have hcu := cu_upd (v := nI t) hun ht1 (d 4) hi0
  have hlt : cg (x 32) t < 10 := by omega
  have e8' : wC 8 = upd (c 8) (cg (x 32) t) (nI i0) := by rw [e8, a4, mkPut_ok hlt (by omega)]
  refine ⟨?_, ?_, ?_, ?_, ?_, ?_, ?_, ?_, by rw [f30, f31, f32', f29]; exact hZ_step h4 a9 hMb hr (Or.inl ⟨hy1.1, hy1.2, i0, hi0, hM1, rfl, rfl⟩)⟩
  · intro u hu
    rw [e0, e1, e2, f30, f31, f32']
    rcases Nat.lt_or_ge u t with q | q
    · rw [upd_n (by omega), upd_n (by omega), upd_n (by omega), upd_n (by omega), upd_n (by omega), upd_n (by omega)]; exact a1 u q
    · obtain rfl : u = t := by omega
      rw [upd_s, upd_s, upd_s, upd_s, upd_s, upd_s]; exact ⟨rfl, rfl, rfl, M, rfl⟩
  · intro u h1 h2; rw [e2, upd_n (by omega)]; exact a2 u (by omega) h2
  · intro i hi
    rw [e5, e6, f29, f30, kk_cb (by omega)]
    obtain ⟨b1, b2⟩ := a3 i hi
    by_cases q : i = i0
    · subst q
      rw [upd_s, upd_s, upd_s]
      refine ⟨rfl, ?_⟩
      unfold kk pf
      simp [show i < 10 by omega, hM1 i (by omega)]
    · rw [upd_n q, upd_n q, upd_n q]
      refine ⟨b1, ?_⟩
      rw [b2]
      unfold kk pf
      simp [show i < 10 by omega, hM1 i (by omega), q]
  · rw [e9, f32', hcgt, a4, pu_one]
  · rw [f40, f32', hcgt, a5, pu_one]
  · rw [f29, f32', hcgt]; omega
  · intro u hu
    rw [f32', f29, e8']
    rcases Nat.lt_or_ge u t with q | q
    · rw [upd_n (by omega), hcg u (by omega)]
      rcases a7 u q with z | ⟨i, z1, z2, z3, z4⟩
      · left; exact z
      · right
        have hne : ¬ x 32 u = -1 := by rw [z2]; exact pu_nm1 (by omega)
        have := cg_lt hne t q
        refine ⟨i, z1, z2, ?_, ?_⟩
        · rw [upd_n]
          · exact z3
          · intro e; subst e; rw [hun] at z3; exact pu_nm1 (a := u) (by omega) z3.symm
        · rw [upd_n (by omega)]; exact z4
    · obtain rfl : u = t := by omega
      right
      refine ⟨i0, hi0, upd_s, upd_s, ?_⟩
      rw [hcg u (Nat.le_refl _), upd_s]
  · intro i hi
    rw [f29, f32']
    by_cases q : i = i0
    · subst q
      right; exact ⟨t, by omega, upd_s, upd_s⟩
    · rw [upd_n q]
      rcases a8 i hi with z | ⟨u, q1, q2, q3⟩
      · left; exact z
      · right; exact ⟨u, by omega, q2, by rw [upd_n (by omega)]; exact q3⟩
theorem q_single {M : Nat → Bool} (h : pc (ms M 10) 10 = 1) : ∃ i, i < 10 ∧ ∀ j, j < 10 → M j = (j == i) := by
  obtain ⟨i, hi, e⟩ := pc_one (ms_10 M) h
  refine ⟨i, hi, fun j hj => ?_⟩
  rw [← mz_bit (P := M) hj, e, Nat.testBit_two_pow]
  by_cases q : j = i
  · subst q; simp
  · simp [q, show ¬ i = j from fun z => q z.symm]
theorem q_sent {d : Nat → Nat} {u y c x : Nat → Nat → Int32} {t : Nat} {M P : Nat → Bool} (hB : mk_BD d) (hC : mk_CQ u d) (hM : mk_MP (x 0) d) (hy : y 5 0 = (-1)) (hx : x 16 0 = (-1)) (ht : t < 200) (hMb : ∀ i, i < 10 → M i = true → i < d 4 ∧ d (7 + i) ≤ t ∧ x 29 i = -1) (h : hA d t c x) (hP : y 7 0 = mz P) : ∃ r D wY wC wX, r ≤ 2 ∧ f_Y_listen y u c (nI t) (mz M) = some (nI r, wY, wC) ∧ f_X_sent x (nI t) (mz M) = some (nI r, wX) ∧ hA d (t + 1) wC wX ∧ (∀ k, k ≠ 7 → wY k = y k) ∧ wY 7 0 = mz (fun i => P i && !D i) ∧ (∀ i, i < d 4 → wX 29 i = if D i then nI t else x 29 i) ∧ (∀ i, i < 10 → D i = true → M i = true) ∧ ((∀ i, D i = false) ∨ r = 1 ∧ D = M) ∧ (∀ k, k ≠ 0 → k ≠ 1 → k ≠ 2 → k ≠ 5 → k ≠ 6 → k ≠ 8 → k ≠ 9 → wC k = c k) ∧ (∀ k, k ≠ 29 → k ≠ 30 → k ≠ 31 → k ≠ 32 → k ≠ 40 → wX k = x k) ∧ r = hvN d t (pc (ms M 10) 10) (d 5) 0 ∧ (∀ i, D i = (M i && decide (pc (ms M 10) 10 = 1 ∧ r = 1))) ∧ wX 30 = upd (x 30) t (mz M) := by
  have h4 : d 4 ≤ 10 := hB.2.2.2.2.1
  have h5 : d 5 ≤ 10 := hB.2.2.2.2.2.1
  have hb := pc_le (ms M 10) 10
  have hMi : ∀ i, i < 10 → M i = true → i < d 4 := fun i a b => (hMb i a b).1
  have hM30 : mk_MP ((upR 30 (upd (x 30) t (mz M)) x) 0) d := by rw [upR_n (by decide)]; exact hM
  obtain ⟨r, hr0, hr, er1, er2⟩ := q_heardAt_2 (x := upR 30 (upd (x 30) t (mz M)) x) hB hC hM30 hy hx t (pc (ms M 10) 10) (by omega) (by omega) (d 5) 600 0 (by omega) (by omega)
  have eX1 : f_X_sent x (nI t) (mz M) = if nI r = 1 then (if nI (pc (ms M 10) 10) = 1 then f_X_sent_49 (nI t) (mz M) 600 0 (upR 32 (upd (x 32) t (-1)) (upR 31 (upd (x 31) t (nI r)) (upR 30 (upd (x 30) t (mz M)) x))) else some (nI r, (upR 32 (upd (x 32) t (-1)) (upR 31 (upd (x 31) t (nI r)) (upR 30 (upd (x 30) t (mz M)) x))))) else some (nI r, (upR 32 (upd (x 32) t (-1)) (upR 31 (upd (x 31) t (nI r)) (upR 30 (upd (x 30) t (mz M)) x)))) := by
    unfold f_X_sent
    rw [gI_ok ht (by omega), mz_bitsX, b1_k, pu_cl (by omega), f_X_heardAt, show (0 : Int32) = nI 0 from rfl, er2, b1_k, upd_s, b1_k]
  by_cases hone : pc (ms M 10) 10 = 1 ∧ r = 1
  · obtain ⟨h1, rfl⟩ := hone
    obtain ⟨i0, hi0, hM1⟩ := q_single h1
    have hMi0 : M i0 = true := by rw [hM1 i0 hi0]; simp
    obtain ⟨hd, -, hun⟩ := hMb i0 hi0 hMi0
    have e1 := q_listen1 (c0 := cb (x 30) i0 t) hB hC hd hM1 (nI t) (nI 1) y (upR 1 (upd (c 1) t (nI 1)) (upR 0 (upd (c 0) t (mz M)) c)) (h.2.2.1 i0 hd).2 i0 600 0 (by omega) (by omega)
    have eY0 : f_Y_listen y u c (nI t) (mz M) = f_Y_listen_63 u (nI t) (mz M) 600 (nI 1) 1 (nI 0) y (upR 1 (upd (c 1) t (nI 1)) (upR 0 (upd (c 0) t (mz M)) c)) := by
      unfold f_Y_listen f_Y_heardAt
      rw [mz_bits, show (0 : Int32) = nI 0 from rfl, er1, b1_k, h1, if_pos (show nI 1 = 1 from rfl), if_pos (show nI 1 = 1 from rfl), mkPut_ok ht (by omega), mkPut_ok ht (by omega)]
    have eY := eY0.trans e1
    have eX0 : f_X_sent x (nI t) (mz M) = f_X_sent_49 (nI t) (mz M) 600 (nI 0) (upR 32 (upd (x 32) t (-1)) (upR 31 (upd (x 31) t (nI 1)) (upR 30 (upd (x 30) t (mz M)) x))) := by
      rw [eX1, h1, if_pos (show nI 1 = 1 from rfl), if_pos (show nI 1 = 1 from rfl)]
      rfl
    have eX := eX0.trans (q_sent_49 hi0 ht hM1 i0 600 0 (by omega) (by omega))
    have e31 : (upR 32 (upd (x 32) t (-1)) (upR 31 (upd (x 31) t (nI 1)) (upR 30 (upd (x 30) t (mz M)) x))) 31 t = nI 1 := upd_s
    rw [e31] at eX
    refine ⟨1, M, _, _, _, hr, eY, eX, ?_, ?_, ?_, ?_, ?_, ?_, ?_, ?_, hr0, fun i => by rw [decide_eq_true ⟨h1, rfl⟩, Bool.and_true], rfl⟩
    · refine hA_one (i0 := i0) (r := 1) (M := M) ht hB h hMb hr0 ⟨h1, rfl⟩ hd hM1 hun rfl rfl ?_ rfl rfl rfl rfl rfl rfl rfl rfl rfl
      exact mkPut_ok ht (by omega)
    · intro k hk; exact upF_n hk
    · show (y 7 0) &&& _ = _
      rw [hP, mz_anot]
    · intro i hi
      show upd (x 29) i0 (nI t) i = _
      by_cases q : i = i0
      · subst q; rw [upd_s, if_pos hMi0]
      · rw [upd_n q, if_neg (by rw [hM1 i (by omega)]; simp [q])]
    · intro i _ q; exact q
    · right; exact ⟨rfl, rfl⟩
    · intro k k0 k1 k2 k5 k6 k8 k9
      rw [upF_n k9, upR_n k8, upR_n k5, upR_n k2, upR_n k6, upR_n k1, upR_n k0]
    · intro k k0 k1 k2 k5 k6
      rw [upF_n k6, upR_n k0, upR_n k5, upR_n k5, upR_n k2, upR_n k1]
  · obtain ⟨g, eg, hg⟩ := q_listen0 (c := fun i => cb (x 30) i t) hB hC hMi (nI t) (nI r) y 10 600 0 (upR 1 (upd (c 1) t (nI r)) (upR 0 (upd (c 0) t (mz M)) c)) (by omega) (by omega) (fun j hj => by
      show c 6 j = _
      rw [(h.2.2.1 j hj).2]; unfold kk pf; simp)
    have eY : f_Y_listen y u c (nI t) (mz M) = some (nI r, y, upR 6 g (upR 1 (upd (c 1) t (nI r)) (upR 0 (upd (c 0) t (mz M)) c))) := by
      unfold f_Y_listen f_Y_heardAt
      rw [mz_bits, show (0 : Int32) = nI 0 from rfl, er1, b1_k, mkPut_ok ht (by omega), mkPut_ok ht (by omega)]
      by_cases q1 : nI (pc (ms M 10) 10) = 1
      · rw [if_pos q1]
        by_cases q2 : nI r = 1
        · exact absurd ⟨pu_inj (b := 1) (by omega) (by omega) q1, pu_inj (b := 1) (by omega) (by omega) q2⟩ hone
        · rw [if_neg q2]; exact eg
      · rw [if_neg q1]; exact eg
    have eX : f_X_sent x (nI t) (mz M) = some (nI r, (upR 32 (upd (x 32) t (-1)) (upR 31 (upd (x 31) t (nI r)) (upR 30 (upd (x 30) t (mz M)) x)))) := by
      rw [eX1]
      by_cases q2 : nI r = 1
      · rw [if_pos q2]
        by_cases q1 : nI (pc (ms M 10) 10) = 1
        · exact absurd ⟨pu_inj (b := 1) (by omega) (by omega) q1, pu_inj (b := 1) (by omega) (by omega) q2⟩ hone
        · rw [if_neg q1]
      · rw [if_neg q2]
    refine ⟨r, fun _ => false, _, _, _, hr, eY, eX, ?_, ?_, ?_, ?_, ?_, ?_, ?_, ?_, hr0, fun i => by rw [decide_eq_false hone, Bool.and_false], rfl⟩
    · exact hA_none (r := r) (M := M) ht hB h hMb hr0 hone rfl rfl rfl rfl hg rfl rfl rfl rfl rfl rfl rfl
    · intro k _; rfl
    · rw [hP]; exact mz_congr (fun i _ => by simp)
    · intro i _; rfl
    · intro i _ q; cases q
    · left; intro i; rfl
    · intro k k0 k1 k2 k5 k6 k8 k9
      rw [upR_n k6, upR_n k1, upR_n k0]
    · intro k k0 k1 k2 k5 k6
      rw [upR_n k5, upR_n k2, upR_n k1]
