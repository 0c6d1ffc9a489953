/-! pure: an epoch begins and ends -/
def hE (t e : Nat) (c x : Nat → Nat → Int32) : Prop := c 13 0 = nI e ∧ x 38 0 = nI e ∧ e ≤ t ∧ ∀ k, k < e → c 10 k = x 35 k ∧ c 11 k = x 36 k ∧ c 12 k = x 37 k
theorem q_begin100 {u y s c x : Nat → Nat → Int32} {t e : Nat} {G : Nat → Bool} {v3 v4 : Int32} (ht : t < 200) (hs : s 3 0 = nI 0) (he : hE t e c x) : ∃ cnt e' wS wC wX, f_Y_beginEpoch_79 u (nI t) (mz G) v3 v4 y s c = some (upF 12 (bi cnt) y, wS, wC) ∧ f_X_begins_82 (nI t) (mz G) v3 v4 x = some wX ∧ wS 3 0 = nI 1 ∧ wS 0 = upd (s 0) 0 (mz G) ∧ wS 1 = upd (s 1) 0 v3 ∧ wS 2 = upd (s 2) 0 v4 ∧ wX 18 = upd (x 18) 0 (mz G) ∧ wX 19 = upd (x 19) 0 v3 ∧ wX 20 = upd (x 20) 0 v4 ∧ wX 21 0 = nI 1 ∧ wX 39 0 = bi cnt ∧ hE (t + 1) e' wC wX ∧ (cnt = true → 1 ≤ e') ∧ (∀ k, k ≠ 10 → k ≠ 11 → k ≠ 12 → k ≠ 13 → wC k = c k) ∧ (∀ k, k ≠ 18 → k ≠ 19 → k ≠ 20 → k ≠ 21 → k ≠ 35 → k ≠ 36 → k ≠ 37 → k ≠ 38 → k ≠ 39 → wX k = x k) := by
  obtain ⟨e1, e2, e3, e4⟩ := he
  obtain ⟨wS, s0, s1, s2, s3, s4⟩ := q_push (mz G) v3 v4 hs (by omega)
  by_cases hz : mz G = 0
  · refine ⟨false, e, wS, c, upF 39 0 (upF 21 1 (upR 20 (upd (x 20) 0 v4) (upR 19 (upd (x 19) 0 v3) (upR 18 (upd (x 18) 0 (mz G)) x)))), ?_, ?_, s1, s2, s3, s4, rfl, rfl, rfl, rfl, rfl, ⟨e1, e2, by omega, e4⟩, (by intro z; cases z), fun _ _ _ _ _ => rfl, ?_⟩
    · unfold f_Y_beginEpoch_79
      rw [s0, b1_k, if_pos hz]
      unfold f_Y_beginEpoch_100
      rw [gZ0, if_pos rfl]
      rfl
    · unfold f_X_begins_82
      rw [if_pos hz]
      unfold f_X_begins_119
      rw [gZ0, if_pos rfl]
    · intro k k18 k19 k20 k21 k35 k36 k37 k38 k39
      rw [upF_n k39, upF_n k21, upR_n k20, upR_n k19, upR_n k18]
  · refine ⟨true, e + 1, wS, upF 13 ((c 13 0) + 1) (upR 12 (upd (c 12) e (mz G)) (upR 11 (upd (c 11) e (-1)) (upR 10 (upd (c 10) e (nI t)) c))), upF 38 ((x 38 0) + 1) (upR 37 (upd (x 37) e (mz G)) (upR 36 (upd (x 36) e (-1)) (upR 35 (upd (x 35) e (nI t)) (upF 39 1 (upF 21 1 (upR 20 (upd (x 20) 0 v4) (upR 19 (upd (x 19) 0 v3) (upR 18 (upd (x 18) 0 (mz G)) x)))))))), ?_, ?_, s1, s2, s3, s4, rfl, rfl, rfl, rfl, rfl, ⟨?_, ?_, by omega, ?_⟩, (by intro _; omega), ?_, ?_⟩
    · unfold f_Y_beginEpoch_79
      rw [s0, b1_k, if_neg hz]
      unfold f_Y_beginEpoch_100
      rw [gZ1, if_neg (by decide)]
      unfold f_C_openEpoch
      rw [b1_k, e1, mkPut_ok (by omega) (by omega), mkPut_ok (by omega) (by omega), mkPut_ok (by omega) (by omega)]
      rfl
    · unfold f_X_begins_82
      rw [if_neg hz]
      unfold f_X_begins_119
      rw [gZ1, if_neg (by decide)]
      show gI (x 38 0) 200 (some (upF 38 ((x 38 0) + 1) (upR 37 (upd (x 37) ((x 38 0) : Int32).toNatClampNeg (mz G)) (upR 36 (upd (x 36) ((x 38 0) : Int32).toNatClampNeg (-1)) (upR 35 (upd (x 35) ((x 38 0) : Int32).toNatClampNeg (nI t)) _))))) = _
      rw [e2, gI_ok (by omega) (by omega), pu_cl (by omega)]
    · show (c 13 0) + 1 = _
      rw [e1, pu_one]
    · show (x 38 0) + 1 = _
      rw [e2, pu_one]
    · intro k hk
      show upd (c 10) e (nI t) k = upd (x 35) e (nI t) k ∧ upd (c 11) e (-1) k = upd (x 36) e (-1) k ∧ upd (c 12) e (mz G) k = upd (x 37) e (mz G) k
      by_cases q : k = e
      · subst q; rw [upd_s, upd_s, upd_s, upd_s, upd_s, upd_s]; exact ⟨rfl, rfl, rfl⟩
      · rw [upd_n q, upd_n q, upd_n q, upd_n q, upd_n q, upd_n q]; exact e4 k (by omega)
    · intro k k10 k11 k12 k13
      rw [upF_n k13, upR_n k12, upR_n k11, upR_n k10]
    · intro k k18 k19 k20 k21 k35 k36 k37 k38 k39
      rw [upF_n k38, upR_n k37, upR_n k36, upR_n k35, upF_n k39, upF_n k21, upR_n k20, upR_n k19, upR_n k18]
theorem q_min (t E W : Nat) (ht : t < 200) (hE : E < 2 ^ 20) (hW : W ≤ 20) : (if ((16 * nI t) + 16) < (nI E + (16 * nI W)) then ((16 * nI t) + 16) else (nI E + (16 * nI W))) = nI (if 16 * t + 16 < E + 16 * W then 16 * t + 16 else E + 16 * W) := by
  rw [q_16, q_16, show (16 : Int32) = nI 16 from rfl, pu_add, pu_add]
  by_cases h : 16 * t + 16 < E + 16 * W
  · rw [if_pos (lt_t h (by omega)), if_pos h]
  · rw [if_neg (lt_f (by omega) (by omega)), if_neg h]
theorem q_begin {d : Nat → Nat} {u y s c x : Nat → Nat → Int32} {t l E e : Nat} {P Wd : Nat → Bool} (hB : mk_BD d) (hC : mk_CQ u d) (hM : mk_MP (x 0) d) (ht : t < 200) (hl : l ≤ 3) (hy4 : y 4 0 = nI l) (hx15 : x 15 0 = nI l) (hPd : ∀ i, i < 10 → P i = true → i < d 4) (hy7 : y 7 0 = mz P) (hx26 : x 26 0 = mz P) (hs : s 3 0 = nI 0) (hy9 : y 9 0 = nI E) (hx25 : x 25 0 = nI E) (hE0 : l ≠ 3 → E = 0) (hEt : E ≤ 16 * t) (hy8 : y 8 0 = mz Wd) (hWd0 : l ≠ 3 → ∀ i, i < 10 → Wd i = false) (hWE : l = 3 → ∀ i, i < 10 → P i = true → Wd i = false → E ≤ mo d i) (he : hE t e c x) : ∃ G a b E' Wd' cnt e' wY wS wC wX, f_Y_beginEpoch y u s c (nI t) = some (wY, wS, wC) ∧ f_X_begins x (nI t) = some wX ∧ hS 1 (fun _ => G) (fun _ => a) (fun _ => b) wS wX ∧ hW d l 1 (fun _ => G) (fun _ => a) (fun _ => b) ∧ (∀ i, i < 10 → G i = true → P i = true) ∧ wX 21 0 = nI 1 ∧ wX 22 0 = 1 ∧ wX 23 0 = 0 ∧ wX 39 0 = bi cnt ∧ wY 12 0 = bi cnt ∧ wX 25 0 = nI E' ∧ wY 9 0 = nI E' ∧ E' ≤ 16 * t + 16 ∧ (l ≠ 3 → E' = 0) ∧ wY 8 0 = mz Wd' ∧ (l ≠ 3 → ∀ i, i < 10 → Wd' i = false) ∧ (l = 3 → ∀ i, i < 10 → P i = true → Wd' i = false → E' ≤ mo d i) ∧ hE (t + 1) e' wC wX ∧ (cnt = true → 1 ≤ e') ∧ (∀ k, k ≠ 8 → k ≠ 9 → k ≠ 12 → wY k = y k) ∧ (∀ k, k ≠ 10 → k ≠ 11 → k ≠ 12 → k ≠ 13 → wC k = c k) ∧ (∀ k, k ≠ 18 → k ≠ 19 → k ≠ 20 → k ≠ 21 → k ≠ 22 → k ≠ 23 → k ≠ 24 → k ≠ 25 → k ≠ 35 → k ≠ 36 → k ≠ 37 → k ≠ 38 → k ≠ 39 → wX k = x k) := by
  have h4 : d 4 ≤ 10 := hB.2.2.2.2.1
  have h3 : d 3 ≤ 20 := hB.2.2.2.1
  have hst : ∀ (G : Nat → Bool) (a b : Nat) (wS wX : Nat → Nat → Int32), wS 3 0 = nI 1 → wS 0 = upd (s 0) 0 (mz G) → wS 1 = upd (s 1) 0 (nI a) → wS 2 = upd (s 2) 0 (nI b) → (∃ f, wX 18 = upd f 0 (mz G)) → (∃ f, wX 19 = upd f 0 (nI a)) → (∃ f, wX 20 = upd f 0 (nI b)) → hS 1 (fun _ => G) (fun _ => a) (fun _ => b) wS wX := by
    intro G a b wS wX z3 z0 z1 z2 ⟨f, y0⟩ ⟨f', y1⟩ ⟨f'', y2⟩
    refine ⟨z3, fun j hj => ?_⟩
    obtain rfl : j = 0 := by omega
    rw [z0, z1, z2, y0, y1, y2, upd_s, upd_s, upd_s, upd_s, upd_s, upd_s]
    exact ⟨rfl, rfl, rfl, rfl, rfl, rfl⟩
  by_cases hl3 : l = 3
  · subst hl3
    generalize hb : (if 16 * t + 16 < E + 16 * d 3 then 16 * t + 16 else E + 16 * d 3) = b
    have hbE : E ≤ b ∧ b ≤ 16 * t + 16 := by
      subst hb; split <;> omega
    have eB := q_min t E (d 3) ht (by omega) h3
    rw [hb] at eB
    obtain ⟨cnt, e', wS, wC, wX, f1, f2, f3, f4, f5, f6, f7, f8, f9, f10, f11, f12, f13, f14, f15⟩ := q_begin100 (u := u) (y := upF 9 (nI b) (upF 8 ((y 8 0) ||| mz (win d P E b)) y)) (s := s) (c := c) (x := upF 25 (nI b) (upF 24 0 (upF 23 0 (upF 22 1 x)))) (G := win d P E b) (v3 := nI E) (v4 := nI b) ht hs he
    refine ⟨win d P E b, E, b, b, fun i => Wd i || win d P E b i, cnt, e', upF 12 (bi cnt) (upF 9 (nI b) (upF 8 ((y 8 0) ||| mz (win d P E b)) y)), wS, wC, wX, ?_, ?_, hst _ _ _ _ _ f3 f4 f5 f6 ⟨_, f7⟩ ⟨_, f8⟩ ⟨_, f9⟩, ?_, ?_, f10, ?_, ?_, f11, rfl, ?_, rfl, hbE.2, fun z => absurd rfl z, ?_, fun z => absurd rfl z, ?_, f12, f13, ?_, f14, ?_⟩
    · unfold f_Y_beginEpoch
      rw [hy4, if_pos (show nI 3 = 3 from rfl), hy9, hC.2.2.2.1, eB, hy7, q_within hB hC hPd (by omega) (by omega), b1_k]
      exact f1
    · unfold f_X_begins
      rw [hx15, if_pos (show nI 3 = 3 from rfl), hx25, hM 3, eB, hx26, q_between (x := upF 25 (nI b) (upF 24 0 (upF 23 0 (upF 22 1 x)))) hB hM hPd (by omega) (by omega), b1_k]
      exact f2
    · intro j _
      refine ⟨hbE.1, show b < 2 ^ 20 by omega, fun i hi z => ?_⟩
      unfold win at z
      simp at z
      exact ⟨hPd i hi z.1, fun _ => z.2⟩
    · intro i hi z
      unfold win at z
      simp at z
      exact z.1
    · rw [f15 22 (by decide) (by decide) (by decide) (by decide) (by decide) (by decide) (by decide) (by decide) (by decide)]; rfl
    · rw [f15 23 (by decide) (by decide) (by decide) (by decide) (by decide) (by decide) (by decide) (by decide) (by decide)]; rfl
    · rw [f15 25 (by decide) (by decide) (by decide) (by decide) (by decide) (by decide) (by decide) (by decide) (by decide)]; rfl
    · show (y 8 0) ||| _ = _
      rw [hy8, mz_or]
    · intro _ i hi hp hw
      simp at hw
      have := hWE rfl i hi hp hw.1
      have hw2 := hw.2
      unfold win at hw2
      rw [hp] at hw2
      simp [this] at hw2
      omega
    · intro k k8 k9 k12
      rw [upF_n k12, upF_n k9, upF_n k8]
    · intro k k18 k19 k20 k21 k22 k23 k24 k25 k35 k36 k37 k38 k39
      rw [f15 k k18 k19 k20 k21 k35 k36 k37 k38 k39, upF_n k25, upF_n k24, upF_n k23, upF_n k22]
  · have hn3 : ¬ nI l = 3 := eq_f (b := 3) hl3 (by omega) (by omega)
    have hE00 := hE0 hl3
    subst hE00
    obtain ⟨cnt, e', wS, wC, wX, f1, f2, f3, f4, f5, f6, f7, f8, f9, f10, f11, f12, f13, f14, f15⟩ := q_begin100 (u := u) (y := y) (s := s) (c := c) (x := upF 24 0 (upF 23 0 (upF 22 1 x))) (G := P) (v3 := nI 0) (v4 := nI 0) ht hs he
    refine ⟨P, 0, 0, 0, Wd, cnt, e', upF 12 (bi cnt) y, wS, wC, wX, ?_, ?_, hst _ _ _ _ _ f3 f4 f5 f6 ⟨_, f7⟩ ⟨_, f8⟩ ⟨_, f9⟩, ?_, fun i _ z => z, f10, ?_, ?_, f11, rfl, ?_, hy9, by omega, fun _ => rfl, hy8, hWd0, fun z => absurd z hl3, f12, f13, ?_, f14, ?_⟩
    · unfold f_Y_beginEpoch
      rw [hy4, if_neg hn3, hy9, hy7]
      exact f1
    · unfold f_X_begins
      rw [hx15, if_neg hn3, hx26]
      exact f2
    · intro j _
      exact ⟨Nat.le_refl _, show 0 < 2 ^ 20 by omega, fun i hi z => ⟨hPd i hi z, fun z3 => absurd z3 hl3⟩⟩
    · rw [f15 22 (by decide) (by decide) (by decide) (by decide) (by decide) (by decide) (by decide) (by decide) (by decide)]; rfl
    · rw [f15 23 (by decide) (by decide) (by decide) (by decide) (by decide) (by decide) (by decide) (by decide) (by decide)]; rfl
    · rw [f15 25 (by decide) (by decide) (by decide) (by decide) (by decide) (by decide) (by decide) (by decide) (by decide)]; exact hx25
    · intro k _ _ k12
      rw [upF_n k12]
    · intro k k18 k19 k20 k21 k22 k23 k24 k25 k35 k36 k37 k38 k39
      rw [f15 k k18 k19 k20 k21 k35 k36 k37 k38 k39, upF_n k24, upF_n k23, upF_n k22]
