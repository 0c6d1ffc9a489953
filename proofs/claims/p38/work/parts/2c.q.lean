/-! pure: an epoch's end -/
def mn (d : Nat → Nat) (P : Nat → Bool) (E : Nat) : Nat → Nat
  | 0 => E
  | i + 1 => if P i then (if mo d i < mn d P E i then mo d i else mn d P E i) else mn d P E i
theorem mn_le {d : Nat → Nat} {P : Nat → Bool} {E : Nat} : ∀ i, mn d P E i ≤ E
  | 0 => Nat.le_refl _
  | i + 1 => by
    have := mn_le (d := d) (P := P) (E := E) i
    rw [mn]
    split
    · split <;> omega
    · exact this
theorem mn_eq {d : Nat → Nat} {P W : Nat → Bool} {E : Nat} (h : ∀ i, i < 10 → P i = true → W i = false → E ≤ mo d i) : ∀ i, i ≤ 10 → mn d P E i = mn d (fun i => W i && P i) E i
  | 0, _ => rfl
  | i + 1, hi => by
    have ih := mn_eq h i (by omega)
    rw [mn, mn, ih]
    cases hp : P i
    · simp
    · cases hw : W i
      · have := h i (by omega) hp hw
        have := mn_le (d := d) (P := fun i => W i && P i) (E := E) i
        simp
        omega
      · simp
theorem mn_end {d : Nat → Nat} {P : Nat → Bool} {E i : Nat} (hi : i ≤ 10) (h : ∀ j, i ≤ j → j < 10 → P j = false) : mn d P E i = mn d P E 10 := by
  have : ∀ k, i + k ≤ 10 → mn d P E (i + k) = mn d P E i := by
    intro k
    induction k with
    | zero => intro _; rfl
    | succ k ih =>
      intro hk
      rw [← Nat.add_assoc, mn, h (i + k) (by omega) (by omega), if_neg (by decide)]
      exact ih (by omega)
  rw [← this (10 - i) (by omega), show i + (10 - i) = 10 by omega]
theorem q_minN {a b : Nat} (ha : a < 2 ^ 30) (hb : b < 2 ^ 30) : (if nI a < nI b then nI a else nI b) = nI (if a < b then a else b) := by
  by_cases h : a < b
  · rw [if_pos (lt_t h (by omega)), if_pos h]
  · rw [if_neg (lt_f (by omega) (by omega)), if_neg h]
theorem q_endY {d : Nat → Nat} {u : Nat → Nat → Int32} {A : Nat → Bool} {E : Nat} (p1 : Int32) (hB : mk_BD d) (hC : mk_CQ u d) (hE : E < 2 ^ 20) (hA : ∀ i, i < 10 → A i = true → i < d 4) : ∀ kf n i (y c : Nat → Nat → Int32), i + kf = 10 → kf < n → y 9 0 = nI (mn d A E i) → ∃ wY, f_Y_endEpoch_39 u p1 n (mz A) (nI i) y c = some (wY, c) ∧ wY 9 0 = nI (mn d A E 10) ∧ (∀ k, k ≠ 9 → wY k = y k)
  | kf, n, i, y, c, hi, hn, hy => by
    have h4 : d 4 ≤ 10 := hB.2.2.2.2.1
    have h5 : u 5 0 = nI (d 4) := hC.2.2.2.2.2.1
    obtain ⟨n, rfl, hn'⟩ := q_fu hn
    rw [f_Y_endEpoch_39, h5]
    by_cases h1 : d 4 ≤ i
    · rw [if_pos (le_t h1 (by omega))]
      refine ⟨y, rfl, ?_, fun _ _ => rfl⟩
      rw [hy, mn_end (by omega)]
      intro j hj hj'
      cases hPj : A j
      · rfl
      · have := hA j hj' hPj; omega
    rw [if_neg (le_f (Nat.lt_of_not_le h1) (by omega))]
    by_cases h2 : mz A >>> (nI i &&& 31) = 0
    · rw [if_pos h2]
      exact ⟨y, rfl, by rw [hy, mn_end (by omega) (mz_stop (by omega) h2)], fun _ _ => rfl⟩
    obtain ⟨kf, rfl⟩ : ∃ k', kf = k' + 1 := ⟨kf - 1, by omega⟩
    have hi' : i < 10 := by omega
    rw [if_neg h2, pu_one]
    cases hp : A i
    · rw [if_neg (mz_b1F hi' hp)]
      exact q_endY p1 hB hC hE hA kf n (i + 1) y c (by omega) (by omega) (by rw [hy, mn, hp]; rfl)
    · have hm := mo_lt hB (show i < d 4 by omega)
      have hmE := mn_le (d := d) (P := A) (E := E) i
      rw [if_pos (mz_b1T hi' hp), q_momentP hB hC (by omega), b1_k, hy, q_minN (by omega) (by omega)]
      obtain ⟨wY, g1, g2, g3⟩ := q_endY p1 hB hC hE hA kf n (i + 1) (upF 9 (nI (if mo d i < mn d A E i then mo d i else mn d A E i)) y) c (by omega) (by omega) (by
        show nI _ = _
        rw [mn, hp, if_pos rfl])
      exact ⟨wY, g1, g2, fun k hk => by rw [g3 k hk, upF_n hk]⟩
theorem q_endX {d : Nat → Nat} {t E l : Nat} {ns : Int32} (hB : mk_BD d) (ht : t < 200) (hE : E < 2 ^ 20) (hl : l = 3) (f : Nat → Int32) : ∀ kf n i (x : Nat → Nat → Int32), i + kf = d 4 → kf < n → mk_MP (x 0) d → x 15 0 = nI l → x 17 0 = ns → x 29 = f → x 25 0 = nI (mn d (prs d f ns (t + 1)) E i) → ∃ wX, f_X_ends_26 (nI t) n (nI i) x = some wX ∧ wX 25 0 = nI (mn d (prs d f ns (t + 1)) E 10) ∧ (∀ k, k ≠ 25 → wX k = x k)
  | 0, n, i, x, hi, hn, hM, h15, h17, h29, h25 => by
    have h4 : d 4 ≤ 10 := hB.2.2.2.2.1
    obtain ⟨n, rfl, hn'⟩ := q_fu hn
    refine ⟨x, ?_, ?_, fun _ _ => rfl⟩
    · rw [f_X_ends_26, hM 4, if_pos (le_t (by omega) (by omega))]
    · rw [h25, mn_end (by omega)]
      intro j hj _
      unfold prs
      simp [show ¬ j < d 4 by omega]
  | kf + 1, n, i, x, hi, hn, hM, h15, h17, h29, h25 => by
    have h4 : d 4 ≤ 10 := hB.2.2.2.2.1
    obtain ⟨n, rfl, hn'⟩ := q_fu hn
    obtain ⟨b1', b2'⟩ := hB.2.2.2.2.2.2.2.2.1 i (by omega)
    have hm := mo_lt hB (show i < d 4 by omega)
    have hmE := mn_le (d := d) (P := prs d f ns (t + 1)) (E := E) i
    have go : ∀ v, nI v = nI (mn d (prs d f ns (t + 1)) E (i + 1)) → ∃ wX, f_X_ends_105 (nI t) (f_X_ends_26 (nI t) n) (nI i) (nI v) x = some wX ∧ wX 25 0 = nI (mn d (prs d f ns (t + 1)) E 10) ∧ (∀ k, k ≠ 25 → wX k = x k) := by
      intro v hv
      unfold f_X_ends_105
      rw [pu_one]
      obtain ⟨wX, g1, g2, g3⟩ := q_endX (ns := ns) hB ht hE hl f kf n (i + 1) (upF 25 (nI v) x) (by omega) (by omega) hM h15 h17 h29 hv
      exact ⟨wX, g1, g2, fun k hk => by rw [g3 k hk, upF_n hk]⟩
    have e : f_X_momentOf (nI (d (7 + i))) (nI i) = some (nI (mo d i)) := by
      unfold f_X_momentOf mo
      rw [q_16, pu_add]
    have no : prs d f ns (t + 1) i = false → ∃ wX, f_X_ends_101 (nI t) (f_X_ends_26 (nI t) n) (nI i) x = some wX ∧ wX 25 0 = nI (mn d (prs d f ns (t + 1)) E 10) ∧ (∀ k, k ≠ 25 → wX k = x k) := by
      intro hp
      unfold f_X_ends_101
      rw [h25]
      exact go _ (by rw [mn, hp]; rfl)
    rw [f_X_ends_26, hM 4, if_neg (le_f (by omega) (by omega)), h15, if_pos (show nI l = 3 by rw [hl]; rfl), q_p7, gI_ok (by omega) (by omega), pu_cl (by omega), hM, e, b1_k, h17]
    by_cases q1 : nI i = ns
    · rw [if_pos q1]; exact no (by unfold prs; simp [q1])
    rw [if_neg q1]
    by_cases q2 : t < d (7 + i)
    · rw [if_pos (lt_t q2 (by omega))]; exact no (by unfold prs; simp [show ¬ d (7 + i) < t + 1 by omega])
    rw [if_neg (lt_f (by omega) (by omega)), gI_ok (by omega) (by omega), pu_cl (by omega), h29]
    by_cases q3 : f i = -1
    · rw [if_pos q3, h25, q_minN (by omega) (by omega)]
      refine go _ ?_
      rw [mn, prs_iff.mpr ⟨by omega, q1, by omega, q3⟩, if_pos rfl]
    · rw [if_neg q3]; exact no (by unfold prs; simp [q3])
theorem q_end {d : Nat → Nat} {u y c x : Nat → Nat → Int32} {t l E e t' : Nat} {ns : Int32} {Wd : Nat → Bool} {cnt : Bool} (hB : mk_BD d) (hC : mk_CQ u d) (hM : mk_MP (x 0) d) (ht : t < 200) (hl : l ≤ 3) (hx15 : x 15 0 = nI l) (hx17 : x 17 0 = ns) (hy7 : y 7 0 = mz (prs d (x 29) ns (t + 1))) (hy9 : y 9 0 = nI E) (hx25 : x 25 0 = nI E) (hEb : E < 2 ^ 20) (hy8 : y 8 0 = mz Wd) (hWd0 : l ≠ 3 → ∀ i, i < 10 → Wd i = false) (hWE : l = 3 → ∀ i, i < 10 → prs d (x 29) ns (t + 1) i = true → Wd i = false → E ≤ mo d i) (hy12 : y 12 0 = bi cnt) (hx39 : x 39 0 = bi cnt) (hce : cnt = true → 1 ≤ e) (he200 : e ≤ 200) (he : hE t' e c x) : ∃ E' wY wC wX, f_Y_endEpoch y u c (nI t) = some (wY, wC) ∧ f_X_ends x (nI t) = some wX ∧ wY 9 0 = nI E' ∧ wX 25 0 = nI E' ∧ E' ≤ E ∧ (l ≠ 3 → E' = E) ∧ hE t' e wC wX ∧ wX 22 0 = 0 ∧ (∀ k, k ≠ 9 → wY k = y k) ∧ (∀ k, k ≠ 11 → wC k = c k) ∧ (∀ k, k ≠ 22 → k ≠ 25 → k ≠ 36 → wX k = x k) := by
  have h4 : d 4 ≤ 10 := hB.2.2.2.2.1
  obtain ⟨e1, e2, e3, e4⟩ := he
  have hAd : ∀ i, i < 10 → (Wd i && prs d (x 29) ns (t + 1) i) = true → i < d 4 := fun i _ z => by
    simp only [Bool.and_eq_true] at z
    exact (prs_iff.mp z.2).1
  have eA : (y 8 0) &&& (y 7 0) = mz (fun i => Wd i && prs d (x 29) ns (t + 1) i) := by rw [hy8, hy7, mz_and]
  have loopX : ∀ (x' : Nat → Nat → Int32), (∀ k, k ≠ 22 → k ≠ 36 → x' k = x k) → x' 22 0 = 0 → ∃ wX, f_X_ends_26 (nI t) 600 0 x' = some wX ∧ wX 25 0 = nI (mn d (fun i => Wd i && prs d (x 29) ns (t + 1) i) E 10) ∧ (∀ k, k ≠ 25 → wX k = x' k) := by
    intro x' hx' h22
    by_cases hl3 : l = 3
    · obtain ⟨wX, g1, g2, g3⟩ := q_endX (ns := ns) (l := l) (E := E) hB ht hEb hl3 (x 29) (d 4) 600 0 x' (by omega) (by omega) (by rw [hx' 0 (by decide) (by decide)]; exact hM) (by rw [hx' 15 (by decide) (by decide)]; exact hx15) (by rw [hx' 17 (by decide) (by decide)]; exact hx17) (hx' 29 (by decide) (by decide)) (by rw [hx' 25 (by decide) (by decide)]; exact hx25)
      exact ⟨wX, g1, by rw [g2, mn_eq (hWE hl3) 10 (by omega)], g3⟩
    · refine ⟨x', ?_, ?_, fun _ _ => rfl⟩
      · rw [f_X_ends_26, hx' 0 (by decide) (by decide), hx' 15 (by decide) (by decide), hM 4, hx15]
        split
        · rfl
        · rw [if_neg (show ¬ nI l = 3 from eq_f (b := 3) hl3 (by omega) (by omega))]
      · rw [hx' 25 (by decide) (by decide), hx25, ← mn_end (i := 0) (by omega) (fun j _ hj => by rw [hWd0 hl3 j hj]; rfl)]
        rfl
  obtain ⟨wY, y1, y2, y3⟩ := q_endY (nI t) hB hC hEb hAd 10 600 0 y c (by omega) (by omega) hy9
  cases hc : cnt
  · subst hc
    obtain ⟨wX, x1, x2, x3⟩ := loopX (upF 22 0 x) (fun k h _ => upF_n h) rfl
    refine ⟨_, wY, c, wX, ?_, ?_, y2, x2, mn_le _, ?_, ?_, ?_, y3, fun _ _ => rfl, ?_⟩
    · unfold f_Y_endEpoch
      rw [hy12, if_pos (show bi false = 0 from rfl), eA]
      exact y1
    · unfold f_X_ends
      rw [hx39, if_pos (show bi false = 0 from rfl)]
      exact x1
    · intro hl3
      rw [← mn_end (i := 0) (by omega) (fun j _ hj => by rw [hWd0 hl3 j hj]; rfl)]
      rfl
    · refine ⟨e1, ?_, e3, ?_⟩
      · rw [x3 38 (by decide)]; exact e2
      · rw [x3 35 (by decide), x3 36 (by decide), x3 37 (by decide)]; exact e4
    · rw [x3 22 (by decide)]; rfl
    · intro k k22 k25 k36; rw [x3 k k25, upF_n k22]
  · subst hc
    have he1 := hce rfl
    obtain ⟨q, rfl⟩ : ∃ q, e = q + 1 := ⟨e - 1, by omega⟩
    obtain ⟨wY, y1, y2, y3⟩ := q_endY (nI t) hB hC hEb hAd 10 600 0 y (upR 11 (upd (c 11) q (nI t)) c) (by omega) (by omega) hy9
    obtain ⟨wX, x1, x2, x3⟩ := loopX (upR 36 (upd (x 36) q (nI t)) (upF 22 0 x)) (fun k h h2 => by rw [upR_n h2, upF_n h]) rfl
    refine ⟨_, wY, upR 11 (upd (c 11) q (nI t)) c, wX, ?_, ?_, y2, x2, mn_le _, ?_, ?_, ?_, y3, ?_, ?_⟩
    · unfold f_Y_endEpoch
      rw [hy12, if_neg (by decide), eA, e1, pu_s1, mkPut_ok (by omega) (by omega)]
      exact y1
    · unfold f_X_ends
      rw [hx39, if_neg (by decide)]
      show gI ((x 38 0) - 1) 200 _ = _
      rw [e2, pu_s1, gI_ok (by omega) (by omega), pu_cl (by omega)]
      exact x1
    · intro hl3
      rw [← mn_end (i := 0) (by omega) (fun j _ hj => by rw [hWd0 hl3 j hj]; rfl)]
      rfl
    · refine ⟨e1, ?_, e3, ?_⟩
      · rw [x3 38 (by decide)]; exact e2
      · rw [x3 35 (by decide), x3 36 (by decide), x3 37 (by decide)]
        intro k hk
        show c 10 k = x 35 k ∧ upd (c 11) q (nI t) k = upd (x 36) q (nI t) k ∧ c 12 k = x 37 k
        obtain ⟨z1, z2, z3⟩ := e4 k hk
        refine ⟨z1, ?_, z3⟩
        by_cases z : k = q
        · subst z; rw [upd_s, upd_s]
        · rw [upd_n z, upd_n z]; exact z2
    · rw [x3 22 (by decide)]; rfl
    · intro k hk; exact upR_n hk
    · intro k k22 k25 k36; rw [x3 k k25, upR_n k36, upF_n k22]
