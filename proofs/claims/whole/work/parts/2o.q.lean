/-! pure: done, behind -/
theorem cg_last {f : Nat → Int32} : ∀ t, 0 < cg f t → ∃ u, u < t ∧ ¬ f u = -1 ∧ cg f u + 1 = cg f t ∧ ∀ v, v < t → ¬ f v = -1 → v ≤ u
  | 0, h => by rw [cg] at h; omega
  | t + 1, h => by
    by_cases q : f t = -1
    · have e : cg f (t + 1) = cg f t := by rw [cg, if_pos q]; rfl
      rw [e] at h ⊢
      obtain ⟨u, h1, h2, h3, h4⟩ := cg_last t h
      refine ⟨u, by omega, h2, h3, fun v hv hn => ?_⟩
      rcases Nat.lt_or_ge v t with z | z
      · exact h4 v z hn
      · obtain rfl : v = t := by omega
        exact absurd q hn
    · exact ⟨t, by omega, q, by rw [cg, if_neg q], fun v hv _ => by omega⟩
theorem q_lastA {d : Nat → Nat} {x : Nat → Nat → Int32} (h4 : d 4 ≤ 10) (hM : mk_MP (x 0) d) (hne : ¬ x 40 0 = nI (d 4)) : ∀ k n i v, i + k = d 4 → k < n → f_X_lastOf_4 x n v (nI i) = some (-1)
  | 0, n, i, v, hk, hn => by
    obtain ⟨n, rfl, hn'⟩ := q_fu hn
    rw [f_X_lastOf_4, hM 4, if_pos (le_t (by omega) (by omega)), if_neg hne]
  | k + 1, n, i, v, hk, hn => by
    obtain ⟨n, rfl, hn'⟩ := q_fu hn
    rw [f_X_lastOf_4, hM 4, if_neg (le_f (by omega) (by omega)), gI_ok (by omega) (by omega), pu_cl (by omega), pu_one]
    exact q_lastA h4 hM hne k n (i + 1) _ (by omega) (by omega)
theorem q_lastB {d : Nat → Nat} {x : Nat → Nat → Int32} {us is : Nat} (h4 : d 4 ≤ 10) (hM : mk_MP (x 0) d) (he : x 40 0 = nI (d 4)) (hus : us < 200) (his : is < d 4) (hi : x 29 is = nI us) (hall : ∀ i, i < d 4 → ∃ w, w ≤ us ∧ x 29 i = nI w) : ∀ k n i v, i + k = d 4 → k < n → (v = -1 ∨ ∃ w, w ≤ us ∧ v = nI w) → (is < i → v = nI us) → f_X_lastOf_4 x n v (nI i) = some (nI us)
  | 0, n, i, v, hk, hn, hv, hd => by
    obtain ⟨n, rfl, hn'⟩ := q_fu hn
    rw [f_X_lastOf_4, hM 4, if_pos (le_t (by omega) (by omega)), if_pos he, hd (by omega)]
  | k + 1, n, i, v, hk, hn, hv, hd => by
    obtain ⟨n, rfl, hn'⟩ := q_fu hn
    obtain ⟨w, hw, ew⟩ := hall i (by omega)
    rw [f_X_lastOf_4, hM 4, if_neg (le_f (by omega) (by omega)), gI_ok (by omega) (by omega), pu_cl (by omega), pu_one, ew]
    refine q_lastB h4 hM he hus his hi hall k n (i + 1) _ (by omega) (by omega) ?_ ?_
    · split
      · exact Or.inr ⟨w, hw, rfl⟩
      · exact hv
    · intro hlt
      by_cases z : is = i
      · subst z
        rw [hi] at ew
        have : us = w := pu_inj (by omega) (by omega) ew
        subst this
        by_cases q : v < nI us
        · rw [if_pos q]
        · rw [if_neg q]
          rcases hv with rfl | ⟨w', hw', rfl⟩
          · exfalso
            apply q
            rw [Int32.lt_iff_toInt_lt, nI_toInt (by omega)]
            have h2 : (-1 : Int32).toInt = -1 := rfl
            omega
          · rw [pu_lt (by omega) (by omega)] at q
            rw [show w' = us by omega]
      · have e := hd (by omega)
        rw [e, if_neg (lt_f hw (by omega))]
theorem q_last {d : Nat → Nat} {c x : Nat → Nat → Int32} (hB : mk_BD d) (hM : mk_MP (x 0) d) (h : hA d (d 1) c x) : ∃ r, f_C_lastSlot c (nI (d 4)) = some r ∧ f_X_lastOf x = some r := by
  have h4 : d 4 ≤ 10 := hB.2.2.2.2.1
  have h1 : d 1 ≤ 200 := hB.2.1
  obtain ⟨a1, a2, a3, a4, a5, a6, a7, a8⟩ := h
  unfold f_C_lastSlot f_X_lastOf
  rw [a4, show (0 : Int32) = nI 0 from rfl]
  by_cases z0 : d 4 = 0
  · refine ⟨-1, by rw [if_pos (by rw [z0])], ?_⟩
    rw [f_X_lastOf_4, hM 4, if_pos (le_t (by omega) (by omega))]
    split <;> rfl
  rw [if_neg (eq_f z0 (by omega) (by omega))]
  by_cases z : cg (x 32) (d 1) = d 4
  · obtain ⟨us, l1, l2, l3, l4⟩ := cg_last (f := x 32) (d 1) (by omega)
    rcases a7 us l1 with y | ⟨is, y1, y2, y3, y4⟩
    · exact absurd y l2
    have hcu : cu (x 29) (d 4) = 0 := by omega
    refine ⟨nI us, ?_, ?_⟩
    · rw [if_pos (le_t (by omega) (by omega)), ← l3, pu_s1, mkAt_ok (by omega) (by omega), y4, mkAt_ok (by omega) (by omega), (a3 is y1).1, y3]
    · refine q_lastB (us := us) (is := is) h4 hM (by rw [a5, z]) (by omega) y1 y3 (fun i hi => ?_) (d 4) 600 0 _ (by omega) (by omega) (Or.inl rfl) (by omega)
      rcases a8 i hi with w | ⟨u, w1, w2, w3⟩
      · exact absurd w (cu_none _ hcu i hi)
      · exact ⟨u, l4 u w1 (by rw [w3]; exact pu_nm1 (by omega)), w2⟩
  · refine ⟨-1, ?_, ?_⟩
    · rw [if_neg (le_f (by omega) (by omega))]
    · exact q_lastA h4 hM (by rw [a5]; exact eq_f z (by omega) (by omega)) (d 4) 600 0 _ (by omega) (by omega)
theorem s_done {uR uT uD uY uP uS uC uO uA uX : Nat → Nat → Int32}  (h : mk_Inv uR uT uD uY uP uS uC uO uA uX) : ∃ (r : Int32) (wX : Nat → Nat → Int32), f_Z_done uP uC = some r ∧ f_X_done uX = some (r, wX) ∧ mk_Inv uR uT uD uY uP uS uC uO uA wX := by
  unfold f_Z_done f_X_done
  rcases q_std h with ⟨d, wX, h1, h2, h3, z0, e1, e2, r1, ⟨hA', _⟩, r3, hw⟩ | ⟨e1, e2⟩
  · have hM : mk_MP (wX 0) d := by rw [r3 0 (by omega)]; exact h3
    obtain ⟨r, g1, g2⟩ := q_last h1 hM hA'
    rw [e1, e2, b1_k, b1_k, if_neg one0, if_neg one0, r1, b1_k, h2.2.2.2.2.2.1, g1, g2]
    exact ⟨r, wX, rfl, rfl, hw⟩
  · rw [e1, e2, b1_k, b1_k, if_pos rfl, if_pos rfl]
    exact ⟨_, uX, rfl, rfl, h⟩
