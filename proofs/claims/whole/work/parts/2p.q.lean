/-! pure: behind, by, without, alone -/
theorem q_behind_61 {d : Nat → Nat} {u c x : Nat → Nat → Int32} (p : Int32) (h1 : d 1 ≤ 200) (h2 : ∀ v, v < d 1 → c 2 v = x 32 v) (L : Nat) (hL : L < d 1) : ∀ k n t v, t + k = L + 1 → k < n → ∃ r, f_Z_behind_61 u c p n (nI L) v (nI t) = some r ∧ f_X_behind_56 p n (nI L) v (nI t) x = some (r, x)
  | 0, n, t, v, hk, hn => by
    obtain ⟨n, rfl, hn'⟩ := q_fu hn
    rw [f_Z_behind_61, f_X_behind_56, if_pos (lt_t (by omega) (by omega)), if_pos (lt_t (by omega) (by omega))]
    exact ⟨_, rfl, rfl⟩
  | k + 1, n, t, v, hk, hn => by
    obtain ⟨n, rfl, hn'⟩ := q_fu hn
    rw [f_Z_behind_61, f_X_behind_56, if_neg (lt_f (by omega) (by omega)), if_neg (lt_f (by omega) (by omega)), gI_ok (by omega) (by omega), pu_cl (by omega), mkAt_ok (by omega) (by omega), h2 t (by omega), pu_one, q_a0]
    by_cases q : x 32 t = -1
    · rw [if_pos q, if_pos q]; exact q_behind_61 p h1 h2 L hL k n (t + 1) v (by omega) (by omega)
    rw [if_neg q, if_neg q]
    by_cases q2 : x 32 t = p
    · rw [if_pos q2, if_pos q2]; exact q_behind_61 p h1 h2 L hL k n (t + 1) v (by omega) (by omega)
    · rw [if_neg q2, if_neg q2]; exact q_behind_61 p h1 h2 L hL k n (t + 1) _ (by omega) (by omega)
theorem q_behind_L {d : Nat → Nat} {u c x : Nat → Nat → Int32} (p : Int32) (h1 : d 1 ≤ 200) (h2 : ∀ v, v < d 1 → c 2 v = x 32 v) (L m : Nat) (hL : L < d 1) (hm : m < 200) : ∃ r, f_Z_behind_61 u c p 600 (nI L) 0 (nI m) = some r ∧ f_X_behind_56 p 600 (nI L) 0 (nI m) x = some (r, x) := by
  by_cases z : m ≤ L + 1
  · exact q_behind_61 p h1 h2 L hL (L + 1 - m) 600 m 0 (by omega) (by omega)
  · rw [f_Z_behind_61, f_X_behind_56, if_pos (lt_t (by omega) (by omega)), if_pos (lt_t (by omega) (by omega))]
    exact ⟨_, rfl, rfl⟩
theorem s_behind {uR uT uD uY uP uS uC uO uA uX : Nat → Nat → Int32}  (h : mk_Inv uR uT uD uY uP uS uC uO uA uX) (p1 : Int32) : ∃ (r : Int32) (wX : Nat → Nat → Int32), f_Z_behind uP uC p1 = some r ∧ f_X_behind uX p1 = some (r, wX) ∧ mk_Inv uR uT uD uY uP uS uC uO uA wX := by
  unfold f_Z_behind f_X_behind
  rcases q_sndr h p1 with ⟨d, j, wX, h1, h2, h3, z0, hj, rfl, e1, e2, r1, ⟨⟨f1, _, f3, _, _, _, _, f8⟩, _⟩, r3, hw⟩ | ⟨e1, e2⟩
  · have h4 : d 4 ≤ 10 := h1.2.2.2.2.1
    have hd1 : d 1 ≤ 200 := h1.2.1
    have hM : mk_MP (wX 0) d := by rw [r3 0 (by omega)]; exact h3
    obtain ⟨b1', _⟩ := h1.2.2.2.2.2.2.2.2.1 j hj
    have h32 : ∀ v, v < d 1 → uC 2 v = wX 32 v := fun v hv => (f1 v hv).2.2.1
    unfold f_Z_behind_44
    rw [e1, e2, b1_k, b1_k, if_neg one0, if_neg one0, r1, b1_k, gI_ok (by omega) (by omega), pu_cl (by omega), mkAt_ok (by omega) (by omega), mkAt_ok (by omega) (by omega), (f3 j hj).1, (h2.2.2.2.2.2.2.2.1 j hj).1, q_p7, gI_ok (by omega) (by omega), gI_ok (by omega) (by omega), pu_cl (by omega), hM, hM, h2.2.1]
    rcases f8 j hj with y | ⟨w, y1, y2, y3⟩
    · rw [if_pos y, if_pos y, show nI (d 1) - 1 = nI (d 1 - 1) from pk_sub (b := 1) (by omega)]
      obtain ⟨r, g1, g2⟩ := q_behind_L (u := uP) (nI j) hd1 h32 (d 1 - 1) (d (7 + j)) (by omega) b1'
      exact ⟨r, wX, g1, g2, hw⟩
    · have hn : ¬ wX 29 j = -1 := by rw [y2]; exact pu_nm1 (by omega)
      rw [if_neg hn, if_neg hn, y2]
      obtain ⟨r, g1, g2⟩ := q_behind_L (u := uP) (nI j) hd1 h32 w (d (7 + j)) y1 b1'
      exact ⟨r, wX, g1, g2, hw⟩
  · rw [e1, e2, b1_k, b1_k, if_pos rfl, if_pos rfl]
    exact ⟨_, uX, rfl, rfl, h⟩
