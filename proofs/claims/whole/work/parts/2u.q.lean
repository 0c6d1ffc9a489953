/-! pure: feed -/
def by_ (p : Int32) (k : Nat) : Int32 := nI (p.toBitVec.toNat / 2 ^ (24 - 8 * k) % 256)
theorem q_shb (p s : Int32) (k : Nat) (hk : k = 24 ∨ k = 16 ∨ k = 8 ∨ k = 0) (hs : (s.toBitVec.smod 32).toNat = k) : (p >>> s) &&& 255 = nI (p.toBitVec.toNat / 2 ^ k % 256) := by
  rw [pk_and (p >>> s) 8 (m := 255) rfl]
  have h1 := pk_shr p s k hs
  have e1 : ∀ x : Int32, x.toInt = if 2 * x.toBitVec.toNat < 2 ^ 32 then (x.toBitVec.toNat : Int) else (x.toBitVec.toNat : Int) - (2 ^ 32 : Nat) := fun x => BitVec.toInt_eq_toNat_cond x.toBitVec
  have b1 : p.toBitVec.toNat < 2 ^ 32 := p.toBitVec.isLt
  have b2 : (p >>> s).toBitVec.toNat < 2 ^ 32 := (p >>> s).toBitVec.isLt
  rw [Int.shiftRight_eq_div_pow, e1 p, e1 (p >>> s)] at h1
  generalize (p >>> s).toBitVec.toNat = U at *
  generalize p.toBitVec.toNat = T at *
  congr 1
  rcases hk with rfl | rfl | rfl | rfl
  · split at h1 <;> split at h1 <;> omega
  · split at h1 <;> split at h1 <;> omega
  · split at h1 <;> split at h1 <;> omega
  · split at h1 <;> split at h1 <;> omega
theorem q_ap1 (p v : Int32) {n tl : Nat} {u : Nat → Nat → Int32} (h : u 1 0 = nI tl) (ht : tl < 500) (hv : ¬ v < 0) : f_T_append_3 p (n + 1) v u = f_T_append_3 p n (v + (-8)) (upF 1 (nI (tl + 1)) (upR 0 (upd (u 0) tl ((p >>> (v &&& 31)) &&& 255)) u)) := by
  rw [f_T_append_3, if_neg hv, h, mkPut_ok ht (by omega), pu_one]
theorem q_append (p : Int32) {tl : Nat} {u : Nat → Nat → Int32} (h : u 1 0 = nI tl) (ht : tl + 4 ≤ 500) : ∃ w, f_T_append u p = some w ∧ w 1 0 = nI (tl + 4) ∧ (∀ j, j < tl → w 0 j = u 0 j) ∧ (∀ k, k < 4 → w 0 (tl + k) = by_ p k) := by
  unfold f_T_append
  rw [q_ap1 p 24 h (by omega) (by decide), q_ap1 p (24 + (-8)) (tl := tl + 1) rfl (by omega) (by decide), q_ap1 p (24 + (-8) + (-8)) (tl := tl + 1 + 1) rfl (by omega) (by decide), q_ap1 p (24 + (-8) + (-8) + (-8)) (tl := tl + 1 + 1 + 1) rfl (by omega) (by decide), f_T_append_3, if_pos (by decide)]
  refine ⟨_, rfl, rfl, fun j hj => ?_, fun k hk => ?_⟩
  · show upd (upd (upd (upd (u 0) tl _) (tl + 1) _) (tl + 1 + 1) _) (tl + 1 + 1 + 1) _ j = _
    rw [upd_n (by omega), upd_n (by omega), upd_n (by omega), upd_n (by omega)]
  · show upd (upd (upd (upd (u 0) tl _) (tl + 1) _) (tl + 1 + 1) _) (tl + 1 + 1 + 1) _ (tl + k) = _
    unfold by_
    have hk' : k = 0 ∨ k = 1 ∨ k = 2 ∨ k = 3 := by omega
    rcases hk' with rfl | rfl | rfl | rfl
    · rw [upd_n (by omega), upd_n (by omega), upd_n (by omega), Nat.add_zero, upd_s]
      exact q_shb p _ 24 (by decide) (by decide)
    · rw [upd_n (by omega), upd_n (by omega), upd_s]
      exact q_shb p _ 16 (by decide) (by decide)
    · rw [upd_n (by omega), show tl + 2 = tl + 1 + 1 from rfl, upd_s]
      exact q_shb p _ 8 (by decide) (by decide)
    · rw [show tl + 3 = tl + 1 + 1 + 1 from rfl, upd_s]
      exact q_shb p _ 0 (by decide) (by decide)
theorem q_fd4 : ∀ i, i < 20 → nI i / 4 = nI (i / 4) ∧ (((24 - (8 * (nI i - nI i / 4 * 4)) : Int32).toUInt32 &&& Int32.toUInt32 31).toBitVec % 32).toNat = 24 - 8 * (i % 4) := by decide +kernel
theorem q_fedX (p1 p2 p3 p4 p5 : Int32) (fv : Nat → Int32) {tl : Nat} (ht : tl + 20 ≤ 500) : ∀ k n i (x : Nat → Nat → Int32), i + k = 20 → k < n → x 5 0 = nI tl → (∀ j, j < i → x 4 (tl + j) = by_ (fv (j / 4)) (j % 4)) → ∃ wX, f_X_feed_42 p1 p2 p3 p4 p5 n (nI i) x fv = some (nI (tl + 20), wX) ∧ wX 5 0 = nI (tl + 20) ∧ (∀ j, j < tl → wX 4 j = x 4 j) ∧ (∀ j, j < 20 → wX 4 (tl + j) = by_ (fv (j / 4)) (j % 4)) ∧ (∀ k, k ≠ 4 → k ≠ 5 → wX k = x k)
  | 0, n, i, x, hk, hn, h5, h4 => by
    obtain ⟨n, rfl, hn'⟩ := q_fu hn
    obtain rfl : i = 20 := by omega
    rw [f_X_feed_42, if_pos (by decide), h5, show nI tl + 20 = nI (tl + 20) from pu_add tl 20]
    refine ⟨_, rfl, rfl, fun j _ => rfl, h4, fun k _ b => upF_n b⟩
  | k + 1, n, i, x, hk, hn, h5, h4 => by
    obtain ⟨n, rfl, hn'⟩ := q_fu hn
    obtain ⟨e1, e2⟩ := q_fd4 i (by omega)
    have hi4 : i / 4 < 5 := by omega
    rw [f_X_feed_42, if_neg (show ¬ (20 : Int32) ≤ nI i from le_f (a := 20) (by omega) (by omega)), h5, pu_add, gI_ok (a := tl + i) (by omega) (by omega), pu_cl (a := tl + i) (by omega)]
    rw [show (gI (nI i / 4) 5 : Option (Int32 × (Nat → Nat → Int32)) → _) = id from by rw [e1]; funext z; exact gI_ok hi4 (by omega)]
    rw [show ((nI i / 4 : Int32)).toNatClampNeg = i / 4 from by rw [e1]; exact pu_cl (by omega)]
    rw [show ((fv (i / 4) : Int32).toUInt32 >>> (((24 - (8 * (nI i - nI i / 4 * 4))) : Int32).toUInt32 &&& Int32.toUInt32 31)).toInt32 &&& 255 = by_ (fv (i / 4)) (i % 4) from by
      rw [pk_and _ 8 (m := 255) rfl, pk_ushr _ _ _ e2]; rfl]
    rw [id, pu_one]
    obtain ⟨wX, g1, g2, g3, g4, g5⟩ := q_fedX p1 p2 p3 p4 p5 fv ht k n (i + 1) (upR 4 (upd (x 4) (tl + i) (by_ (fv (i / 4)) (i % 4))) x) (by omega) (by omega) h5 (by
      intro j hj
      show upd (x 4) (tl + i) _ (tl + j) = _
      by_cases q : j = i
      · subst q; rw [upd_s]
      · rw [upd_n (by omega)]; exact h4 j (by omega))
    refine ⟨wX, g1, g2, fun j hj => ?_, g4, fun k a b => by rw [g5 k a b, upR_n a]⟩
    rw [g3 j hj]
    show upd (x 4) (tl + i) _ j = _
    rw [upd_n (by omega)]
theorem s_feed {uR uT uD uY uP uS uC uO uA uX : Nat → Nat → Int32}  (h : mk_Inv uR uT uD uY uP uS uC uO uA uX) (p1 p2 p3 p4 p5 : Int32) : ∃ (r : Int32) (wT : Nat → Nat → Int32) (wX : Nat → Nat → Int32), f_Z_feed uT p1 p2 p3 p4 p5 = some (r, wT) ∧ f_X_feed uX p1 p2 p3 p4 p5 = some (r, wX) ∧ mk_Inv uR wT uD uY uP uS uC uO uA wX := by
  have h' := h
  obtain ⟨d, tl, a, D, h1, h2, h3, ⟨t0, t1, t2, t3⟩, h5, h6, h7, h8⟩ := h
  unfold f_Z_feed f_X_feed
  rw [t1, t2, show nI tl + 20 = nI (tl + 20) from pu_add tl 20]
  by_cases q : tl + 20 ≤ 500
  · rw [if_pos (show nI (tl + 20) ≤ 500 from le_t (b := 500) q (by omega)), if_pos (show nI tl ≤ 480 from le_t (b := 480) (by omega) (by omega))]
    obtain ⟨u1, a1, b1', c1, d1⟩ := q_append p1 t1 (by omega)
    obtain ⟨u2, a2, b2', c2, d2⟩ := q_append p2 b1' (by omega)
    obtain ⟨u3, a3, b3', c3, d3⟩ := q_append p3 b2' (by omega)
    obtain ⟨u4, a4, b4', c4, d4⟩ := q_append p4 b3' (by omega)
    obtain ⟨u5, a5, b5', c5, d5⟩ := q_append p5 b4' (by omega)
    rw [a1, b1_k, a2, b1_k, a3, b1_k, a4, b1_k, a5, b1_k]
    obtain ⟨wX, g1, g2, g3, g4, g5⟩ := q_fedX p1 p2 p3 p4 p5 (upd (upd (upd (upd (upd (fun _ => 0) 0 p1) 1 p2) 2 p3) 3 p4) 4 p5) q 20 600 0 uX (by omega) (by omega) t2 (by intro j hj; omega)
    have g1' : f_X_feed_42 p1 p2 p3 p4 p5 600 0 uX (upd (upd (upd (upd (upd (fun _ => 0) 0 p1) 1 p2) 2 p3) 3 p4) 4 p5) = some (nI (tl + 20), wX) := g1
    rw [g1', b5']
    refine ⟨_, u5, wX, rfl, rfl, d, tl + 20, a, D, h1, h2, ?_, ⟨by omega, b5', g2, ?_⟩, ?_, h6, mk_Ac_of h7 (g5 2 (by decide) (by decide)) (g5 3 (by decide) (by decide)), h8⟩
    · rw [g5 0 (by decide) (by decide)]; exact h3
    · intro j hj
      by_cases z : j < tl
      · rw [c5 j (by omega), c4 j (by omega), c3 j (by omega), c2 j (by omega), c1 j z, g3 j z]; exact t3 j z
      · obtain ⟨m, rfl⟩ : ∃ m, j = tl + m := ⟨j - tl, by omega⟩
        rw [g4 m (by omega)]
        by_cases z1 : m < 4
        · rw [c5 _ (by omega), c4 _ (by omega), c3 _ (by omega), c2 _ (by omega), d1 m z1, show m / 4 = 0 by omega, show m % 4 = m by omega]; rfl
        by_cases z2 : m < 8
        · rw [c5 _ (by omega), c4 _ (by omega), c3 _ (by omega), show tl + m = tl + 4 + (m - 4) by omega, d2 (m - 4) (by omega), show m / 4 = 1 by omega, show m % 4 = m - 4 by omega]; rfl
        by_cases z3 : m < 12
        · rw [c5 _ (by omega), c4 _ (by omega), show tl + m = tl + 4 + 4 + (m - 8) by omega, d3 (m - 8) (by omega), show m / 4 = 2 by omega, show m % 4 = m - 8 by omega]; rfl
        by_cases z4 : m < 16
        · rw [c5 _ (by omega), show tl + m = tl + 4 + 4 + 4 + (m - 12) by omega, d4 (m - 12) (by omega), show m / 4 = 3 by omega, show m % 4 = m - 12 by omega]; rfl
        · rw [show tl + m = tl + 4 + 4 + 4 + 4 + (m - 16) by omega, d5 (m - 16) (by omega), show m / 4 = 4 by omega, show m % 4 = m - 16 by omega]; rfl
    · rw [g5 6 (by decide) (by decide), g5 7 (by decide) (by decide)]; exact h5
  · rw [if_neg (show ¬ nI (tl + 20) ≤ 500 from le_f (b := 500) (by omega) (by omega)), if_neg (show ¬ nI tl ≤ 480 from le_f (b := 480) (by omega) (by omega))]
    exact ⟨_, uT, uX, rfl, rfl, h'⟩
