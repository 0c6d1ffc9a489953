/-! pure: a slot by groups -/
def hGx (d : Nat → Nat) (l T g z : Nat) (P : Nat → Bool) (y s c x : Nat → Nat → Int32) : Prop := ∃ (Gm : Nat → Nat → Bool) (Ga Gb : Nat → Nat) (E : Nat) (Wd : Nat → Bool) (f : Bool) (w : Nat) (cnt : Bool) (e : Nat), hS g Gm Ga Gb s x ∧ hW d l g Gm Ga Gb ∧ hP g Gm P ∧ hD g Gm ∧ x 21 0 = nI g ∧ (y 9 0 = nI E ∧ x 25 0 = nI E ∧ (l ≠ 3 → E = 0) ∧ E ≤ 16 * T ∧ y 8 0 = mz Wd ∧ (l ≠ 3 → ∀ i, i < 10 → Wd i = false) ∧ (l = 3 → ∀ i, i < 10 → P i = true → Wd i = false → E ≤ mo d i)) ∧ (y 10 0 = bi f ∧ x 23 0 = bi f ∧ (f = true → w ≤ 9 ∧ y 11 0 = nI w ∧ x 24 0 = nI w ∧ 2 ≤ g)) ∧ (0 < z → y 12 0 = bi cnt ∧ x 39 0 = bi cnt ∧ (cnt = true → 1 ≤ e)) ∧ hE T e c x
theorem q_fin {d : Nat → Nat} {u y s c x : Nat → Nat → Int32} {t l g : Nat} {ns : Int32} (hB : mk_BD d) (hC : mk_CQ u d) (hM : mk_MP (x 0) d) (ht : t < 200) (hl : l ≤ 3) (hg : g ≤ 201) (hx15 : x 15 0 = nI l) (hx17 : x 17 0 = ns) (hx22 : x 22 0 = 1) (hy7 : y 7 0 = mz (prs d (x 29) ns (t + 1))) (h : hGx d l (t + 1) g 1 (prs d (x 29) ns (t + 1)) y s c x) : ∃ wY wC wX, f_Y_playByGroups_115 u (nI t) y s c = some (wY, s, wC) ∧ f_X_goesByGroups_150 (nI t) x = some wX ∧ hGx d l (t + 1) g g (prs d (x 29) ns (t + 1)) wY s wC wX ∧ wX 22 0 = (if g = 0 then 0 else 1) ∧ wC 3 = upd (c 3) t (nI g) ∧ wX 33 = upd (x 33) t (nI g) ∧ (∀ k, k ≠ 9 → wY k = y k) ∧ (∀ k, k ≠ 3 → k ≠ 11 → wC k = c k) ∧ (∀ k, k ≠ 22 → k ≠ 25 → k ≠ 33 → k ≠ 36 → wX k = x k) := by
  obtain ⟨Gm, Ga, Gb, E, Wd, f, w, cnt, e, h1, h2, h3, h4, h5, ⟨h6, h7, h8, h9, h10, h11, h12⟩, ⟨h13, h14, h15⟩, h16, h17⟩ := h
  obtain ⟨k1, k2, k3⟩ := h16 (by omega)
  have hs3 := h1.1
  by_cases hg0 : g = 0
  · subst hg0
    have he := h17.2.2.1
    obtain ⟨E', wY, wC, wX, f1, f2, f3, f4, f5, f6, f7, f8, f9, f10, f11⟩ := q_end (u := u) (x := upR 33 (upd (x 33) t (nI 0)) x) (ns := ns) (l := l) (t' := t + 1) hB hC hM ht hl hx15 hx17 hy7 h6 h7 (by omega) h10 h11 h12 k1 k2 k3 (by omega) h17
    refine ⟨wY, upR 3 (upd (wC 3) t (nI 0)) wC, wX, ?_, ?_, ⟨Gm, Ga, Gb, E', Wd, f, w, cnt, e, ?_, h2, h3, h4, ?_, ⟨?_, f4, ?_, by omega, ?_, h11, ?_⟩, ⟨?_, ?_, ?_⟩, ?_, ?_⟩, ?_, ?_, ?_, f9, ?_, ?_⟩
    · unfold f_Y_playByGroups_115
      rw [hs3, if_pos (show nI 0 = 0 from rfl), f1, b2_k]
      unfold f_Y_playByGroups_130
      rw [hs3, mkPut_ok ht (by omega)]
    · unfold f_X_goesByGroups_150
      rw [gI_ok ht (by omega), h5, if_pos (show nI 0 = 0 from rfl), pu_cl (by omega), f2, b1_k]
    · refine ⟨hs3, fun j hj => by omega⟩
    · rw [f11 21 (by decide) (by decide) (by decide)]; exact h5
    · exact f3
    · intro z; rw [f6 z]; exact h8 z
    · rw [f9 8 (by decide)]; exact h10
    · intro z i hi a b
      have := h12 z i hi a b
      omega
    · rw [f9 10 (by decide)]; exact h13
    · rw [f11 23 (by decide) (by decide) (by decide)]; exact h14
    · intro z
      have := (h15 z).2.2.2
      omega
    · intro z; omega
    · obtain ⟨z1, z2, z3, z4⟩ := f7
      exact ⟨z1, z2, z3, z4⟩
    · rw [f8, if_pos rfl]
    · rw [upR_s, f10 3 (by decide)]
    · rw [f11 33 (by decide) (by decide) (by decide), upR_s]
    · intro k k3 k11; rw [upR_n k3, f10 k k11]
    · intro k k22 k25 k33 k36; rw [f11 k k22 k25 k36, upR_n k33]
  · refine ⟨y, upR 3 (upd (c 3) t (nI g)) c, upR 33 (upd (x 33) t (nI g)) x, ?_, ?_, ⟨Gm, Ga, Gb, E, Wd, f, w, cnt, e, h1, h2, h3, h4, h5, ⟨h6, h7, h8, h9, h10, h11, h12⟩, ⟨h13, h14, h15⟩, fun _ => ⟨k1, k2, k3⟩, h17⟩, ?_, upR_s, upR_s, fun _ _ => rfl, fun k k3 _ => upR_n k3, fun k _ _ k33 _ => upR_n k33⟩
    · unfold f_Y_playByGroups_115
      rw [hs3, if_neg (eq_f0 hg0 (by omega))]
      unfold f_Y_playByGroups_130
      rw [hs3, mkPut_ok ht (by omega)]
    · unfold f_X_goesByGroups_150
      rw [gI_ok ht (by omega), h5, if_neg (eq_f0 hg0 (by omega)), pu_cl (by omega)]
    · rw [if_neg hg0]; exact hx22
theorem q_prsD {d : Nat → Nat} {f f' : Nat → Int32} {ns : Int32} {t T : Nat} {D : Nat → Bool} (ht : t < 200) (h : ∀ i, i < d 4 → f' i = if D i then nI t else f i) (i : Nat) : prs d f' ns T i = (prs d f ns T i && !D i) := by
  by_cases hi4 : i < d 4
  · unfold prs
    rw [h i hi4]
    cases hD : D i
    · simp
    · simp
      intro _ _ _
      exact pu_nm1 (by omega)
  · unfold prs; simp [hi4]
