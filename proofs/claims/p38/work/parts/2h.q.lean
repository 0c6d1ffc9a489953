/-! pure: a run from its start -/
def hFin (d : Nat → Nat) (c x : Nat → Nat → Int32) : Prop := hA d (d 1) c x ∧ (∃ tk : Nat → Nat, (∀ i, tk i ≤ d 1) ∧ ∀ i, i < d 4 → c 7 i = nI (tk i) ∧ x 27 i = nI (tk i)) ∧ (∀ v, v < d 1 → c 3 v = x 33 v ∧ c 4 v = x 34 v) ∧ (∃ e, hE (d 1) e c x)
theorem q_runsBy_53 (a b e : Int32) : ∀ k n i (x : Nat → Nat → Int32), i + k = 10 → k < n → (∀ j, j < i → x 27 j = 0 ∧ x 28 j = 0 ∧ x 29 j = -1) → ∃ wX, f_X_runsBy_53 a b e n (nI i) x = f_X_runsBy_93 a b e 600 0 wX ∧ (∀ j, j < 10 → wX 27 j = 0 ∧ wX 28 j = 0 ∧ wX 29 j = -1) ∧ (∀ k, k ≠ 27 → k ≠ 28 → k ≠ 29 → wX k = x k)
  | 0, n, i, x, hk, hn, h => by
    obtain ⟨n, rfl, hn'⟩ := q_fu hn
    obtain rfl : i = 10 := by omega
    exact ⟨x, by rw [f_X_runsBy_53, if_pos (by decide)], h, fun _ _ _ _ => rfl⟩
  | k + 1, n, i, x, hk, hn, h => by
    obtain ⟨n, rfl, hn'⟩ := q_fu hn
    rw [f_X_runsBy_53, if_neg (by rw [q_le10 (by omega)]; omega), gI_ok (by omega) (by omega), pu_cl (by omega), pu_one]
    obtain ⟨wX, g1, g2, g3⟩ := q_runsBy_53 a b e k n (i + 1) (upR 29 (upd (x 29) i (-1)) (upR 28 (upd (x 28) i 0) (upR 27 (upd (x 27) i 0) x))) (by omega) (by omega) (by
      intro j hj
      show upd (x 27) i 0 j = 0 ∧ upd (x 28) i 0 j = 0 ∧ upd (x 29) i (-1) j = -1
      by_cases q : j = i
      · subst q; rw [upd_s, upd_s, upd_s]; exact ⟨rfl, rfl, rfl⟩
      · rw [upd_n q, upd_n q, upd_n q]; exact h j (by omega))
    exact ⟨wX, g1, g2, fun k a b c => by rw [g3 k a b c, upR_n c, upR_n b, upR_n a]⟩
theorem q_run {d : Nat → Nat} {u y s c x : Nat → Nat → Int32} {l : Nat} (ns : Int32) (hB : mk_BD d) (hC : mk_CQ u d) (hM : mk_MP (x 0) d) (hl : l ≤ 3) : ∃ wY wS wC wX, f_Y_run y u s c (nI l) (-1) ns = some (wC 9 0, wY, wS, wC) ∧ f_X_runsBy x (nI l) (-1) ns = some wX ∧ hFin d wC wX ∧ (∀ k, k < 15 → wX k = x k) ∧ (l = 2 → ns = -1 → hK2 d (d 1) wY wC (wX 29) (wX 30)) := by
  have h1 : d 1 ≤ 200 := hB.2.1
  have h4 : d 4 ≤ 10 := hB.2.2.2.2.1
  obtain ⟨vX, g1, g2, g3⟩ := q_runsBy_53 (nI l) (-1) ns 10 600 0 (upF 40 0 (upF 38 0 (upF 25 0 (upF 24 0 (upF 23 0 (upF 22 0 (upF 21 0 (upF 17 ns (upF 16 (-1) (upF 15 (nI l) x)))))))))) (by omega) (by omega) (fun j hj => by omega)
  have fF : ∀ n v (j : Nat), j < n → mkFill n (c 0) v j = v := fun n v j hj => by unfold mkFill; rw [if_pos hj]
  have hp0 : ∀ i, i < 10 → prs d (vX 29) ns 0 i = false := fun i _ => by unfold prs; simp
  have key : hR d l 0 ns x (upR 2 (mkFill 10 (y 2) 0) (upF 12 0 (upF 11 0 (upF 10 0 (upF 9 0 (upF 8 0 (upF 7 0 (upF 6 ns (upF 5 (-1) (upF 4 (nI l) y)))))))))) (upF 3 0 s) (upF 13 0 (upF 9 0 (upR 7 (mkFill 10 (c 7) 0) (upR 6 (mkFill 10 (c 6) 0) (upR 5 (mkFill 10 (c 5) (-1)) (upR 4 (mkFill 200 (c 4) 0) (upR 2 (mkFill 200 (c 2) (-1)) c))))))) vX := by
    refine ⟨⟨rfl, rfl, rfl, ?_, ?_, ?_, ?_⟩, ⟨?_, ?_, ?_, rfl, ?_, ?_, ?_, ?_, ⟨fun u hu => absurd hu (Nat.not_lt_zero u), fun i hi => (g2 i (by omega)).2.2⟩⟩, ?_, ⟨fun _ => 0, fun _ => Nat.le_refl _, ?_⟩, ?_, ?_, ?_, ⟨0, rfl, ?_, Nat.le_refl _, ?_⟩, fun _ _ => ⟨fun i hi => ⟨fun z => (by cases z), fun z => absurd (g2 i (by omega)).2.2 z⟩, fun i hi _ => (by show mkFill 10 (y 2) 0 i = nI 0; unfold mkFill; rw [if_pos (by omega)]; rfl), fun i hi => (by show mkFill 10 (c 7) 0 i = nI 0; unfold mkFill; rw [if_pos (by omega)]; rfl), fun v hv => absurd hv (Nat.not_lt_zero v), fun v hv => (by show mkFill 200 (c 4) 0 v = 0; unfold mkFill; rw [if_pos hv]), rfl⟩, ?_, ?_⟩
    · intro k hk
      rw [g3 k (by omega) (by omega) (by omega), upF_n (by omega), upF_n (by omega), upF_n (by omega), upF_n (by omega), upF_n (by omega), upF_n (by omega), upF_n (by omega), upF_n (by omega), upF_n (by omega), upF_n (by omega)]
    · rw [g3 15 (by decide) (by decide) (by decide)]; rfl
    · rw [g3 16 (by decide) (by decide) (by decide)]; rfl
    · rw [g3 17 (by decide) (by decide) (by decide)]; rfl
    · intro v hv; omega
    · intro v _ hv
      show mkFill 200 (c 2) (-1) v = -1
      unfold mkFill; rw [if_pos hv]
    · intro i hi
      show mkFill 10 (c 5) (-1) i = vX 29 i ∧ mkFill 10 (c 6) 0 i = nI 0
      unfold mkFill
      rw [if_pos (by omega), if_pos (by omega), (g2 i (by omega)).2.2]
      exact ⟨rfl, rfl⟩
    · rw [g3 40 (by decide) (by decide) (by decide)]; rfl
    · show 0 + _ = _
      rw [cu_all _ (fun i hi => (g2 i (by omega)).2.2)]; omega
    · intro v hv; omega
    · intro i hi; left; exact (g2 i (by omega)).2.2
    · show (0 : Int32) = _
      rw [← mz_0]; exact mz_congr (fun i hi => (hp0 i hi).symm)
    · intro i hi
      show mkFill 10 (c 7) 0 i = nI 0 ∧ vX 27 i = nI 0
      unfold mkFill
      rw [if_pos (by omega), (g2 i (by omega)).1]
      exact ⟨rfl, rfl⟩
    · intro i hi _; exact (g2 i (by omega)).2.2
    · intro v hv; omega
    · intro v _ hv
      show mkFill 200 (c 4) 0 v = 0
      unfold mkFill; rw [if_pos hv]
    · rw [g3 38 (by decide) (by decide) (by decide)]; rfl
    · intro k hk; omega
    · intro _
      refine ⟨fun _ => 0, fun i hi _ => ⟨Nat.le_refl _, ?_, ?_⟩⟩
      · show mkFill 10 (y 2) 0 i = nI 0
        unfold mkFill; rw [if_pos (by omega)]; rfl
      · rw [(g2 i (by omega)).2.1]; rfl
    · intro _
      refine ⟨0, by omega, ?_, fun _ _ => false, fun _ => 0, fun _ => 0, 0, fun _ => false, false, 0, false, 0, ⟨rfl, fun j hj => by omega⟩, fun j hj => by omega, fun j hj => by omega, fun j k hj => by omega, ?_, ⟨rfl, ?_, fun _ => rfl, by omega, rfl, fun _ _ _ => rfl, fun _ i _ a _ => ?_⟩, ⟨rfl, ?_, by intro z; cases z⟩, fun z => by omega, rfl, ?_, Nat.le_refl _, fun k hk => by omega⟩
      · rw [g3 22 (by decide) (by decide) (by decide)]; rfl
      · rw [g3 21 (by decide) (by decide) (by decide)]; rfl
      · rw [g3 25 (by decide) (by decide) (by decide)]; rfl
      · have := (prs_iff.mp a).2.2.1; omega
      · rw [g3 23 (by decide) (by decide) (by decide)]; rfl
      · rw [g3 38 (by decide) (by decide) (by decide)]; rfl
  obtain ⟨wY, wS, wC, wX, r1, r2, r3⟩ := q_run_77 hB hC hM hl (nI l) (-1) ns (nI l) (-1) ns (d 1) 600 0 _ _ _ _ (by omega) (by omega) key
  obtain ⟨⟨_, _, _, z1, _⟩, z2, _, z3, _, z4, _, z5, z6, _⟩ := r3
  refine ⟨wY, wS, wC, wX, ?_, ?_, ⟨z2, z3, z4, z5⟩, z1, z6⟩
  · unfold f_Y_run f_C_clear
    rw [b1_k]
    exact r1
  · unfold f_X_runsBy
    exact g1.trans r2
