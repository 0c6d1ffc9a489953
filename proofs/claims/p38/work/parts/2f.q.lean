/-! pure: a slot by groups, from its beginning -/
theorem hEnd_of {d : Nat → Nat} {l t gm gm' : Nat} {ns : Int32} {y c x y0 c0 x0 wY wS wC wX : Nat → Nat → Int32} (h : hEnd d l t gm ns y c x wY wS wC wX) (hg : gm ≤ gm') (c3 : c 3 = c0 3) (c4 : c 4 = c0 4) (x29 : x 29 = x0 29) (x33 : x 33 = x0 33) (x34 : x 34 = x0 34) (hy : ∀ k, k < 7 → y k = y0 k) (hx : ∀ k, k < 18 → x k = x0 k) : hEnd d l t gm' ns y0 c0 x0 wY wS wC wX := by
  obtain ⟨g, tk, h1, h2, h3, h4, h5, h6, h7, h8, h9, h10, h11, h12⟩ := h
  rw [c3, x33] at h6
  rw [c4, x34] at h7
  rw [x29] at h10
  exact ⟨g, tk, by omega, h2, h3, h4, h5, h6, h7, h8, h9, h10, fun k hk => by rw [h11 k hk, hy k hk], fun k hk => by rw [h12 k hk, hx k hk]⟩
theorem hGx_of {d : Nat → Nat} {l T g z : Nat} {P : Nat → Bool} {y s c x y' c' x' : Nat → Nat → Int32} (h : hGx d l T g z P y s c x) (hy : ∀ k, k ≠ 7 → y' k = y k) (hc : c' = c) (hx : ∀ k, k ≠ 26 → k ≠ 34 → x' k = x k) : hGx d l T g z P y' s c' x' := by
  subst hc
  obtain ⟨Gm, Ga, Gb, E, Wd, f, w, cnt, e, h1, h2, h3, h4, h5, ⟨h6, h7, h8, h9, h10, h11, h12⟩, ⟨h13, h14, h15⟩, h16, h17⟩ := h
  refine ⟨Gm, Ga, Gb, E, Wd, f, w, cnt, e, hS_of h1 (hx 18 (by decide) (by decide)) (hx 19 (by decide) (by decide)) (hx 20 (by decide) (by decide)), h2, h3, h4, ?_, ⟨?_, ?_, h8, h9, ?_, h11, h12⟩, ⟨?_, ?_, ?_⟩, ?_, hE_of h17 rfl rfl rfl rfl (hx 35 (by decide) (by decide)) (hx 36 (by decide) (by decide)) (hx 37 (by decide) (by decide)) (hx 38 (by decide) (by decide))⟩
  · rw [hx 21 (by decide) (by decide)]; exact h5
  · rw [hy 9 (by decide)]; exact h6
  · rw [hx 25 (by decide) (by decide)]; exact h7
  · rw [hy 8 (by decide)]; exact h10
  · rw [hy 10 (by decide)]; exact h13
  · rw [hx 23 (by decide) (by decide)]; exact h14
  · rw [hy 11 (by decide), hx 24 (by decide) (by decide)]; exact h15
  · rw [hy 12 (by decide), hx 39 (by decide) (by decide)]; exact h16
theorem hGx_wel {d : Nat → Nat} {l t g z : Nat} {ns : Int32} {fq : Nat → Int32} {y s c x : Nat → Nat → Int32} (h : hGx d l t g z (prs d fq ns t) y s c x) : hGx d l t g z (prs d fq ns (t + 1)) y s c x := by
  obtain ⟨Gm, Ga, Gb, E, Wd, f, w, cnt, e, h1, h2, h3, h4, h5, ⟨h6, h7, h8, h9, h10, h11, h12⟩, hf, h16, h17⟩ := h
  refine ⟨Gm, Ga, Gb, E, Wd, f, w, cnt, e, h1, h2, ?_, h4, h5, ⟨h6, h7, h8, h9, h10, h11, ?_⟩, hf, h16, h17⟩
  · intro j hj i hi a
    have := prs_iff.mp (h3 j hj i hi a)
    exact prs_iff.mpr ⟨this.1, this.2.1, by omega, this.2.2.2⟩
  · intro hl i hi a b
    obtain ⟨p1, p2, p3, p4⟩ := prs_iff.mp a
    rcases Nat.lt_or_ge (d (7 + i)) t with q | q
    · exact h12 hl i hi (prs_iff.mpr ⟨p1, p2, q, p4⟩) b
    · unfold mo; omega
theorem q_groups {d : Nat → Nat} {u y s c x : Nat → Nat → Int32} {ns : Int32} {t l g : Nat} {tk : Nat → Nat} (hB : mk_BD d) (hC : mk_CQ u d) (hM : mk_MP (x 0) d) (ht : t < 200) (hl : l ≤ 3) (hl2 : l ≠ 2) (hg : g ≤ t + 1) (hy4 : y 4 0 = nI l) (hy5 : y 5 0 = (-1)) (hx15 : x 15 0 = nI l) (hx16 : x 16 0 = (-1)) (hx17 : x 17 0 = ns) (hx22 : x 22 0 = if g = 0 then 0 else 1) (hy7 : y 7 0 = mz (prs d (x 29) ns (t + 1))) (hx26 : x 26 0 = mz (prs d (x 29) ns (t + 1))) (hA' : hA d t c x) (h : hGx d l t g g (prs d (x 29) ns (t + 1)) y s c x) (htk : ∀ i, tk i ≤ t) (ht7 : ∀ i, i < d 4 → c 7 i = nI (tk i) ∧ x 27 i = nI (tk i)) : ∃ wY wS wC wX, f_Y_playByGroups y u s c (nI t) = some (wY, wS, wC) ∧ f_X_goesByGroups x (nI t) = some wX ∧ hEnd d l t (t + 2) ns y c x wY wS wC wX := by
  obtain ⟨Gm, Ga, Gb, E, Wd, f, w, cnt, e, h1, h2, h3, h4, h5, ⟨h6, h7, h8, h9, h10, h11, h12⟩, ⟨h13, h14, h15⟩, h16, h17⟩ := h
  by_cases hg0 : g = 0
  · subst hg0
    have hf : f = false := by
      cases hf : f
      · rfl
      · have := (h15 hf).2.2.2; omega
    subst hf
    have hPd : ∀ i, i < 10 → prs d (x 29) ns (t + 1) i = true → i < d 4 := fun i _ z => (prs_iff.mp z).1
    obtain ⟨G, a, b, E', Wd', cnt', e', wY, wS, wC, wX, b1', b2', b3', b4', b5', b6', b7', b8', b9', b10', b11', b12', b13', b14', b15', b16', b17', b18', b19', b20', b21', b22'⟩ := q_begin (u := u) (E := E) hB hC hM ht hl hy4 hx15 hPd hy7 hx26 h1.1 h6 h7 h8 h9 h10 h11 h12 h17
    have fx : ∀ k, k ≠ 18 → k ≠ 19 → k ≠ 20 → k ≠ 21 → k ≠ 22 → k ≠ 23 → k ≠ 24 → k ≠ 25 → k ≠ 35 → k ≠ 36 → k ≠ 37 → k ≠ 38 → k ≠ 39 → wX k = x k := b22'
    have fx18 : ∀ k, k < 18 → wX k = x k := fun k hk => fx k (by omega) (by omega) (by omega) (by omega) (by omega) (by omega) (by omega) (by omega) (by omega) (by omega) (by omega) (by omega) (by omega)
    have fxm : ∀ k, 25 < k → k < 35 → wX k = x k := fun k hk hk' => fx k (by omega) (by omega) (by omega) (by omega) (by omega) (by omega) (by omega) (by omega) (by omega) (by omega) (by omega) (by omega) (by omega)
    have fx40 : wX 40 = x 40 := fx 40 (by omega) (by omega) (by omega) (by omega) (by omega) (by omega) (by omega) (by omega) (by omega) (by omega) (by omega) (by omega) (by omega)
    have x29 : wX 29 = x 29 := fxm 29 (by omega) (by omega)
    have fc : ∀ k, k < 10 → wC k = c k := fun k hk => b21' k (by omega) (by omega) (by omega) (by omega)
    have fy : ∀ k, k < 8 → wY k = y k := fun k hk => b20' k (by omega) (by omega) (by omega)
    obtain ⟨vY, vS, vC, vX, c1, c2, c3⟩ := q_core (q := 0) (u := u) (y := wY) (s := wS) (c := wC) (x := wX) (ns := ns) (t := t) (l := l) (tk := tk) hB hC (by rw [fx18 0 (by omega)]; exact hM) ht hl hl2 (by omega) (by rw [fy 4 (by omega)]; exact hy4) (by rw [fy 5 (by omega)]; exact hy5) (by rw [fx18 15 (by omega)]; exact hx15) (by rw [fx18 16 (by omega)]; exact hx16) (by rw [fx18 17 (by omega)]; exact hx17) b7' (by rw [x29, fy 7 (by omega)]; exact hy7) (hA_of hA' (fc 0 (by omega)) (fc 1 (by omega)) (fc 2 (by omega)) (fc 5 (by omega)) (fc 6 (by omega)) (fc 8 (by omega)) (fc 9 (by omega)) x29 (fxm 30 (by omega) (by omega)) (fxm 31 (by omega) (by omega)) (fxm 32 (by omega) (by omega)) fx40) (by
      rw [x29]
      refine ⟨fun _ => G, fun _ => a, fun _ => b, E', Wd', false, 0, cnt', e', b3', b4', ?_, ?_, b6', ⟨b12', b11', b14', by omega, b15', b16', b17'⟩, ⟨?_, b8', by intro z; cases z⟩, fun _ => ⟨b10', b9', b19'⟩, b18'⟩
      · intro j _ i hi z; exact b5' i hi z
      · intro j k hj hk hjk; omega
      · rw [b20' 10 (by decide) (by decide) (by decide)]; exact h13) htk (by rw [fc 7 (by omega), fxm 27 (by omega) (by omega)]; exact ht7)
    refine ⟨vY, vS, vC, vX, ?_, ?_, hEnd_of c3 (by omega) (fc 3 (by omega)) (fc 4 (by omega)) x29 (fxm 33 (by omega) (by omega)) (fxm 34 (by omega) (by omega)) (fun k hk => fy k (by omega)) fx18⟩
    · unfold f_Y_playByGroups
      rw [h1.1, if_pos (show nI 0 = 0 from rfl), b1', b3_k, c1]
    · unfold f_X_goesByGroups
      rw [hx22, if_pos rfl, if_pos rfl, b2', b1_k, c2]
  · obtain ⟨q, rfl⟩ : ∃ q, g = q + 1 := ⟨g - 1, by omega⟩
    obtain ⟨e1, e2, e3, e4⟩ := h17
    obtain ⟨vY, vS, vC, vX, c1, c2, c3⟩ := q_core (q := q) (u := u) (y := y) (s := s) (c := c) (x := x) (ns := ns) (t := t) (l := l) (tk := tk) hB hC hM ht hl hl2 (by omega) hy4 hy5 hx15 hx16 hx17 (by rw [hx22, if_neg hg0]) hy7 hA' ⟨Gm, Ga, Gb, E, Wd, f, w, cnt, e, h1, h2, h3, h4, h5, ⟨h6, h7, h8, by omega, h10, h11, h12⟩, ⟨h13, h14, h15⟩, fun _ => h16 (by omega), ⟨e1, e2, by omega, e4⟩⟩ htk ht7
    refine ⟨vY, vS, vC, vX, ?_, ?_, hEnd_of c3 (by omega) rfl rfl rfl rfl rfl (fun _ _ => rfl) (fun _ _ => rfl)⟩
    · unfold f_Y_playByGroups
      rw [h1.1, if_neg (eq_f0 (by omega) (by omega)), c1]
    · unfold f_X_goesByGroups
      rw [hx22, if_neg hg0, if_neg (by decide), c2]
