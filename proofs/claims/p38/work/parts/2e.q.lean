/-! pure: a slot by groups, whole -/
def hEnd (d : Nat → Nat) (l t gm : Nat) (ns : Int32) (y c x wY wS wC wX : Nat → Nat → Int32) : Prop := ∃ (g : Nat) (tk : Nat → Nat), g ≤ gm ∧ hA d (t + 1) wC wX ∧ hGx d l (t + 1) g g (prs d (wX 29) ns (t + 1)) wY wS wC wX ∧ wX 22 0 = (if g = 0 then 0 else 1) ∧ wY 7 0 = mz (prs d (wX 29) ns (t + 1)) ∧ (∃ v, wC 3 = upd (c 3) t v ∧ wX 33 = upd (x 33) t v) ∧ (wC 4 = c 4 ∧ wX 34 = x 34 ∨ wC 4 = upd (c 4) t 1 ∧ wX 34 = upd (x 34) t 1) ∧ (∀ i, tk i ≤ t + 1) ∧ (∀ i, i < d 4 → wC 7 i = nI (tk i) ∧ wX 27 i = nI (tk i)) ∧ (∀ i, i < d 4 → t + 1 ≤ d (7 + i) → x 29 i = -1 → wX 29 i = -1) ∧ (∀ k, k < 7 → wY k = y k) ∧ (∀ k, k < 18 → wX k = x k)
theorem hA_of {d : Nat → Nat} {t : Nat} {c x c' x' : Nat → Nat → Int32} (h : hA d t c x) (c0 : c' 0 = c 0) (c1 : c' 1 = c 1) (c2 : c' 2 = c 2) (c5 : c' 5 = c 5) (c6 : c' 6 = c 6) (c8 : c' 8 = c 8) (c9 : c' 9 = c 9) (x29 : x' 29 = x 29) (x30 : x' 30 = x 30) (x31 : x' 31 = x 31) (x32 : x' 32 = x 32) (x40 : x' 40 = x 40) : hA d t c' x' := by
  unfold hA
  rw [c0, c1, c2, c5, c6, c8, c9, x29, x30, x31, x32, x40]
  exact h
theorem hE_of {t e : Nat} {c x c' x' : Nat → Nat → Int32} (h : hE t e c x) (c10 : c' 10 = c 10) (c11 : c' 11 = c 11) (c12 : c' 12 = c 12) (c13 : c' 13 = c 13) (x35 : x' 35 = x 35) (x36 : x' 36 = x 36) (x37 : x' 37 = x 37) (x38 : x' 38 = x 38) : hE t e c' x' := by
  unfold hE
  rw [c10, c11, c12, c13, x35, x36, x37, x38]
  exact h
theorem hS_of {g : Nat} {Gm : Nat → Nat → Bool} {Ga Gb : Nat → Nat} {s x x' : Nat → Nat → Int32} (h : hS g Gm Ga Gb s x) (x18 : x' 18 = x 18) (x19 : x' 19 = x 19) (x20 : x' 20 = x 20) : hS g Gm Ga Gb s x' := by
  unfold hS
  rw [x18, x19, x20]
  exact h
theorem q_fin2 {d : Nat → Nat} {u y c x yy ss cc xx : Nat → Nat → Int32} {t l g gm : Nat} {ns : Int32} {tk : Nat → Nat} (hB : mk_BD d) (hC : mk_CQ u d) (hM : mk_MP (xx 0) d) (ht : t < 200) (hl : l ≤ 3) (hg : g ≤ gm) (hgm : gm ≤ 201) (hx15 : xx 15 0 = nI l) (hx17 : xx 17 0 = ns) (hx22 : xx 22 0 = 1) (hy7 : yy 7 0 = mz (prs d (xx 29) ns (t + 1))) (hA' : hA d (t + 1) cc xx) (h : hGx d l (t + 1) g 1 (prs d (xx 29) ns (t + 1)) yy ss cc xx) (h3 : cc 3 = c 3) (h33 : xx 33 = x 33) (h4 : cc 4 = c 4 ∧ xx 34 = x 34 ∨ cc 4 = upd (c 4) t 1 ∧ xx 34 = upd (x 34) t 1) (htk : ∀ i, tk i ≤ t + 1) (ht7 : ∀ i, i < d 4 → cc 7 i = nI (tk i) ∧ xx 27 i = nI (tk i)) (h29 : ∀ i, i < d 4 → t + 1 ≤ d (7 + i) → x 29 i = -1 → xx 29 i = -1) (hyk : ∀ k, k < 7 → yy k = y k) (hxk : ∀ k, k < 18 → xx k = x k) : ∃ wY wS wC wX, f_Y_playByGroups_115 u (nI t) yy ss cc = some (wY, wS, wC) ∧ f_X_goesByGroups_150 (nI t) xx = some wX ∧ hEnd d l t gm ns y c x wY wS wC wX := by
  obtain ⟨wY, wC, wX, f1, f2, f3, f4, f5, f6, f7, f8, f9⟩ := q_fin hB hC hM ht hl (by omega) hx15 hx17 hx22 hy7 h
  have x29 := f9 29 (by decide) (by decide) (by decide) (by decide)
  refine ⟨wY, ss, wC, wX, f1, f2, g, tk, hg, ?_, ?_, f4, ?_, ⟨nI g, ?_, ?_⟩, ?_, htk, ?_, ?_, ?_, ?_⟩
  · exact hA_of hA' (f8 0 (by decide) (by decide)) (f8 1 (by decide) (by decide)) (f8 2 (by decide) (by decide)) (f8 5 (by decide) (by decide)) (f8 6 (by decide) (by decide)) (f8 8 (by decide) (by decide)) (f8 9 (by decide) (by decide)) x29 (f9 30 (by decide) (by decide) (by decide) (by decide)) (f9 31 (by decide) (by decide) (by decide) (by decide)) (f9 32 (by decide) (by decide) (by decide) (by decide)) (f9 40 (by decide) (by decide) (by decide) (by decide))
  · rw [x29]; exact f3
  · rw [x29, f7 7 (by decide)]; exact hy7
  · rw [f5, h3]
  · rw [f6, h33]
  · rw [f8 4 (by decide) (by decide), f9 34 (by decide) (by decide) (by decide) (by decide)]; exact h4
  · intro i hi
    rw [f8 7 (by decide) (by decide), f9 27 (by decide) (by decide) (by decide) (by decide)]; exact ht7 i hi
  · intro i hi a b; rw [x29]; exact h29 i hi a b
  · intro k hk; rw [f7 k (by omega)]; exact hyk k hk
  · intro k hk; rw [f9 k (by omega) (by omega) (by omega) (by omega)]; exact hxk k hk
theorem q_core {d : Nat → Nat} {u y s c x : Nat → Nat → Int32} {ns : Int32} {t l q : Nat} {tk : Nat → Nat} (hB : mk_BD d) (hC : mk_CQ u d) (hM : mk_MP (x 0) d) (ht : t < 200) (hl : l ≤ 3) (hl2 : l ≠ 2) (hq : q + 2 ≤ 201) (hy4 : y 4 0 = nI l) (hy5 : y 5 0 = (-1)) (hx15 : x 15 0 = nI l) (hx16 : x 16 0 = (-1)) (hx17 : x 17 0 = ns) (hx22 : x 22 0 = 1) (hy7 : y 7 0 = mz (prs d (x 29) ns (t + 1))) (hA' : hA d t c x) (h : hGx d l (t + 1) (q + 1) 1 (prs d (x 29) ns (t + 1)) y s c x) (htk : ∀ i, tk i ≤ t) (ht7 : ∀ i, i < d 4 → c 7 i = nI (tk i) ∧ x 27 i = nI (tk i)) : ∃ wY wS wC wX, f_Y_playByGroups_15 u (nI t) y s c = some (wY, wS, wC) ∧ f_X_goesByGroups_12 (nI t) x = some wX ∧ hEnd d l t (q + 2) ns y c x wY wS wC wX := by
  have h4 : d 4 ≤ 10 := hB.2.2.2.2.1
  have h2d : d 2 ≤ 9 := hB.2.2.1
  obtain ⟨Gm, Ga, Gb, E, Wd, f, w, cnt, e, g1, g2, g3, g4, g5, ⟨g6, g7, g8, g9, g10, g11, g12⟩, ⟨g13, g14, g15⟩, g16, g17⟩ := h
  obtain ⟨k1, k2, k3⟩ := g16 (by omega)
  obtain ⟨s0, s1, s2, x18, x19, x20⟩ := g1.2 q (by omega)
  have hMb : ∀ i, i < 10 → Gm q i = true → i < d 4 ∧ d (7 + i) ≤ t ∧ x 29 i = -1 := fun i hi z => by
    have := prs_iff.mp (g3 q (by omega) i hi z)
    exact ⟨this.1, by have := this.2.2.1; omega, this.2.2.2⟩
  obtain ⟨r, D, y', c', x', hr, f1, f2, f3, f4, f5, f6, f7, f8, f9, f10, -⟩ := q_sent (x := upF 21 (nI q) x) (u := u) (M := Gm q) hB hC hM hy5 hx16 ht hMb hA' hy7
  have hx' : ∀ k, k ≠ 21 → k ≠ 29 → k ≠ 30 → k ≠ 31 → k ≠ 32 → k ≠ 40 → x' k = x k := fun k a b1 b2 b3 b4 b5 => by rw [f10 k b1 b2 b3 b4 b5, upF_n a]
  have hc' : ∀ k, k ≠ 0 → k ≠ 1 → k ≠ 2 → k ≠ 5 → k ≠ 6 → k ≠ 8 → k ≠ 9 → c' k = c k := f9
  have x21' : x' 21 0 = nI q := by rw [f10 21 (by decide) (by decide) (by decide) (by decide) (by decide)]; rfl
  have hP' : ∀ i, prs d (x' 29) ns (t + 1) i = (prs d (x 29) ns (t + 1) i && !D i) := fun i => q_prsD (f := x 29) ht f6 i
  have hy7' : y' 7 0 = mz (prs d (x' 29) ns (t + 1)) := by
    rw [f5]; exact mz_congr (fun i _ => (hP' i).symm)
  have hPsub : ∀ i, prs d (x' 29) ns (t + 1) i = true → prs d (x 29) ns (t + 1) i = true := fun i z => by
    rw [hP'] at z; simp only [Bool.and_eq_true] at z; exact z.1
  have h29 : ∀ i, i < d 4 → t + 1 ≤ d (7 + i) → x 29 i = -1 → x' 29 i = -1 := by
    intro i hi hd hun
    rw [f6 i hi]
    cases hDi : D i
    · exact hun
    · have := (prs_iff.mp (g3 q (by omega) i (by omega) (f7 i (by omega) hDi))).2.2.1
      omega
  have hWE : l = 3 → ∀ i, i < 10 → prs d (x' 29) ns (t + 1) i = true → Wd i = false → E ≤ mo d i := fun z i hi a b => g12 z i hi (hPsub i a) b
  have hM' : mk_MP (x' 0) d := by rw [hx' 0 (by decide) (by decide) (by decide) (by decide) (by decide) (by decide)]; exact hM
  have e15 : x' 15 0 = nI l := by rw [hx' 15 (by decide) (by decide) (by decide) (by decide) (by decide) (by decide)]; exact hx15
  have e17 : x' 17 0 = ns := by rw [hx' 17 (by decide) (by decide) (by decide) (by decide) (by decide) (by decide)]; exact hx17
  have e22 : x' 22 0 = 1 := by rw [hx' 22 (by decide) (by decide) (by decide) (by decide) (by decide) (by decide)]; exact hx22
  have e25 : x' 25 0 = nI E := by rw [hx' 25 (by decide) (by decide) (by decide) (by decide) (by decide) (by decide)]; exact g7
  have e23 : x' 23 0 = bi f := by rw [hx' 23 (by decide) (by decide) (by decide) (by decide) (by decide) (by decide)]; exact g14
  have e39 : x' 39 0 = bi cnt := by rw [hx' 39 (by decide) (by decide) (by decide) (by decide) (by decide) (by decide)]; exact k2
  have e24 : x' 24 = x 24 := hx' 24 (by decide) (by decide) (by decide) (by decide) (by decide) (by decide)
  have e33 : x' 33 = x 33 := hx' 33 (by decide) (by decide) (by decide) (by decide) (by decide) (by decide)
  have e34 : x' 34 = x 34 := hx' 34 (by decide) (by decide) (by decide) (by decide) (by decide) (by decide)
  have ht7' : ∀ i, i < d 4 → c' 7 i = nI (tk i) ∧ x' 27 i = nI (tk i) := by
    rw [hc' 7 (by decide) (by decide) (by decide) (by decide) (by decide) (by decide) (by decide), hx' 27 (by decide) (by decide) (by decide) (by decide) (by decide) (by decide)]
    exact ht7
  have hS' : hS (q + 1) Gm Ga Gb s x' := hS_of g1 (hx' 18 (by decide) (by decide) (by decide) (by decide) (by decide) (by decide)) (hx' 19 (by decide) (by decide) (by decide) (by decide) (by decide) (by decide)) (hx' 20 (by decide) (by decide) (by decide) (by decide) (by decide) (by decide))
  have hE' : hE (t + 1) e c' x' := hE_of g17 (hc' 10 (by decide) (by decide) (by decide) (by decide) (by decide) (by decide) (by decide)) (hc' 11 (by decide) (by decide) (by decide) (by decide) (by decide) (by decide) (by decide)) (hc' 12 (by decide) (by decide) (by decide) (by decide) (by decide) (by decide) (by decide)) (hc' 13 (by decide) (by decide) (by decide) (by decide) (by decide) (by decide) (by decide)) (hx' 35 (by decide) (by decide) (by decide) (by decide) (by decide) (by decide)) (hx' 36 (by decide) (by decide) (by decide) (by decide) (by decide) (by decide)) (hx' 37 (by decide) (by decide) (by decide) (by decide) (by decide) (by decide)) (hx' 38 (by decide) (by decide) (by decide) (by decide) (by decide) (by decide))
  have hyk : ∀ k, k < 7 → y' k = y k := fun k hk => f4 k (by omega)
  have hxk : ∀ k, k < 18 → x' k = x k := fun k hk => hx' k (by omega) (by omega) (by omega) (by omega) (by omega) (by omega)
  have hPall : r ≠ 1 → hP (q + 1) Gm (prs d (x' 29) ns (t + 1)) := by
    intro z j hj i hi zz
    rw [hP', g3 j hj i hi zz]
    rcases f8 with z2 | ⟨z2, _⟩
    · rw [z2 i]; rfl
    · exact absurd z2 z
  have hPq : hP q Gm (prs d (x' 29) ns (t + 1)) := by
    intro j hj i hi zz
    rw [hP', g3 j (by omega) i hi zz]
    rcases f8 with z2 | ⟨_, z2⟩
    · rw [z2 i]; rfl
    · rw [z2, g4 j q (by omega) (by omega) (by omega) i hi zz]; rfl
  have htkb : ∀ i, tk i < 2 ^ 30 := fun i => by have := htk i; omega
  have tail (k : Nat) (hk : k < 18) : k ≠ 18 ∧ k ≠ 19 ∧ k ≠ 20 ∧ k ≠ 21 ∧ k ≠ 27 := by omega
  have eY : f_Y_playByGroups_15 u (nI t) y s c = if nI r = 2 then b3 (f_Y_splitTop y' u s c') (fun uY_24 uS_25 uC_26 => (f_Y_playByGroups_115 u (nI t) (upF 11 0 uY_24) uS_25 uC_26)) else if nI r = 0 then if (y' 10 0) = 0 then (f_Y_playByGroups_69 u (nI t) y' s c') else b1 (f_Y_maySkip y' u) (fun r21 => if r21 = 0 then (f_Y_playByGroups_69 u (nI t) y' s c') else (f_Y_playByGroups_70 u (nI t) 1 y' s c')) else (f_Y_playByGroups_69 u (nI t) y' s c') := by
    unfold f_Y_playByGroups_15 f_S_topWho
    rw [g1.1, pu_s1, mkAt_ok (by omega) (by omega), s0, b1_k, f1, b3_k]
  have eX : f_X_goesByGroups_12 (nI t) x = if nI r = 2 then b1 (f_X_splits (upF 21 ((x' 21 0) + 1) x')) (fun uX_18 => (f_X_goesByGroups_150 (nI t) (upF 24 0 (upF 23 1 uX_18)))) else if nI r = 1 then (f_X_goesByGroups_150 (nI t) (upF 24 0 (upF 23 0 x'))) else if (x' 23 0) = 0 then (f_X_goesByGroups_145 (nI t) x') else if (x' 15 0) = 0 then (f_X_goesByGroups_145 (nI t) x') else if (x' 21 0) ≤ 0 then (f_X_goesByGroups_145 (nI t) x') else if ((x' 0) 2) ≤ (x' 24 0) then (f_X_goesByGroups_145 (nI t) x') else b1 (f_X_splits x') (fun uX_15 => gI (nI t) 200 ((f_X_goesByGroups_150 (nI t) (upR 34 (upd (uX_15 34) ((nI t) : Int32).toNatClampNeg 1) (upF 24 ((uX_15 24 0) + 1) uX_15))))) := by
    unfold f_X_goesByGroups_12
    rw [g5, pu_s1, gI_ok (by omega) (by omega), pu_cl (by omega), x18, f2, b2_k]
  -- the pop
  obtain ⟨sp', p1, p2, p3, p4, p5⟩ := q_pop g1.1 (by omega)
  have hSq : hS q Gm Ga Gb sp' x' := ⟨p2, fun j hj => by rw [p3, p4, p5]; exact hS'.2 j (by omega)⟩
  have pop : ∀ xx, (∀ k, k ≠ 23 → k ≠ 24 → xx k = x' k) → xx 23 0 = 0 → ∃ wY wS wC wX, f_Y_playByGroups_69 u (nI t) y' s c' = some (wY, wS, wC) ∧ f_X_goesByGroups_150 (nI t) xx = some wX ∧ hEnd d l t (q + 2) ns y c x wY wS wC wX := by
    intro xx hxx hx23
    have x29 : xx 29 = x' 29 := hxx 29 (by decide) (by decide)
    have eY0 : f_Y_playByGroups_69 u (nI t) y' s c' = f_Y_playByGroups_115 u (nI t) (upF 10 0 y') sp' c' := by
      unfold f_Y_playByGroups_69 f_Y_playByGroups_70
      rw [p1, b1_k, if_pos rfl]
    rw [eY0]
    refine q_fin2 (g := q) (tk := tk) hB hC ?_ ht hl (by omega) (by omega) ?_ ?_ ?_ ?_ ?_ ?_ ?_ ?_ ?_ (fun i => by have := htk i; omega) ?_ ?_ ?_ ?_
    · rw [hxx 0 (by decide) (by decide)]; exact hM'
    · rw [hxx 15 (by decide) (by decide)]; exact e15
    · rw [hxx 17 (by decide) (by decide)]; exact e17
    · rw [hxx 22 (by decide) (by decide)]; exact e22
    · rw [x29]; exact hy7'
    · exact hA_of f3 rfl rfl rfl rfl rfl rfl rfl x29 (hxx 30 (by decide) (by decide)) (hxx 31 (by decide) (by decide)) (hxx 32 (by decide) (by decide)) (hxx 40 (by decide) (by decide))
    · rw [x29]
      refine ⟨Gm, Ga, Gb, E, Wd, false, w, cnt, e, hS_of hSq (hxx 18 (by decide) (by decide)) (hxx 19 (by decide) (by decide)) (hxx 20 (by decide) (by decide)), fun j hj => g2 j (by omega), hPq, fun j k hj hk => g4 j k (by omega) (by omega), ?_, ⟨?_, ?_, g8, g9, ?_, g11, hWE⟩, ⟨rfl, hx23, by intro z; cases z⟩, fun _ => ⟨?_, ?_, k3⟩, ?_⟩
      · rw [hxx 21 (by decide) (by decide)]; exact x21'
      · show y' 9 0 = _
        rw [f4 9 (by decide)]; exact g6
      · rw [hxx 25 (by decide) (by decide)]; exact e25
      · show y' 8 0 = _
        rw [f4 8 (by decide)]; exact g10
      · show y' 12 0 = _
        rw [f4 12 (by decide)]; exact k1
      · rw [hxx 39 (by decide) (by decide)]; exact e39
      · exact hE_of hE' rfl rfl rfl rfl (hxx 35 (by decide) (by decide)) (hxx 36 (by decide) (by decide)) (hxx 37 (by decide) (by decide)) (hxx 38 (by decide) (by decide))
    · exact hc' 3 (by decide) (by decide) (by decide) (by decide) (by decide) (by decide) (by decide)
    · rw [hxx 33 (by decide) (by decide)]; exact e33
    · left
      exact ⟨hc' 4 (by decide) (by decide) (by decide) (by decide) (by decide) (by decide) (by decide), by rw [hxx 34 (by decide) (by decide)]; exact e34⟩
    · intro i hi; rw [hxx 27 (by decide) (by decide)]; exact ht7' i hi
    · intro i hi a b; rw [x29]; exact h29 i hi a b
    · intro k hk; rw [upF_n (by omega)]; exact hyk k hk
    · intro k hk; rw [hxx k (by omega) (by omega)]; exact hxk k hk
  have pop145 : ∃ wY wS wC wX, f_Y_playByGroups_69 u (nI t) y' s c' = some (wY, wS, wC) ∧ f_X_goesByGroups_145 (nI t) x' = some wX ∧ hEnd d l t (q + 2) ns y c x wY wS wC wX := by
    unfold f_X_goesByGroups_145
    exact pop _ (fun k h _ => upF_n h) rfl
  by_cases r2 : r = 2
  · have hr2 : nI r = 2 := by rw [r2]; rfl
    rw [eY, eX, if_pos hr2, if_pos hr2, x21', pu_one]
    obtain ⟨Gm', Ga', Gb', tk', wS, wC, wX, a1, a2, a3, a4, a5, a6, a7, a8, a9, a10, a11⟩ := q_split (y := y') (x := upF 21 (nI (q + 1)) x') hB hC hM' hq (hS_of hS' rfl rfl rfl) g2 rfl hl (by rw [hyk 4 (by omega)]; exact hy4) e15 htkb ht7'
    rw [a1, b3_k, a2, b1_k]
    have hwx : ∀ k, k ≠ 18 → k ≠ 19 → k ≠ 20 → k ≠ 21 → k ≠ 27 → wX k = x' k := fun k b1 b2 b3 b4 b5 => by rw [a11 k b1 b2 b3 b4 b5, upF_n b4]
    have hxx : ∀ k, k ≠ 18 → k ≠ 19 → k ≠ 20 → k ≠ 21 → k ≠ 27 → k ≠ 23 → k ≠ 24 → (upF 24 0 (upF 23 1 wX)) k = x' k := fun k b1 b2 b3 b4 b5 b6 b7 => by rw [upF_n b7, upF_n b6, hwx k b1 b2 b3 b4 b5]
    have x29 : (upF 24 0 (upF 23 1 wX)) 29 = x' 29 := hxx 29 (by decide) (by decide) (by decide) (by decide) (by decide) (by decide) (by decide)
    refine q_fin2 (g := q + 2) (tk := tk') hB hC ?_ ht hl (by omega) (by omega) ?_ ?_ ?_ ?_ ?_ ?_ ?_ ?_ ?_ (fun i => by have := htk i; have := a8 i; omega) a9 ?_ ?_ ?_
    · rw [hxx 0 (by decide) (by decide) (by decide) (by decide) (by decide) (by decide) (by decide)]; exact hM'
    · rw [hxx 15 (by decide) (by decide) (by decide) (by decide) (by decide) (by decide) (by decide)]; exact e15
    · rw [hxx 17 (by decide) (by decide) (by decide) (by decide) (by decide) (by decide) (by decide)]; exact e17
    · rw [hxx 22 (by decide) (by decide) (by decide) (by decide) (by decide) (by decide) (by decide)]; exact e22
    · rw [x29]; exact hy7'
    · exact hA_of f3 (a10 0 (by decide)) (a10 1 (by decide)) (a10 2 (by decide)) (a10 5 (by decide)) (a10 6 (by decide)) (a10 8 (by decide)) (a10 9 (by decide)) x29 (hxx 30 (by decide) (by decide) (by decide) (by decide) (by decide) (by decide) (by decide)) (hxx 31 (by decide) (by decide) (by decide) (by decide) (by decide) (by decide) (by decide)) (hxx 32 (by decide) (by decide) (by decide) (by decide) (by decide) (by decide) (by decide)) (hxx 40 (by decide) (by decide) (by decide) (by decide) (by decide) (by decide) (by decide))
    · rw [x29]
      refine ⟨Gm', Ga', Gb', E, Wd, true, 0, cnt, e, hS_of a3 rfl rfl rfl, a4, a5 _ (hPall (by omega)), a6 g4, a7, ⟨?_, ?_, g8, g9, ?_, g11, hWE⟩, ⟨rfl, rfl, fun _ => ⟨by omega, rfl, rfl, by omega⟩⟩, fun _ => ⟨?_, ?_, k3⟩, ?_⟩
      · show y' 9 0 = _
        rw [f4 9 (by decide)]; exact g6
      · rw [hxx 25 (by decide) (by decide) (by decide) (by decide) (by decide) (by decide) (by decide)]; exact e25
      · show y' 8 0 = _
        rw [f4 8 (by decide)]; exact g10
      · show y' 12 0 = _
        rw [f4 12 (by decide)]; exact k1
      · rw [hxx 39 (by decide) (by decide) (by decide) (by decide) (by decide) (by decide) (by decide)]; exact e39
      · exact hE_of hE' (a10 10 (by decide)) (a10 11 (by decide)) (a10 12 (by decide)) (a10 13 (by decide)) (hxx 35 (by decide) (by decide) (by decide) (by decide) (by decide) (by decide) (by decide)) (hxx 36 (by decide) (by decide) (by decide) (by decide) (by decide) (by decide) (by decide)) (hxx 37 (by decide) (by decide) (by decide) (by decide) (by decide) (by decide) (by decide)) (hxx 38 (by decide) (by decide) (by decide) (by decide) (by decide) (by decide) (by decide))
    · rw [a10 3 (by decide)]; exact hc' 3 (by decide) (by decide) (by decide) (by decide) (by decide) (by decide) (by decide)
    · rw [hxx 33 (by decide) (by decide) (by decide) (by decide) (by decide) (by decide) (by decide)]; exact e33
    · left
      exact ⟨by rw [a10 4 (by decide)]; exact hc' 4 (by decide) (by decide) (by decide) (by decide) (by decide) (by decide) (by decide), by rw [hxx 34 (by decide) (by decide) (by decide) (by decide) (by decide) (by decide) (by decide)]; exact e34⟩
    · intro i hi a b; rw [x29]; exact h29 i hi a b
    · intro k hk; rw [upF_n (by omega), upF_n (by omega)]; exact hyk k hk
    · intro k hk; rw [hxx k (by omega) (by omega) (by omega) (by omega) (by omega) (by omega) (by omega)]; exact hxk k hk
  rw [eY, eX, if_neg (show ¬ nI r = 2 from eq_f (b := 2) r2 (by omega) (by omega)), if_neg (show ¬ nI r = 2 from eq_f (b := 2) r2 (by omega) (by omega))]
  by_cases r1 : r = 1
  · rw [if_neg (show ¬ nI r = 0 by rw [r1]; decide), if_pos (show nI r = 1 by rw [r1]; rfl)]
    exact pop _ (fun k h1 h2 => by rw [upF_n h2, upF_n h1]) rfl
  have r0 : r = 0 := by omega
  rw [if_pos (show nI r = 0 by rw [r0]; rfl), if_neg (show ¬ nI r = 1 by rw [r0]; decide), f4 10 (by decide), g13, e23]
  cases hf : f
  · rw [if_pos (show bi false = 0 from rfl), if_pos (show bi false = 0 from rfl)]
    exact pop145
  obtain ⟨w1, w2, w3, w4⟩ := g15 hf
  obtain ⟨q, rfl⟩ : ∃ q', q = q' + 1 := ⟨q - 1, by omega⟩
  rw [if_neg (show ¬ bi true = 0 by decide), if_neg (show ¬ bi true = 0 by decide), e15, x21', hM' 2, e24, w3]
  have y11' : y' 11 0 = nI w := by rw [f4 11 (by decide)]; exact w2
  by_cases hl0 : l = 0
  · rw [if_pos (show nI l = 0 by rw [hl0]; rfl)]
    have : f_Y_maySkip y' u = some 0 := by
      unfold f_Y_maySkip
      rw [hyk 4 (by omega), hy4, if_neg (show ¬ nI l = 1 by rw [hl0]; decide), if_neg (show ¬ nI l = 3 by rw [hl0]; decide)]
    rw [this, b1_k, if_pos rfl]
    exact pop145
  have hms : f_Y_maySkip y' u = some (if nI (d 2) ≤ nI w then 0 else 1) := by
    have hs16 : f_Y_maySkip_16 y' u = some (if nI (d 2) ≤ nI w then 0 else 1) := by
      unfold f_Y_maySkip_16
      rw [hC.2.2.1, y11']
      split <;> rfl
    unfold f_Y_maySkip
    rw [hyk 4 (by omega), hy4]
    by_cases hl1 : l = 1
    · rw [if_pos (show nI l = 1 by rw [hl1]; rfl)]; exact hs16
    · rw [if_neg (show ¬ nI l = 1 from eq_f (b := 1) hl1 (by omega) (by omega)), if_pos (show nI l = 3 by rw [show l = 3 by omega]; rfl)]; exact hs16
  rw [if_neg (eq_f0 hl0 (by omega)), if_neg (le_f0 (by omega) (by omega)), hms, b1_k]
  by_cases hsk : nI (d 2) ≤ nI w
  · rw [if_pos hsk, if_pos hsk, if_pos rfl]
    exact pop145
  rw [if_neg hsk, if_neg hsk, if_neg (by decide)]
  have hwd : w + 1 ≤ 9 := by
    rw [pu_le (by omega) (by omega)] at hsk
    omega
  obtain ⟨Gm', Ga', Gb', tk', wS, wC, wX, a1, a2, a3, a4, a5, a6, a7, a8, a9, a10, a11⟩ := q_split (u := u) (y := upF 10 0 y') (l := l) hB hC hM' (by omega) hSq (fun j hj => g2 j (by omega)) x21' hl (by show y' 4 0 = _; rw [hyk 4 (by omega)]; exact hy4) e15 htkb ht7'
  have eY0 : f_Y_playByGroups_70 u (nI t) 1 y' s c' = f_Y_playByGroups_115 u (nI t) (upF 11 (nI (w + 1)) (upF 10 1 (upF 10 0 y'))) wS (upR 4 (upd (wC 4) t 1) wC) := by
    unfold f_Y_playByGroups_70
    rw [p1, b1_k, if_neg (by decide), a1, b3_k, mkPut_ok ht (by omega)]
    show f_Y_playByGroups_115 u (nI t) (upF 11 ((y' 11 0) + 1) _) _ _ = _
    rw [y11', pu_one]
  have x24w : wX 24 0 = nI w := by rw [a11 24 (by decide) (by decide) (by decide) (by decide) (by decide), e24]; exact w3
  rw [eY0, a2, b1_k, gI_ok ht (by omega), pu_cl (by omega), x24w, pu_one]
  have hxx : ∀ k, k ≠ 18 → k ≠ 19 → k ≠ 20 → k ≠ 21 → k ≠ 27 → k ≠ 34 → k ≠ 24 → (upR 34 (upd (wX 34) t 1) (upF 24 (nI (w + 1)) wX)) k = x' k := fun k b1 b2 b3 b4 b5 b6 b7 => by rw [upR_n b6, upF_n b7, a11 k b1 b2 b3 b4 b5]
  have x29 : (upR 34 (upd (wX 34) t 1) (upF 24 (nI (w + 1)) wX)) 29 = x' 29 := hxx 29 (by decide) (by decide) (by decide) (by decide) (by decide) (by decide) (by decide)
  refine q_fin2 (g := q + 2) (tk := tk') hB hC ?_ ht hl (by omega) (by omega) ?_ ?_ ?_ ?_ ?_ ?_ ?_ ?_ ?_ (fun i => by have := htk i; have := a8 i; omega) a9 ?_ ?_ ?_
  · rw [hxx 0 (by decide) (by decide) (by decide) (by decide) (by decide) (by decide) (by decide)]; exact hM'
  · rw [hxx 15 (by decide) (by decide) (by decide) (by decide) (by decide) (by decide) (by decide)]; exact e15
  · rw [hxx 17 (by decide) (by decide) (by decide) (by decide) (by decide) (by decide) (by decide)]; exact e17
  · rw [hxx 22 (by decide) (by decide) (by decide) (by decide) (by decide) (by decide) (by decide)]; exact e22
  · rw [x29]; exact hy7'
  · exact hA_of f3 (a10 0 (by decide)) (a10 1 (by decide)) (a10 2 (by decide)) (a10 5 (by decide)) (a10 6 (by decide)) (a10 8 (by decide)) (a10 9 (by decide)) x29 (hxx 30 (by decide) (by decide) (by decide) (by decide) (by decide) (by decide) (by decide)) (hxx 31 (by decide) (by decide) (by decide) (by decide) (by decide) (by decide) (by decide)) (hxx 32 (by decide) (by decide) (by decide) (by decide) (by decide) (by decide) (by decide)) (hxx 40 (by decide) (by decide) (by decide) (by decide) (by decide) (by decide) (by decide))
  · rw [x29]
    refine ⟨Gm', Ga', Gb', E, Wd, true, w + 1, cnt, e, hS_of a3 rfl rfl rfl, a4, a5 _ (fun j hj => hPq j hj), a6 (fun j k hj hk => g4 j k (by omega) (by omega)), a7, ⟨?_, ?_, g8, g9, ?_, g11, hWE⟩, ⟨rfl, ?_, fun _ => ⟨hwd, rfl, rfl, by omega⟩⟩, fun _ => ⟨?_, ?_, k3⟩, ?_⟩
    · show y' 9 0 = _
      rw [f4 9 (by decide)]; exact g6
    · rw [hxx 25 (by decide) (by decide) (by decide) (by decide) (by decide) (by decide) (by decide)]; exact e25
    · show y' 8 0 = _
      rw [f4 8 (by decide)]; exact g10
    · rw [hxx 23 (by decide) (by decide) (by decide) (by decide) (by decide) (by decide) (by decide), e23, hf]
    · show y' 12 0 = _
      rw [f4 12 (by decide)]; exact k1
    · rw [hxx 39 (by decide) (by decide) (by decide) (by decide) (by decide) (by decide) (by decide)]; exact e39
    · exact hE_of hE' (a10 10 (by decide)) (a10 11 (by decide)) (a10 12 (by decide)) (a10 13 (by decide)) (hxx 35 (by decide) (by decide) (by decide) (by decide) (by decide) (by decide) (by decide)) (hxx 36 (by decide) (by decide) (by decide) (by decide) (by decide) (by decide) (by decide)) (hxx 37 (by decide) (by decide) (by decide) (by decide) (by decide) (by decide) (by decide)) (hxx 38 (by decide) (by decide) (by decide) (by decide) (by decide) (by decide) (by decide))
  · show wC 3 = _
    rw [a10 3 (by decide)]; exact hc' 3 (by decide) (by decide) (by decide) (by decide) (by decide) (by decide) (by decide)
  · rw [hxx 33 (by decide) (by decide) (by decide) (by decide) (by decide) (by decide) (by decide)]; exact e33
  · right
    refine ⟨?_, ?_⟩
    · rw [upR_s, a10 4 (by decide), hc' 4 (by decide) (by decide) (by decide) (by decide) (by decide) (by decide) (by decide)]
    · rw [upR_s, a11 34 (by decide) (by decide) (by decide) (by decide) (by decide), e34]
  · intro i hi a b; rw [x29]; exact h29 i hi a b
  · intro k hk; rw [upF_n (by omega), upF_n (by omega), upF_n (by omega)]; exact hyk k hk
  · intro k hk; rw [hxx k (by omega) (by omega) (by omega) (by omega) (by omega) (by omega) (by omega)]; exact hxk k hk
