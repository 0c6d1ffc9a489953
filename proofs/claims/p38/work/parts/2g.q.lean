/-! pure: a whole run -/
def hR (d : Nat → Nat) (l t : Nat) (ns : Int32) (x0 y s c x : Nat → Nat → Int32) : Prop := (y 4 0 = nI l ∧ y 5 0 = (-1) ∧ y 6 0 = ns ∧ (∀ k, k < 15 → x k = x0 k) ∧ x 15 0 = nI l ∧ x 16 0 = (-1) ∧ x 17 0 = ns) ∧ hA d t c x ∧ y 7 0 = mz (prs d (x 29) ns t) ∧ (∃ tk : Nat → Nat, (∀ i, tk i ≤ t) ∧ ∀ i, i < d 4 → c 7 i = nI (tk i) ∧ x 27 i = nI (tk i)) ∧ (∀ i, i < d 4 → t ≤ d (7 + i) → x 29 i = -1) ∧ (∀ v, v < t → c 3 v = x 33 v ∧ c 4 v = x 34 v) ∧ (∀ v, t ≤ v → v < 200 → c 4 v = 0) ∧ (∃ e, hE t e c x) ∧ (l = 2 → ns = -1 → hK2 d t y c (x 29) (x 30)) ∧ (l = 2 → ∃ k : Nat → Nat, ∀ i, i < d 4 → x 29 i = -1 → k i ≤ t ∧ y 2 i = nI (k i) ∧ x 28 i = nI (k i)) ∧ (l ≠ 2 → ∃ g, g ≤ t + 1 ∧ x 22 0 = (if g = 0 then 0 else 1) ∧ hGx d l t g g (prs d (x 29) ns t) y s c x)
theorem q_run_77 {d : Nat → Nat} {u x0 : Nat → Nat → Int32} {ns : Int32} {l : Nat} (hB : mk_BD d) (hC : mk_CQ u d) (hM : mk_MP (x0 0) d) (hl : l ≤ 3) (a b e a' b' e' : Int32) : ∀ k n t (y s c x : Nat → Nat → Int32), t + k = d 1 → k < n → hR d l t ns x0 y s c x → ∃ wY wS wC wX, f_Y_run_77 u a b e n (nI t) y s c = some (wC 9 0, wY, wS, wC) ∧ f_X_runsBy_93 a' b' e' n (nI t) x = some wX ∧ hR d l (d 1) ns x0 wY wS wC wX
  | 0, n, t, y, s, c, x, hk, hn, h => by
    have h1 : d 1 ≤ 200 := hB.2.1
    obtain ⟨n, rfl, hn'⟩ := q_fu hn
    obtain rfl : t = d 1 := by omega
    have hM1 : x 0 1 = nI (d 1) := by rw [h.1.2.2.2.1 0 (by omega)]; exact hM 1
    refine ⟨y, s, c, x, ?_, ?_, h⟩
    · rw [f_Y_run_77, hC.2.1, if_pos (le_t (Nat.le_refl _) (by omega))]
    · rw [f_X_runsBy_93, hM1, if_pos (le_t (Nat.le_refl _) (by omega))]
  | k + 1, n, t, y, s, c, x, hk, hn, h => by
    have h1 : d 1 ≤ 200 := hB.2.1
    have h4 : d 4 ≤ 10 := hB.2.2.2.2.1
    obtain ⟨n, rfl, hn'⟩ := q_fu hn
    obtain ⟨⟨i1, i2, i3, i4, i5, i6, i7⟩, hA', hy7, ⟨tk, htk, ht7⟩, hun, h34, hc4, ⟨e0, he⟩, hKK, hK, hG⟩ := h
    have hM1 : mk_MP (x 0) d := by rw [i4 0 (by omega)]; exact hM
    obtain ⟨wY, w1, w2, w3⟩ := q_welcome (f := x 29) hB hC (show t < 200 by omega) i3 hy7 hun
    have hwt := q_waiting hB hM1 i7 (show t < 200 by omega)
    generalize hxx : upR 34 (upd (x 34) t 0) (upF 26 (mz (prs d (x 29) ns (t + 1))) x) = xx
    have fx : ∀ k, k ≠ 26 → k ≠ 34 → xx k = x k := fun k a b => by rw [← hxx, upR_n b, upF_n a]
    have x26 : xx 26 0 = mz (prs d (x 29) ns (t + 1)) := by rw [← hxx]; rfl
    have x34 : xx 34 = upd (x 34) t 0 := by rw [← hxx]; exact upR_s
    have x29 : xx 29 = x 29 := fx 29 (by decide) (by decide)
    have hAx : hA d t c xx := hA_of hA' rfl rfl rfl rfl rfl rfl rfl x29 (fx 30 (by decide) (by decide)) (fx 31 (by decide) (by decide)) (fx 32 (by decide) (by decide)) (fx 40 (by decide) (by decide))
    have eY : f_Y_run_77 u a b e (n + 1) (nI t) y s c = if nI l = 2 then b2 (f_Y_playByCounters wY u c (nI t)) (fun uY_9 uC_10 => (f_Y_run_77 u a b e n (nI (t + 1)) uY_9 s uC_10)) else b3 (f_Y_playByGroups wY u s c (nI t)) (fun uY_5 uS_6 uC_7 => (f_Y_run_77 u a b e n (nI (t + 1)) uY_5 uS_6 uC_7)) := by
      rw [f_Y_run_77, hC.2.1, if_neg (le_f (by omega) (by omega)), w1, b1_k, w2 4 (by decide), i1, pu_one]
    have eX : f_X_runsBy_93 a' b' e' (n + 1) (nI t) x = if nI l = 2 then b1 (f_X_goesByCounters xx (nI t)) (fun uX_8 => (f_X_runsBy_93 a' b' e' n (nI (t + 1)) uX_8)) else b1 (f_X_goesByGroups xx (nI t)) (fun uX_6 => (f_X_runsBy_93 a' b' e' n (nI (t + 1)) uX_6)) := by
      rw [f_X_runsBy_93, hM1 1, if_neg (le_f (by omega) (by omega)), hwt, b1_k, gI_ok (by omega) (by omega), i5, pu_cl (by omega), hxx, pu_one]
    rw [eY, eX]
    by_cases hl2 : l = 2
    · obtain ⟨kk', hkk⟩ := hK hl2
      rw [if_pos (show nI l = 2 by rw [hl2]; rfl), if_pos (show nI l = 2 by rw [hl2]; rfl)]
      obtain ⟨vY, vC, vX, k', tk', a1, a2, a3, a4, a5, a6, a7, a8, ⟨v, a9, a10⟩, a11, a12, a13, a14⟩ := q_counters (u := u) (y := wY) (x := xx) (ns := ns) (k := kk') (tk := tk) hB hC (by rw [fx 0 (by decide) (by decide)]; exact hM1) (by rw [w2 5 (by decide)]; exact i2) (by rw [fx 16 (by decide) (by decide)]; exact i6) (show t < 200 by omega) (by rw [x29]; exact w3) (by rw [x29]; exact x26) hAx (by rw [x29, w2 2 (by decide), fx 28 (by decide) (by decide)]; exact hkk) htk (by rw [fx 27 (by decide) (by decide)]; exact ht7) (by rw [x29]; exact hun)
      rw [a1, b2_k, a2, b1_k]
      have fvx : ∀ k, k < 27 → k ≠ 26 → vX k = x k := fun k hk hk' => by rw [a13 k (by omega) (by omega) (by omega) (by omega) (by omega) (by omega) (by omega) (by omega), fx k hk' (by omega)]
      have fvx' : ∀ k, 33 < k → k < 40 → vX k = xx k := fun k hk hk' => a13 k (by omega) (by omega) (by omega) (by omega) (by omega) (by omega) (by omega) (by omega)
      have fvy : ∀ k, k ≠ 2 → k ≠ 7 → vY k = y k := fun k hk hk' => by rw [a11 k hk hk', w2 k hk']
      have vc4 : vC 4 = c 4 := a12 4 (by decide) (by decide) (by decide) (by decide) (by decide) (by decide) (by decide) (by decide) (by decide)
      refine q_run_77 hB hC hM hl a b e a' b' e' k n (t + 1) vY s vC vX (by omega) (by omega) ⟨⟨?_, ?_, ?_, ?_, ?_, ?_, ?_⟩, a3, a8, ⟨tk', a5, a6⟩, a7, ?_, ?_, ⟨e0, ?_⟩, fun _ hns => a14 hns (by rw [x29, fx 30 (by decide) (by decide)]; obtain ⟨q1, q2, q3⟩ := hKK hl2 hns; exact ⟨q1, fun i hi z => by rw [w2 2 (by decide)]; exact q2 i hi z, q3⟩), fun _ => ⟨k', a4⟩, fun z => absurd hl2 z⟩
      · rw [fvy 4 (by decide) (by decide)]; exact i1
      · rw [fvy 5 (by decide) (by decide)]; exact i2
      · rw [fvy 6 (by decide) (by decide)]; exact i3
      · intro k hk; rw [fvx k (by omega) (by omega)]; exact i4 k hk
      · rw [fvx 15 (by omega) (by omega)]; exact i5
      · rw [fvx 16 (by omega) (by omega)]; exact i6
      · rw [fvx 17 (by omega) (by omega)]; exact i7
      · intro w hw
        rw [a9, a10, vc4, fvx' 34 (by omega) (by omega), x34, fx 33 (by decide) (by decide)]
        by_cases q : w = t
        · subst q
          rw [upd_s, upd_s, upd_s]
          exact ⟨rfl, hc4 w (Nat.le_refl _) (by omega)⟩
        · rw [upd_n q, upd_n q, upd_n q]; exact h34 w (by omega)
      · intro w hw hw'; rw [vc4]; exact hc4 w (by omega) hw'
      · obtain ⟨z1, z2, z3, z4⟩ := hE_of (c' := vC) (x' := vX) he (a12 10 (by decide) (by decide) (by decide) (by decide) (by decide) (by decide) (by decide) (by decide) (by decide)) (a12 11 (by decide) (by decide) (by decide) (by decide) (by decide) (by decide) (by decide) (by decide) (by decide)) (a12 12 (by decide) (by decide) (by decide) (by decide) (by decide) (by decide) (by decide) (by decide) (by decide)) (a12 13 (by decide) (by decide) (by decide) (by decide) (by decide) (by decide) (by decide) (by decide) (by decide)) (by rw [fvx' 35 (by omega) (by omega), fx 35 (by decide) (by decide)]) (by rw [fvx' 36 (by omega) (by omega), fx 36 (by decide) (by decide)]) (by rw [fvx' 37 (by omega) (by omega), fx 37 (by decide) (by decide)]) (by rw [fvx' 38 (by omega) (by omega), fx 38 (by decide) (by decide)])
        exact ⟨z1, z2, by omega, z4⟩
    · obtain ⟨g, hg1, hg2, hg3⟩ := hG hl2
      rw [if_neg (show ¬ nI l = 2 from eq_f (b := 2) hl2 (by omega) (by omega)), if_neg (show ¬ nI l = 2 from eq_f (b := 2) hl2 (by omega) (by omega))]
      obtain ⟨vY, vS, vC, vX, a1, a2, g', tk', a3, a4, a5, a6, a7, ⟨v, a8, a9⟩, a10, a11, a12, a13, a14, a15⟩ := q_groups (u := u) (y := wY) (s := s) (x := xx) (ns := ns) (l := l) (g := g) (tk := tk) hB hC (by rw [fx 0 (by decide) (by decide)]; exact hM1) (show t < 200 by omega) hl hl2 hg1 (by rw [w2 4 (by decide)]; exact i1) (by rw [w2 5 (by decide)]; exact i2) (by rw [fx 15 (by decide) (by decide)]; exact i5) (by rw [fx 16 (by decide) (by decide)]; exact i6) (by rw [fx 17 (by decide) (by decide)]; exact i7) (by rw [fx 22 (by decide) (by decide)]; exact hg2) (by rw [x29]; exact w3) (by rw [x29]; exact x26) hAx (by rw [x29]; exact hGx_of (hGx_wel hg3) w2 rfl fx) htk (by rw [fx 27 (by decide) (by decide)]; exact ht7)
      rw [a1, b3_k, a2, b1_k]
      have he' : ∃ e1, hE (t + 1) e1 vC vX := by
        obtain ⟨_, _, _, _, _, _, _, _, e1, z⟩ := a5
        exact ⟨e1, z.2.2.2.2.2.2.2.2⟩
      refine q_run_77 hB hC hM hl a b e a' b' e' k n (t + 1) vY vS vC vX (by omega) (by omega) ⟨⟨?_, ?_, ?_, ?_, ?_, ?_, ?_⟩, a4, a7, ⟨tk', a11, a12⟩, ?_, ?_, ?_, he', fun z => absurd z hl2, fun z => absurd z hl2, fun _ => ⟨g', by omega, a6, a5⟩⟩
      · rw [a14 4 (by omega), w2 4 (by decide)]; exact i1
      · rw [a14 5 (by omega), w2 5 (by decide)]; exact i2
      · rw [a14 6 (by omega), w2 6 (by decide)]; exact i3
      · intro k hk; rw [a15 k (by omega), fx k (by omega) (by omega)]; exact i4 k hk
      · rw [a15 15 (by omega), fx 15 (by decide) (by decide)]; exact i5
      · rw [a15 16 (by omega), fx 16 (by decide) (by decide)]; exact i6
      · rw [a15 17 (by omega), fx 17 (by decide) (by decide)]; exact i7
      · intro i hi hd; exact a13 i hi hd (by rw [x29]; exact hun i hi (by omega))
      · intro w hw
        rw [a8, a9, fx 33 (by decide) (by decide)]
        rcases a10 with ⟨z1, z2⟩ | ⟨z1, z2⟩
        · rw [z1, z2, x34]
          by_cases q : w = t
          · subst q
            rw [upd_s, upd_s, upd_s]
            exact ⟨rfl, hc4 w (Nat.le_refl _) (by omega)⟩
          · rw [upd_n q, upd_n q, upd_n q]; exact h34 w (by omega)
        · rw [z1, z2, x34]
          by_cases q : w = t
          · subst q
            rw [upd_s, upd_s, upd_s, upd_s]
            exact ⟨rfl, rfl⟩
          · rw [upd_n q, upd_n q, upd_n q, upd_n q, upd_n q]; exact h34 w (by omega)
      · intro w hw hw'
        rcases a10 with ⟨z1, z2⟩ | ⟨z1, z2⟩
        · rw [z1]; exact hc4 w (by omega) hw'
        · rw [z1, upd_n (by omega)]; exact hc4 w (by omega) hw'
