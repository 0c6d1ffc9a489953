/-! pure: groups and how they split -/
def hS (g : Nat) (Gm : Nat → Nat → Bool) (Ga Gb : Nat → Nat) (s x : Nat → Nat → Int32) : Prop := s 3 0 = nI g ∧ ∀ j, j < g → s 0 j = mz (Gm j) ∧ s 1 j = nI (Ga j) ∧ s 2 j = nI (Gb j) ∧ x 18 j = mz (Gm j) ∧ x 19 j = nI (Ga j) ∧ x 20 j = nI (Gb j)
def hW (d : Nat → Nat) (l g : Nat) (Gm : Nat → Nat → Bool) (Ga Gb : Nat → Nat) : Prop := ∀ j, j < g → Ga j ≤ Gb j ∧ Gb j < 2 ^ 20 ∧ ∀ i, i < 10 → Gm j i = true → i < d 4 ∧ (l = 3 → Ga j ≤ mo d i ∧ mo d i < Gb j)
def hP (g : Nat) (Gm : Nat → Nat → Bool) (P : Nat → Bool) : Prop := ∀ j, j < g → ∀ i, i < 10 → Gm j i = true → P i = true
def hD (g : Nat) (Gm : Nat → Nat → Bool) : Prop := ∀ j k, j < g → k < g → j ≠ k → ∀ i, i < 10 → Gm j i = true → Gm k i = false
theorem q_push {s : Nat → Nat → Int32} {q : Nat} (a b e : Int32) (h : s 3 0 = nI q) (hq : q < 201) : ∃ w, f_S_push s a b e = some w ∧ w 3 0 = nI (q + 1) ∧ w 0 = upd (s 0) q a ∧ w 1 = upd (s 1) q b ∧ w 2 = upd (s 2) q e := by
  unfold f_S_push
  refine ⟨_, rfl, ?_, ?_, ?_, ?_⟩
  · show (s 3 0) + 1 = _
    rw [h, pu_one]
  · show mkPut 201 (s 0) (s 3 0) a = _
    rw [h, mkPut_ok hq (by omega)]
  · show mkPut 201 (s 1) (s 3 0) b = _
    rw [h, mkPut_ok hq (by omega)]
  · show mkPut 201 (s 2) (s 3 0) e = _
    rw [h, mkPut_ok hq (by omega)]
theorem q_pop {s : Nat → Nat → Int32} {q : Nat} (h : s 3 0 = nI (q + 1)) (hq : q < 201) : ∃ w, f_S_pop s = some w ∧ w 3 0 = nI q ∧ w 0 = s 0 ∧ w 1 = s 1 ∧ w 2 = s 2 := by
  unfold f_S_pop
  rw [h, if_neg (le_f0 (by omega) (by omega)), pu_s1]
  exact ⟨_, rfl, rfl, rfl, rfl, rfl⟩
theorem q_mid {a b : Nat} (h : a ≤ b) (hb : b < 2 ^ 20) : nI a + (nI b - nI a) / 2 = nI (a + (b - a) / 2) := by
  rw [pk_sub h, show (2 : Int32) = nI 2 from rfl, pk_div (by omega) (by omega) (by omega), pu_add]
theorem upd_a {f : Nat → Int32} {a b : Int32} {q j : Nat} : upd (upd f q a) (q + 1) b j = if j = q then a else if j = q + 1 then b else f j := by
  by_cases z1 : j = q
  · rw [if_pos z1, upd_n (by omega), z1, upd_s]
  · rw [if_neg z1]
    by_cases z2 : j = q + 1
    · rw [if_pos z2, z2, upd_s]
    · rw [if_neg z2, upd_n z2, upd_n z1]
theorem upd_b {f : Nat → Int32} {a b : Int32} {q j : Nat} : upd (upd f (q + 1) b) q a j = if j = q then a else if j = q + 1 then b else f j := by
  by_cases z1 : j = q
  · rw [if_pos z1, z1, upd_s]
  · rw [if_neg z1, upd_n z1]
    by_cases z2 : j = q + 1
    · rw [if_pos z2, z2, upd_s]
    · rw [if_neg z2, upd_n z2]
def sp {α : Type} (q : Nat) (a b : α) (f : Nat → α) : Nat → α := fun j => if j = q then a else if j = q + 1 then b else f j
theorem q_split81 {d : Nat → Nat} {u y s c x : Nat → Nat → Int32} {l q : Nat} {Gm : Nat → Nat → Bool} {Ga Gb : Nat → Nat} {E L : Nat → Bool} (hq : q + 2 ≤ 201) (h : hS (q + 1) Gm Ga Gb s x) (h21 : x 21 0 = nI (q + 1)) (hEL : ∀ i, i < 10 → (Gm q i && !E i) = L i ∧ (Gm q i && !L i) = E i) (m : Nat) : ∃ wS wX, f_Y_splitTop_81 u (mz (Gm q)) (nI (Ga q)) (nI (Gb q)) (nI m) (mz E) y s c = some (upF 10 1 y, wS, c) ∧ f_X_splits_111 (nI q) (mz (Gm q)) (mz L) (nI m) x = some wX ∧ hS (q + 2) (sp q L E Gm) (sp q m (Ga q) Ga) (sp q (Gb q) m Gb) wS wX ∧ wX 21 0 = nI (q + 2) ∧ (∀ k, k ≠ 18 → k ≠ 19 → k ≠ 20 → k ≠ 21 → wX k = x k) := by
  obtain ⟨h3, hj⟩ := h
  obtain ⟨_, _, _, _, x19, x20⟩ := hj q (by omega)
  obtain ⟨s1, e1, a3, a0, a1, a2⟩ := q_pop h3 (by omega)
  obtain ⟨s2, e2, b3, b0, b1', b2'⟩ := q_push (mz L) (nI m) (nI (Gb q)) a3 (by omega)
  obtain ⟨s3, e3, c3, c0, c1, c2⟩ := q_push (mz E) (nI (Ga q)) (nI m) b3 (by omega)
  have eE : mz (Gm q) &&& (mz E ^^^ (-1)) = mz L := by rw [mz_anot]; exact mz_congr (fun i hi => (hEL i hi).1)
  have eL : mz (Gm q) &&& (mz L ^^^ (-1)) = mz E := by rw [mz_anot]; exact mz_congr (fun i hi => (hEL i hi).2)
  have eY : f_Y_splitTop_81 u (mz (Gm q)) (nI (Ga q)) (nI (Gb q)) (nI m) (mz E) y s c = some (upF 10 1 y, s3, c) := by
    unfold f_Y_splitTop_81
    rw [e1, b1_k, eE, e2, b1_k, e3, b1_k]
  have eX : f_X_splits_111 (nI q) (mz (Gm q)) (mz L) (nI m) x = some (upF 21 (nI (q + 2)) (upR 19 (upd (upd (x 19) (q + 1) (nI (Ga q))) q (nI m)) (upR 18 (upd (upd (x 18) (q + 1) (mz E)) q (mz L)) (upR 20 (upd (x 20) (q + 1) (nI m)) (upR 19 (upd (x 19) (q + 1) (nI (Ga q))) (upR 18 (upd (x 18) (q + 1) (mz E)) x)))))) := by
    unfold f_X_splits_111
    rw [pu_one, gI_ok (by omega) (by omega), gI_ok (by omega) (by omega), eL, pu_cl (by omega), pu_cl (by omega), h21, pu_one, x19]
  refine ⟨s3, _, eY, eX, ⟨c3, ?_⟩, rfl, ?_⟩
  · intro j hjlt
    rw [c0, c1, c2, b0, b1', b2', a0, a1, a2]
    show upd (upd (s 0) q (mz L)) (q + 1) (mz E) j = _ ∧ upd (upd (s 1) q (nI m)) (q + 1) (nI (Ga q)) j = _ ∧ upd (upd (s 2) q (nI (Gb q))) (q + 1) (nI m) j = _ ∧ upd (upd (x 18) (q + 1) (mz E)) q (mz L) j = _ ∧ upd (upd (x 19) (q + 1) (nI (Ga q))) q (nI m) j = _ ∧ upd (x 20) (q + 1) (nI m) j = _
    unfold sp
    rw [upd_a, upd_a, upd_a, upd_b, upd_b]
    by_cases z1 : j = q
    · rw [if_pos z1, if_pos z1, if_pos z1, if_pos z1, if_pos z1, if_pos z1, if_pos z1, if_pos z1, upd_n (by omega)]
      rw [z1]
      exact ⟨rfl, rfl, rfl, rfl, rfl, x20⟩
    · rw [if_neg z1, if_neg z1, if_neg z1, if_neg z1, if_neg z1, if_neg z1, if_neg z1, if_neg z1]
      by_cases z2 : j = q + 1
      · rw [if_pos z2, if_pos z2, if_pos z2, if_pos z2, if_pos z2, if_pos z2, if_pos z2, if_pos z2, z2, upd_s]
        exact ⟨rfl, rfl, rfl, rfl, rfl, rfl⟩
      · rw [if_neg z2, if_neg z2, if_neg z2, if_neg z2, if_neg z2, if_neg z2, if_neg z2, if_neg z2, upd_n z2]
        exact hj j (by omega)
  · intro k k18 k19 k20 k21
    rw [upF_n k21, upR_n k19, upR_n k18, upR_n k20, upR_n k19, upR_n k18]
theorem q_split {d : Nat → Nat} {u y s c x : Nat → Nat → Int32} {l q : Nat} {Gm : Nat → Nat → Bool} {Ga Gb tk : Nat → Nat} (hB : mk_BD d) (hC : mk_CQ u d) (hM : mk_MP (x 0) d) (hq : q + 2 ≤ 201) (h : hS (q + 1) Gm Ga Gb s x) (hw : hW d l (q + 1) Gm Ga Gb) (h21 : x 21 0 = nI (q + 1)) (hl : l ≤ 3) (hy4 : y 4 0 = nI l) (hx15 : x 15 0 = nI l) (htk : ∀ i, tk i < 2 ^ 30) (ht7 : ∀ i, i < d 4 → c 7 i = nI (tk i) ∧ x 27 i = nI (tk i)) : ∃ (Gm' : Nat → Nat → Bool) (Ga' Gb' tk' : Nat → Nat) (wS wC wX : Nat → Nat → Int32), f_Y_splitTop y u s c = some (upF 10 1 y, wS, wC) ∧ f_X_splits x = some wX ∧ hS (q + 2) Gm' Ga' Gb' wS wX ∧ hW d l (q + 2) Gm' Ga' Gb' ∧ (∀ P, hP (q + 1) Gm P → hP (q + 2) Gm' P) ∧ (hD (q + 1) Gm → hD (q + 2) Gm') ∧ wX 21 0 = nI (q + 2) ∧ (∀ i, tk' i ≤ tk i + 1) ∧ (∀ i, i < d 4 → wC 7 i = nI (tk' i) ∧ wX 27 i = nI (tk' i)) ∧ (∀ k, k ≠ 7 → wC k = c k) ∧ (∀ k, k ≠ 18 → k ≠ 19 → k ≠ 20 → k ≠ 21 → k ≠ 27 → wX k = x k) := by
  have h4 : d 4 ≤ 10 := hB.2.2.2.2.1
  have hh := h
  obtain ⟨h3, hj⟩ := hh
  obtain ⟨s0, s1, s2, x18, x19, x20⟩ := hj q (by omega)
  obtain ⟨w1, w2, w3⟩ := hw q (by omega)
  have hGd : ∀ i, i < 10 → Gm q i = true → i < d 4 := fun i hi z => (w3 i hi z).1
  have gen : ∀ (E L : Nat → Bool) (m : Nat), m = Ga q + (Gb q - Ga q) / 2 → (∀ i, i < 10 → (Gm q i && !E i) = L i ∧ (Gm q i && !L i) = E i) → (l = 3 → (∀ i, i < 10 → E i = true → Ga q ≤ mo d i ∧ mo d i < m) ∧ (∀ i, i < 10 → L i = true → m ≤ mo d i ∧ mo d i < Gb q)) → hW d l (q + 2) (sp q L E Gm) (sp q m (Ga q) Ga) (sp q (Gb q) m Gb) ∧ (∀ P, hP (q + 1) Gm P → hP (q + 2) (sp q L E Gm) P) ∧ (hD (q + 1) Gm → hD (q + 2) (sp q L E Gm)) := by
    intro E L m hm hEL hwin
    have hEG : ∀ i, i < 10 → E i = true → Gm q i = true ∧ L i = false := by
      intro i hi z
      have := (hEL i hi).2
      rw [z] at this
      simp at this; exact this
    have hLG : ∀ i, i < 10 → L i = true → Gm q i = true ∧ E i = false := by
      intro i hi z
      have := (hEL i hi).1
      rw [z] at this
      simp at this; exact this
    refine ⟨?_, ?_, ?_⟩
    · intro j hjlt
      unfold sp
      by_cases z1 : j = q
      · rw [if_pos z1, if_pos z1, if_pos z1]
        exact ⟨by omega, w2, fun i hi z => ⟨hGd i hi (hLG i hi z).1, fun z3 => (hwin z3).2 i hi z⟩⟩
      · rw [if_neg z1, if_neg z1, if_neg z1]
        by_cases z2 : j = q + 1
        · rw [if_pos z2, if_pos z2, if_pos z2]
          exact ⟨by omega, by omega, fun i hi z => ⟨hGd i hi (hEG i hi z).1, fun z3 => (hwin z3).1 i hi z⟩⟩
        · rw [if_neg z2, if_neg z2, if_neg z2]
          exact hw j (by omega)
    · intro P hP' j hjlt i hi z
      unfold sp at z
      by_cases z1 : j = q
      · rw [if_pos z1] at z; exact hP' q (by omega) i hi (hLG i hi z).1
      · rw [if_neg z1] at z
        by_cases z2 : j = q + 1
        · rw [if_pos z2] at z; exact hP' q (by omega) i hi (hEG i hi z).1
        · rw [if_neg z2] at z; exact hP' j (by omega) i hi z
    · intro hD' j k hj hk hjk i hi z
      unfold sp at z ⊢
      have nG : ∀ j, j < q + 1 → j ≠ q → Gm j i = true → Gm q i = true → False := fun j hj hne za zb => by
        have := hD' j q hj (by omega) hne i hi za
        rw [zb] at this; cases this
      by_cases z1 : j = q
      · rw [if_pos z1] at z
        obtain ⟨y1, y2⟩ := hLG i hi z
        rw [if_neg (show ¬ k = q by omega)]
        by_cases z2 : k = q + 1
        · rw [if_pos z2]; exact y2
        · rw [if_neg z2]; exact hD' q k (by omega) (by omega) (by omega) i hi y1
      · rw [if_neg z1] at z
        by_cases z2 : j = q + 1
        · rw [if_pos z2] at z
          obtain ⟨y1, y2⟩ := hEG i hi z
          by_cases z3 : k = q
          · rw [if_pos z3]; exact y2
          · rw [if_neg z3, if_neg (show ¬ k = q + 1 by omega)]; exact hD' q k (by omega) (by omega) (by omega) i hi y1
        · rw [if_neg z2] at z
          by_cases z3 : k = q
          · rw [if_pos z3]
            cases e : L i
            · rfl
            · exact (nG j (by omega) z1 z (hLG i hi e).1).elim
          · rw [if_neg z3]
            by_cases z4 : k = q + 1
            · rw [if_pos z4]
              cases e : E i
              · rfl
              · exact (nG j (by omega) z1 z (hEG i hi e).1).elim
            · rw [if_neg z4]; exact hD' j k (by omega) (by omega) hjk i hi z
  have eY0 : f_Y_splitTop y u s c = if nI l = 3 then b1 (f_Y_within u (mz (Gm q)) (nI (Ga q)) (nI (Ga q + (Gb q - Ga q) / 2))) (fun r13 => (f_Y_splitTop_81 u (mz (Gm q)) (nI (Ga q)) (nI (Gb q)) (nI (Ga q + (Gb q - Ga q) / 2)) r13 y s c)) else b2 (f_Y_takeBits u c (mz (Gm q))) (fun r10 uC_11 => (f_Y_splitTop_81 u (mz (Gm q)) (nI (Ga q)) (nI (Gb q)) (nI (Ga q + (Gb q - Ga q) / 2)) r10 y s uC_11)) := by
    unfold f_Y_splitTop f_S_topWho
    rw [h3, pu_s1, mkAt_ok (by omega) (by omega), mkAt_ok (by omega) (by omega), mkAt_ok (by omega) (by omega), s0, s1, s2, b1_k, q_mid w1 w2, hy4]
  have eX0 : f_X_splits x = if nI l = 3 then b1 (f_X_between x (mz (Gm q)) (nI (Ga q + (Gb q - Ga q) / 2)) (nI (Gb q))) (fun r13 => (f_X_splits_111 (nI q) (mz (Gm q)) r13 (nI (Ga q + (Gb q - Ga q) / 2)) x)) else (f_X_splits_68 600 (nI q) (mz (Gm q)) 0 (nI (Ga q + (Gb q - Ga q) / 2)) 0 x) := by
    unfold f_X_splits
    rw [h21, pu_s1, gI_ok (by omega) (by omega), pu_cl (by omega), x18, x19, x20, q_mid w1 w2, hx15]
  by_cases hl3 : l = 3
  · subst hl3
    have hEL : ∀ i, i < 10 → (Gm q i && !(win d (Gm q) (Ga q) (Ga q + (Gb q - Ga q) / 2)) i) = (win d (Gm q) (Ga q + (Gb q - Ga q) / 2) (Gb q)) i ∧ (Gm q i && !(win d (Gm q) (Ga q + (Gb q - Ga q) / 2) (Gb q)) i) = (win d (Gm q) (Ga q) (Ga q + (Gb q - Ga q) / 2)) i := by
      intro i hi
      unfold win
      cases hg : Gm q i
      · exact ⟨rfl, rfl⟩
      · have := (w3 i hi hg).2 rfl
        by_cases z : mo d i < Ga q + (Gb q - Ga q) / 2
        · simp [z, this.1, show ¬ Ga q + (Gb q - Ga q) / 2 ≤ mo d i by omega]
        · simp [z, this.2, show Ga q + (Gb q - Ga q) / 2 ≤ mo d i by omega]
    obtain ⟨wS, wX, f1, f2, f3, f4, f5⟩ := q_split81 (d := d) (u := u) (y := y) (c := c) (l := 3) hq h h21 hEL (Ga q + (Gb q - Ga q) / 2)
    obtain ⟨g1, g2, g3⟩ := gen _ _ _ rfl hEL (fun _ => ⟨fun i hi z => by unfold win at z; simp at z; exact z.2, fun i hi z => by unfold win at z; simp at z; exact z.2⟩)
    refine ⟨_, _, _, tk, wS, c, wX, ?_, ?_, f3, g1, g2, g3, f4, fun i => by omega, ?_, fun _ _ => rfl, fun k k18 k19 k20 k21 _ => f5 k k18 k19 k20 k21⟩
    · rw [eY0, if_pos (show nI 3 = 3 from rfl), q_within hB hC hGd (by omega) (by omega), b1_k, f1]
    · rw [eX0, if_pos (show nI 3 = 3 from rfl), q_between hB hM hGd (by omega) (by omega), b1_k, f2]
    · intro i hi; rw [f5 27 (by decide) (by decide) (by decide) (by decide)]; exact ht7 i hi
  · have hn3 : ¬ nI l = 3 := eq_f (b := 3) hl3 (by omega) (by omega)
    obtain ⟨gc, ec, hc⟩ := q_takeBits (k := tk) hB hC hGd htk c (fun j hj => (ht7 j hj).1)
    obtain ⟨gx, ex, hx⟩ := q_splits_68 (k := tk) hB hGd htk (nI q) (nI (Ga q + (Gb q - Ga q) / 2)) 10 600 0 x (by omega) (by omega) hM (fun j hj => by rw [(ht7 j hj).2]; unfold kk pf; simp)
    rw [pf_0] at ex
    have hEL : ∀ i, i < 10 → (Gm q i && !(fun j => Gm q j && !tb d j (tk j)) i) = (fun j => Gm q j && tb d j (tk j)) i ∧ (Gm q i && !(fun j => Gm q j && tb d j (tk j)) i) = (fun j => Gm q j && !tb d j (tk j)) i := by
      intro i _
      show (Gm q i && !(Gm q i && !tb d i (tk i))) = (Gm q i && tb d i (tk i)) ∧ (Gm q i && !(Gm q i && tb d i (tk i))) = (Gm q i && !tb d i (tk i))
      cases Gm q i <;> cases tb d i (tk i) <;> exact ⟨rfl, rfl⟩
    have h' : hS (q + 1) Gm Ga Gb s (upR 27 gx x) := h
    obtain ⟨wS, wX, f1, f2, f3, f4, f5⟩ := q_split81 (d := d) (u := u) (y := y) (c := upR 7 gc c) (l := l) hq h' h21 hEL (Ga q + (Gb q - Ga q) / 2)
    obtain ⟨g1, g2, g3⟩ := gen _ _ _ rfl hEL (fun z => absurd z hl3)
    refine ⟨_, _, _, kk (Gm q) tk 10, wS, upR 7 gc c, wX, ?_, ?_, f3, g1, g2, g3, f4, ?_, ?_, fun k hk => upR_n hk, fun k k18 k19 k20 k21 k27 => by rw [f5 k k18 k19 k20 k21, upR_n k27]⟩
    · rw [eY0, if_neg hn3, ec, b2_k, f1]
    · rw [eX0, if_neg hn3, show (0 : Int32) = nI 0 from rfl]
      exact ex.trans f2
    · intro i; unfold kk; split <;> omega
    · intro i hi
      rw [f5 27 (by decide) (by decide) (by decide) (by decide), upR_s, upR_s]
      exact ⟨hc i hi, hx i hi⟩
