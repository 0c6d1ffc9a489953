/-! pure: by counters -/
def mxc (Q : Nat → Bool) (nc : Nat → Nat) : Nat → Nat
  | 0 => 0
  | i + 1 => if Q i then (if mxc Q nc i ≤ nc i then nc i + 1 else mxc Q nc i) else mxc Q nc i
theorem mxc_le {Q : Nat → Bool} {nc : Nat → Nat} {B : Nat} (h : ∀ i, i < 10 → Q i = true → nc i ≤ B) : ∀ i, i ≤ 10 → mxc Q nc i ≤ B + 1
  | 0, _ => by rw [mxc]; omega
  | i + 1, hi => by
    have := mxc_le h i (by omega)
    rw [mxc]
    split
    · rename_i q
      have := h i (by omega) q
      split <;> omega
    · exact this
theorem mxc_end {Q : Nat → Bool} {nc : Nat → Nat} {i : Nat} (hi : i ≤ 10) (h : ∀ j, i ≤ j → j < 10 → Q j = false) : mxc Q nc i = mxc Q nc 10 := by
  have : ∀ k, i + k ≤ 10 → mxc Q nc (i + k) = mxc Q nc i := by
    intro k
    induction k with
    | zero => intro _; rfl
    | succ k ih =>
      intro hk
      rw [← Nat.add_assoc, mxc, h (i + k) (by omega) (by omega), if_neg (by decide)]
      exact ih (by omega)
  rw [← this (10 - i) (by omega), show i + (10 - i) = 10 by omega]
def ncc (d : Nat → Nat) (M : Nat → Bool) (r : Nat) (k tk : Nat → Nat) (i : Nat) : Nat := if M i then (if r = 2 then (if tb d i (tk i) then 1 else 0) else 0) else (if r = 2 then k i + 1 else k i - 1)
def tkm (M Q : Nat → Bool) (r : Nat) : Nat → Bool := fun i => Q i && (M i && decide (r = 2))
theorem q_maxY (m c : Nat) (hm : m < 2 ^ 30) (hc : c < 2 ^ 30) : (if nI m - 1 < nI c then nI c else nI m - 1) = nI (if m ≤ c then c + 1 else m) - 1 := by
  by_cases h : m ≤ c
  · rw [if_pos (by rw [q_m1lt hc hm]; exact h), if_pos h, pu_s1]
  · rw [if_neg (by rw [q_m1lt hc hm]; exact h), if_neg h]
theorem q_maxX (m c : Nat) (hm : m < 2 ^ 30) (hc : c < 2 ^ 30) : (if nI m < nI c + 1 then nI c + 1 else nI m) = nI (if m ≤ c then c + 1 else m) := by
  rw [pu_one]
  by_cases h : m ≤ c
  · rw [if_pos (lt_t (by omega) (by omega)), if_pos h]
  · rw [if_neg (lt_f (by omega) (by omega)), if_neg h]
theorem bi_n (b : Bool) : bi b = nI (if b then 1 else 0) := by cases b <;> rfl
theorem q_cntY {d : Nat → Nat} {u : Nat → Nat → Int32} {M Q : Nat → Bool} {r t B : Nat} {k tk : Nat → Nat} (hB : mk_BD d) (hC : mk_CQ u d) (ht : t < 200) (hr : r ≤ 2) (hQ : ∀ i, i < 10 → Q i = true → i < d 4) (hk : ∀ i, i < 10 → Q i = true → (M i = true → k i = 0) ∧ (M i = false → 1 ≤ k i)) (hkB : ∀ i, i < 10 → Q i = true → ncc d M r k tk i ≤ B) (hBB : B < 2 ^ 20) (htk : ∀ i, tk i < 2 ^ 30) : ∀ kf n i (y c : Nat → Nat → Int32), i + kf = 10 → kf < n → y 7 0 = mz Q → (∀ j, j < 10 → Q j = true → y 2 j = nI (if j < i then ncc d M r k tk j else k j)) → (∀ j, j < d 4 → c 7 j = nI (kk (tkm M Q r) tk i j)) → ∃ wY wC, f_Y_playByCounters_72 u (nI t) n (mz M) (nI r) (nI (mxc Q (ncc d M r k tk) i) - 1) (nI i) y c = some (wY, wC) ∧ (∀ j, j < 10 → Q j = true → wY 2 j = nI (ncc d M r k tk j)) ∧ (∀ j, j < d 4 → wC 7 j = nI (kk (tkm M Q r) tk 10 j)) ∧ wC 3 = upd (c 3) t (nI (mxc Q (ncc d M r k tk) 10)) ∧ (∀ k, k ≠ 2 → wY k = y k) ∧ (∀ k, k ≠ 3 → k ≠ 7 → wC k = c k) ∧ (∀ j, Q j = false → wY 2 j = y 2 j)
  | kf, n, i, y, c, hi, hn, hy7, hy2, hc7 => by
    have h4 : d 4 ≤ 10 := hB.2.2.2.2.1
    have h5 : u 5 0 = nI (d 4) := hC.2.2.2.2.2.1
    obtain ⟨n, rfl, hn'⟩ := q_fu hn
    have fin : (∀ j, i ≤ j → j < 10 → Q j = false) → ∃ wY wC, f_Y_playByCounters_169 u (nI t) (nI (mxc Q (ncc d M r k tk) i) - 1) y c = some (wY, wC) ∧ (∀ j, j < 10 → Q j = true → wY 2 j = nI (ncc d M r k tk j)) ∧ (∀ j, j < d 4 → wC 7 j = nI (kk (tkm M Q r) tk 10 j)) ∧ wC 3 = upd (c 3) t (nI (mxc Q (ncc d M r k tk) 10)) ∧ (∀ k, k ≠ 2 → wY k = y k) ∧ (∀ k, k ≠ 3 → k ≠ 7 → wC k = c k) ∧ (∀ j, Q j = false → wY 2 j = y 2 j) := by
      intro hh
      unfold f_Y_playByCounters_169
      refine ⟨_, _, rfl, ?_, ?_, ?_, fun _ _ => rfl, fun k h3 _ => upR_n h3, fun _ _ => rfl⟩
      · intro j hj hq
        rcases Nat.lt_or_ge j i with q | q
        · rw [hy2 j hj hq, if_pos q]
        · rw [hh j q hj] at hq; cases hq
      · intro j hj
        show c 7 j = _
        rw [hc7 j hj, kk_end (fun j h1 h2 => by unfold tkm; rw [hh j h1 h2]; rfl) (by omega)]
      · rw [upR_s, mkPut_ok ht (by omega), mxc_end (by omega) hh]
        congr 1
        apply Int32.toInt_inj.mp
        simp
    rw [f_Y_playByCounters_72, h5, hy7]
    by_cases h1 : d 4 ≤ i
    · rw [if_pos (le_t h1 (by omega))]
      refine fin (fun j hj hj' => ?_)
      cases hPj : Q j
      · rfl
      · have := hQ j hj' hPj; omega
    rw [if_neg (le_f (Nat.lt_of_not_le h1) (by omega))]
    by_cases h2 : mz Q >>> (nI i &&& 31) = 0
    · rw [if_pos h2]
      exact fin (mz_stop (by omega) h2)
    obtain ⟨kf, rfl⟩ : ∃ k', kf = k' + 1 := ⟨kf - 1, by omega⟩
    have hi' : i < 10 := by omega
    rw [if_neg h2, pu_one]
    cases hp : Q i
    · rw [if_neg (mz_b1F hi' hp)]
      have e : mxc Q (ncc d M r k tk) (i + 1) = mxc Q (ncc d M r k tk) i := by rw [mxc, hp]; rfl
      rw [← e]
      refine q_cntY hB hC ht hr hQ hk hkB hBB htk kf n (i + 1) y c (by omega) (by omega) hy7 (fun j hj hq => ?_) (fun j hj => ?_)
      · rw [hy2 j hj hq]
        have : j ≠ i := fun z => by subst z; rw [hp] at hq; cases hq
        by_cases q : j < i
        · rw [if_pos q, if_pos (by omega)]
        · rw [if_neg q, if_neg (by omega)]
      · rw [hc7 j hj, kk_no (by unfold tkm; rw [hp]; rfl)]
    · rw [if_pos (mz_b1T hi' hp)]
      obtain ⟨k1, k2⟩ := hk i hi' hp
      have hnB := hkB i hi' hp
      have hmB := mxc_le hkB i (by omega)
      have y2i : y 2 i = nI (k i) := by rw [hy2 i hi' hp, if_neg (by omega)]
      have c7i : c 7 i = nI (tk i) := by rw [hc7 i (by omega), kk_at]
      have emx : mxc Q (ncc d M r k tk) (i + 1) = if mxc Q (ncc d M r k tk) i ≤ ncc d M r k tk i then ncc d M r k tk i + 1 else mxc Q (ncc d M r k tk) i := by rw [mxc, hp]; rfl
      have key : ∀ (a b : Int32) (wC : Nat → Nat → Int32), f_Y_counterBehind y u c (nI i) a b = some (nI (ncc d M r k tk i), wC) → (∀ j, j < d 4 → wC 7 j = nI (kk (tkm M Q r) tk (i + 1) j)) → (∀ k, k ≠ 7 → wC k = c k) → ∃ wY wC, f_Y_playByCounters_141 u (nI t) (f_Y_playByCounters_72 u (nI t) n) (mz M) (nI r) (nI (mxc Q (ncc d M r k tk) i) - 1) (nI i) (nI i) (nI i) a b y c = some (wY, wC) ∧ (∀ j, j < 10 → Q j = true → wY 2 j = nI (ncc d M r k tk j)) ∧ (∀ j, j < d 4 → wC 7 j = nI (kk (tkm M Q r) tk 10 j)) ∧ wC 3 = upd (c 3) t (nI (mxc Q (ncc d M r k tk) 10)) ∧ (∀ k, k ≠ 2 → wY k = y k) ∧ (∀ k, k ≠ 3 → k ≠ 7 → wC k = c k) ∧ (∀ j, Q j = false → wY 2 j = y 2 j) := by
        intro a b wC e hw hwk
        unfold f_Y_playByCounters_141
        rw [e, b2_k, mkPut_ok hi' (by omega), mkAt_ok hi' (by omega), upd_s, q_maxY _ _ (by omega) (by omega), pu_one, ← emx]
        obtain ⟨wY, wC', g1, g2, g3, g4, g5, g6, g7⟩ := q_cntY hB hC ht hr hQ hk hkB hBB htk kf n (i + 1) (upR 2 (upd (y 2) i (nI (ncc d M r k tk i))) y) wC (by omega) (by omega) hy7 (fun j hj hq => by
          rw [upR_s]
          by_cases q : j = i
          · subst q; rw [upd_s, if_pos (by omega)]
          · rw [upd_n q, hy2 j hj hq]
            by_cases q : j < i
            · rw [if_pos q, if_pos (by omega)]
            · rw [if_neg q, if_neg (by omega)]) hw
        refine ⟨wY, wC', g1, g2, g3, ?_, ?_, ?_, ?_⟩
        · rw [g4, hwk 3 (by decide)]
        · intro k hk; rw [g5 k hk, upR_n hk]
        · intro k hk hk'; rw [g6 k hk hk', hwk k hk']
        · intro j hj; rw [g7 j hj, upR_s, upd_n (fun z => by subst z; rw [hp] at hj; cases hj)]
      have k131 : ∀ a, f_Y_playByCounters_131 u (nI t) (f_Y_playByCounters_72 u (nI t) n) (mz M) (nI r) (nI (mxc Q (ncc d M r k tk) i) - 1) (nI i) (nI i) (nI i) a y c = f_Y_playByCounters_141 u (nI t) (f_Y_playByCounters_72 u (nI t) n) (mz M) (nI r) (nI (mxc Q (ncc d M r k tk) i) - 1) (nI i) (nI i) (nI i) a (if r = 2 then 1 else 0) y c := by
        intro a
        unfold f_Y_playByCounters_131
        by_cases q : r = 2
        · subst q; rw [if_pos (show nI 2 = 2 from rfl), if_pos rfl]
        · rw [if_neg (show ¬ nI r = 2 from eq_f (b := 2) q (by omega) (by omega)), if_neg q]
      rw [k131, k131]
      have hsame : tkm M Q r i = false → ∀ j, j < d 4 → c 7 j = nI (kk (tkm M Q r) tk (i + 1) j) := fun z j hj => by rw [hc7 j hj, kk_no z]
      cases hm : M i
      · rw [if_neg (mz_b1F hi' hm)]
        refine key _ _ c ?_ (hsame (by unfold tkm; rw [hm]; simp)) (fun _ _ => rfl)
        unfold f_Y_counterBehind
        rw [mkAt_ok hi' (by omega), y2i, if_pos rfl]
        unfold ncc
        rw [hm]
        by_cases q : r = 2
        · subst q
          rw [if_neg (by decide), pu_one]; rfl
        · rw [if_neg q, if_pos rfl, if_neg (by decide), if_neg q, show nI (k i) - 1 = nI (k i - 1) from pk_sub (k2 hm)]
      · rw [if_pos (mz_b1T hi' hm)]
        by_cases q : r = 2
        · have hT : tkm M Q r i = true := by unfold tkm; simp [hp, hm, q]
          refine key _ _ (upR 7 (upd (c 7) i (nI (tk i + 1))) c) ?_ (by rw [upR_s]; exact kk_yes hT _ hc7) (fun k hk => upR_n hk)
          unfold f_Y_counterBehind
          rw [if_neg (by decide), if_pos q, if_neg (by decide), q_nextBit hB hC (by omega) (htk i) c7i, b2_k, bi_n]
          unfold ncc
          rw [hm, if_pos rfl, if_pos q]
        · refine key _ _ c ?_ (hsame (by unfold tkm; simp [q])) (fun _ _ => rfl)
          unfold f_Y_counterBehind
          rw [if_neg (by decide), if_neg q, if_pos rfl, mkAt_ok hi' (by omega), y2i]
          unfold ncc
          rw [hm, if_pos rfl, if_neg q, k1 hm]
