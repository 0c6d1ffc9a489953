/-! pure: what is heard; who sends; the history of the slots -/
theorem q_heardAt_2 {d : Nat → Nat} {u y x : Nat → Nat → Int32} (hB : mk_BD d) (hC : mk_CQ u d) (hM : mk_MP (x 0) d) (hy : y 5 0 = (-1)) (hx : x 16 0 = (-1)) (t b : Nat) (ht : t < 2 ^ 30) (hb : b < 2 ^ 30) : ∀ k n i, i + k = d 5 → k < n → ∃ r, r = hvN d t b k i ∧ r ≤ 2 ∧ f_Y_heardAt_2 y u (nI t) (if 2 < nI b then 2 else nI b) n (nI i) = some (nI r) ∧ f_X_heardAt_2 x (nI t) (nI b) n (nI i) = some (nI r)
  | 0, n, i, hk, hn => by
    have h5 : d 5 ≤ 10 := hB.2.2.2.2.2.1
    obtain ⟨n, rfl, hn'⟩ := q_fu hn
    rw [f_Y_heardAt_2, f_X_heardAt_2, hC.2.2.2.2.2.2.1, hM 5, if_pos (le_t (by omega) (by omega)), if_pos (le_t (by omega) (by omega))]
    have e2 : (2 : Int32) = nI 2 := rfl
    rw [e2]
    by_cases h2 : b < 2
    · exact ⟨b, by rw [hvN]; omega, by omega, by rw [if_neg (lt_f (by omega) (by omega))], by rw [if_pos (lt_t h2 (by omega))]⟩
    · refine ⟨2, by rw [hvN]; omega, by omega, ?_, by rw [if_neg (lt_f (by omega) (by omega))]⟩
      by_cases h3 : 2 < b
      · rw [if_pos (lt_t h3 (by omega))]
      · rw [if_neg (lt_f (by omega) (by omega)), show b = 2 by omega]
  | k + 1, n, i, hk, hn => by
    have h5 : d 5 ≤ 10 := hB.2.2.2.2.2.1
    obtain ⟨n, rfl, hn'⟩ := q_fu hn
    obtain ⟨c1, c2⟩ := hC.2.2.2.2.2.2.2.2 i (by omega)
    obtain ⟨b1, b2⟩ := hB.2.2.2.2.2.2.2.2.2 i (by omega)
    obtain ⟨r, hr0, hr, e1, e2⟩ := q_heardAt_2 hB hC hM hy hx t b ht hb k n (i + 1) (by omega) (by omega)
    rw [f_Y_heardAt_2, f_X_heardAt_2, hC.2.2.2.2.2.2.1, hM 5, if_neg (le_f (by omega) (by omega)), if_neg (le_f (by omega) (by omega)), pu_one, mkAt_ok (by omega) (by omega), mkAt_ok (by omega) (by omega), c1, c2, q_p37, q_p47, gI_ok (by omega) (by omega), gI_ok (by omega) (by omega), pu_cl (by omega), pu_cl (by omega), hM, hM, hy, hx]
    by_cases q : nI (d (37 + i)) = nI t
    · rw [if_pos q, if_pos q]
      by_cases q2 : nI i = (-1)
      · exact absurd q2 (pu_nm1 (by omega))
      · rw [if_neg q2, if_neg q2]; exact ⟨_, by rw [hvN, if_pos (pu_inj (by omega) (by omega) q)], b2, rfl, rfl⟩
    · rw [if_neg q, if_neg q]; exact ⟨r, by rw [hr0, hvN, if_neg (fun z => q (by rw [z]))], hr, e1, e2⟩
def cg (f : Nat → Int32) : Nat → Nat
  | 0 => 0
  | t + 1 => cg f t + if f t = -1 then 0 else 1
def cu (f : Nat → Int32) : Nat → Nat
  | 0 => 0
  | t + 1 => cu f t + if f t = -1 then 1 else 0
def cb (f : Nat → Int32) (i : Nat) : Nat → Nat
  | 0 => 0
  | t + 1 => cb f i t + if (f t >>> (nI i &&& 31)) &&& 1 = 1 then 1 else 0
theorem cg_congr {f g : Nat → Int32} : ∀ t, (∀ u, u < t → f u = g u) → cg f t = cg g t
  | 0, _ => rfl
  | t + 1, h => by rw [cg, cg, cg_congr t (fun u hu => h u (by omega)), h t (by omega)]
theorem cb_congr {f g : Nat → Int32} {i : Nat} : ∀ t, (∀ u, u < t → f u = g u) → cb f i t = cb g i t
  | 0, _ => rfl
  | t + 1, h => by rw [cb, cb, cb_congr t (fun u hu => h u (by omega)), h t (by omega)]
theorem cg_le {f : Nat → Int32} : ∀ t, cg f t ≤ t
  | 0 => Nat.le_refl _
  | t + 1 => by
    have := cg_le (f := f) t
    rw [cg]
    split <;> omega
theorem cb_le {f : Nat → Int32} {i : Nat} : ∀ t, cb f i t ≤ t
  | 0 => Nat.le_refl _
  | t + 1 => by
    have := cb_le (f := f) (i := i) t
    rw [cb]
    split <;> omega
theorem cg_lt {f : Nat → Int32} {u : Nat} (h : ¬ f u = -1) : ∀ t, u < t → cg f u < cg f t
  | 0, hu => by omega
  | t + 1, hu => by
    rw [cg]
    rcases Nat.lt_or_ge u t with q | q
    · have := cg_lt h t q; omega
    · obtain rfl : u = t := by omega
      rw [if_neg h]; omega
theorem cu_congr {f g : Nat → Int32} : ∀ t, (∀ u, u < t → f u = g u) → cu f t = cu g t
  | 0, _ => rfl
  | t + 1, h => by rw [cu, cu, cu_congr t (fun u hu => h u (by omega)), h t (by omega)]
theorem cu_upd {f : Nat → Int32} {i : Nat} {v : Int32} (h : f i = -1) (hv : ¬ v = -1) : ∀ n, i < n → cu (upd f i v) n + 1 = cu f n
  | 0, hi => by omega
  | n + 1, hi => by
    rw [cu, cu]
    rcases Nat.lt_or_ge i n with q | q
    · have := cu_upd h hv n q
      rw [upd_n (by omega)]; omega
    · obtain rfl : i = n := by omega
      rw [upd_s, if_neg hv, if_pos h, cu_congr (g := f) i (fun u hu => upd_n (by omega))]
theorem cu_all {f : Nat → Int32} : ∀ n, (∀ i, i < n → f i = -1) → cu f n = n
  | 0, _ => rfl
  | n + 1, h => by rw [cu, cu_all n (fun i hi => h i (by omega)), if_pos (h n (by omega))]
theorem cu_none {f : Nat → Int32} : ∀ n, cu f n = 0 → ∀ i, i < n → ¬ f i = -1
  | 0, _, i, hi => by omega
  | n + 1, h, i, hi => by
    rw [cu] at h
    rcases Nat.lt_or_ge i n with q | q
    · exact cu_none n (by omega) i q
    · obtain rfl : i = n := by omega
      intro e
      rw [if_pos e] at h; omega
/-- the flag down: tries alone are counted -/
theorem q_listen0 {d : Nat → Nat} {u : Nat → Nat → Int32} (hB : mk_BD d) (hC : mk_CQ u d) {M : Nat → Bool} {c : Nat → Nat} (hP : ∀ i, i < 10 → M i = true → i < d 4) (p1 r : Int32) (y : Nat → Nat → Int32) : ∀ kf n i (w : Nat → Nat → Int32), i + kf = 10 → kf < n → (∀ j, j < d 4 → w 6 j = nI (kk M c i j)) → ∃ g, f_Y_listen_63 u p1 (mz M) n r 0 (nI i) y w = some (r, y, upR 6 g w) ∧ ∀ j, j < d 4 → g j = nI (kk M c 10 j)
  | kf, n, i, w, hi, hn, hw => by
    have h4 : d 4 ≤ 10 := hB.2.2.2.2.1
    have h5 : u 5 0 = nI (d 4) := hC.2.2.2.2.2.1
    obtain ⟨n, rfl, hn'⟩ := q_fu hn
    have fin : (∀ j, i ≤ j → j < 10 → M j = false) → ∃ g, f_Y_listen_139 u p1 (mz M) r 0 y w = some (r, y, upR 6 g w) ∧ ∀ j, j < d 4 → g j = nI (kk M c 10 j) := by
      intro hh
      refine ⟨w 6, ?_, fun j hj => by rw [hw j hj, kk_end hh (by omega)]⟩
      rw [upR_self, f_Y_listen_139, if_pos rfl]
    rw [f_Y_listen_63, h5]
    by_cases h1 : d 4 ≤ i
    · rw [if_pos (le_t h1 (by omega))]
      refine fin (fun j hj hj' => ?_)
      cases hPj : M j
      · rfl
      · have := hP j hj' hPj; omega
    rw [if_neg (le_f (Nat.lt_of_not_le h1) (by omega))]
    by_cases h2 : mz M >>> (nI i &&& 31) = 0
    · rw [if_pos h2]
      exact fin (mz_stop (by omega) h2)
    obtain ⟨kf, rfl⟩ : ∃ k', kf = k' + 1 := ⟨kf - 1, by omega⟩
    have hi' : i < 10 := by omega
    rw [if_neg h2, pu_one]
    cases hp : M i
    · rw [if_neg (mz_b1F hi' hp)]
      exact q_listen0 hB hC hP p1 r y kf n (i + 1) w (by omega) (by omega) (fun j hj => by rw [hw j hj, kk_no hp])
    · have hwi : w 6 i = nI (c i) := by rw [hw i (by omega), kk_at]
      rw [if_pos (mz_b1T hi' hp), if_pos rfl, mkPut_ok (by omega) (by omega), mkAt_ok (by omega) (by omega), hwi, pu_one]
      obtain ⟨g, hg, hg'⟩ := q_listen0 hB hC hP p1 r y kf n (i + 1) (upR 6 (upd (w 6) i (nI (c i + 1))) w) (by omega) (by omega) (by rw [upR_s]; exact kk_yes hp _ hw)
      refine ⟨g, ?_, hg'⟩
      rw [upR_R] at hg
      exact hg
/-- one alone, and it goes through -/
theorem q_listen1 {d : Nat → Nat} {u : Nat → Nat → Int32} (hB : mk_BD d) (hC : mk_CQ u d) {M : Nat → Bool} {i0 c0 : Nat} (hi0 : i0 < d 4) (hM1 : ∀ i, i < 10 → M i = (i == i0)) (p1 r : Int32) (y w : Nat → Nat → Int32) (hw : w 6 i0 = nI c0) : ∀ kf n i, i + kf = i0 → kf + 1 < n → f_Y_listen_63 u p1 (mz M) n r 1 (nI i) y w = some (r, upF 7 ((y 7 0) &&& (mz M ^^^ (-1))) y, upF 9 ((w 9 0) + 1) (upR 8 (mkPut 10 (w 8) (w 9 0) (nI i0)) (upR 5 (upd (w 5) i0 p1) (upR 2 (mkPut 200 (w 2) p1 (nI i0)) (upR 6 (upd (w 6) i0 (nI (c0 + 1))) w)))))
  | 0, n, i, hi, hn => by
    have h4 : d 4 ≤ 10 := hB.2.2.2.2.1
    have h5 : u 5 0 = nI (d 4) := hC.2.2.2.2.2.1
    obtain ⟨n, rfl, hn'⟩ := q_fu hn
    obtain ⟨n, rfl, hn''⟩ := q_fu (show 0 < n by omega)
    obtain rfl : i = i0 := by omega
    have hp : M i = true := by rw [hM1 i (by omega)]; simp
    have h2 : ¬ mz M >>> (nI i &&& 31) = 0 := fun q => by have := mz_stop (by omega) q i (by omega) (by omega); rw [hp] at this; cases this
    rw [f_Y_listen_63, h5, if_neg (le_f (by omega) (by omega)), if_neg h2, if_pos (mz_b1T (by omega) hp), if_neg (by decide), pu_one, mkPut_ok (by omega) (by omega), mkAt_ok (by omega) (by omega), hw, pu_one]
    unfold f_C_deliver
    rw [b1_k, f_Y_listen_63, h5]
    have this : mz M >>> (nI (i + 1) &&& 31) = 0 := by
      unfold mz
      rw [pu_shr (mz_lt M) (by omega)]
      have : ms M 10 < 2 ^ (i + 1) := by
        have e1 : ms M 10 = ms M (i + 1) := (ms_stop (by omega) (fun j h1 h2 => by rw [hM1 j h2]; simp; omega)).symm
        rw [e1]; exact ms_lt M (i + 1)
      rw [Nat.div_eq_of_lt this]; rfl
    have e : ∀ W, f_Y_listen_139 u p1 (mz M) r 1 y W = some (r, upF 7 ((y 7 0) &&& (mz M ^^^ (-1))) y, W) := fun W => by
      rw [f_Y_listen_139, if_neg (by decide)]
    rw [mkPut_ok (by omega) (by omega)]
    by_cases q : nI (d 4) ≤ nI (i + 1)
    · rw [if_pos q]; exact e _
    · rw [if_neg q, if_pos this]; exact e _
  | kf + 1, n, i, hi, hn => by
    have h4 : d 4 ≤ 10 := hB.2.2.2.2.1
    have h5 : u 5 0 = nI (d 4) := hC.2.2.2.2.2.1
    obtain ⟨n, rfl, hn'⟩ := q_fu hn
    have hp : M i = false := by rw [hM1 i (by omega)]; simp; omega
    have hp0 : M i0 = true := by rw [hM1 i0 (by omega)]; simp
    have h2 : ¬ mz M >>> (nI i &&& 31) = 0 := fun q => by have := mz_stop (by omega) q i0 (by omega) (by omega); rw [hp0] at this; cases this
    rw [f_Y_listen_63, h5, if_neg (le_f (by omega) (by omega)), if_neg h2, if_neg (mz_b1F (by omega) hp), pu_one]
    exact q_listen1 hB hC hi0 hM1 p1 r y w hw kf n (i + 1) (by omega) (by omega)
theorem q_sent_49 {x : Nat → Nat → Int32} {M : Nat → Bool} {i0 t : Nat} (hi0 : i0 < 10) (ht : t < 200) (hM1 : ∀ i, i < 10 → M i = (i == i0)) : ∀ kf n i, i + kf = i0 → kf < n → f_X_sent_49 (nI t) (mz M) n (nI i) x = some (x 31 t, upF 40 ((x 40 0) + 1) (upR 29 (upd (x 29) i0 (nI t)) (upR 32 (upd (x 32) t (nI i0)) x)))
  | 0, n, i, hi, hn => by
    obtain ⟨n, rfl, hn'⟩ := q_fu hn
    obtain rfl : i = i0 := by omega
    have hp : M i = true := by rw [hM1 i (by omega)]; simp
    rw [f_X_sent_49, mz_hasT hi0 hp, b1_k, if_neg (by decide), gI_ok ht (by omega), gI_ok hi0 (by omega), pu_cl (by omega), pu_cl (by omega)]
  | kf + 1, n, i, hi, hn => by
    obtain ⟨n, rfl, hn'⟩ := q_fu hn
    have hp : M i = false := by rw [hM1 i (by omega)]; simp; omega
    rw [f_X_sent_49, mz_hasF (by omega) hp, b1_k, if_pos rfl, pu_one]
    exact q_sent_49 hi0 ht hM1 kf n (i + 1) (by omega) (by omega)
