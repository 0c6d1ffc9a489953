/-! what a run tells, as the law reckons it -/
theorem so_ls {M : Nat → Nat → Bool} {t : Nat} : ∀ n, 0 < cnM M t n → ∃ i, i < n ∧ M t i = true ∧ lsM M t n = nI i
  | 0, h => absurd h (Nat.lt_irrefl 0)
  | n + 1, h => by
    unfold cnM at h
    unfold lsM
    cases e : M t n
    · rw [e, if_neg (by decide)] at h
      obtain ⟨i, h1, h2, h3⟩ := so_ls n h
      exact ⟨i, by omega, h2, by rw [if_neg (by decide)]; exact h3⟩
    · exact ⟨n, by omega, e, by rw [if_pos rfl]⟩
theorem so_on {d : Nat → Nat} {M : Nat → Nat → Bool} {t : Nat} (h : onM d M t = true) : ∃ i, i < d 4 ∧ lsM M t (d 4) = nI i := by
  have := of_decide_eq_true h
  obtain ⟨i, h1, _, h3⟩ := so_ls (M := M) (t := t) (d 4) (by omega)
  exact ⟨i, h1, h3⟩
theorem so_al {d : Nat → Nat} {M : Nat → Nat → Bool} {f : Nat → Int32} (h4 : d 4 ≤ 10) {T : Nat} (h : ∀ u, u < T → f u = if onM d M u then lsM M u (d 4) else -1) : ∀ t, t ≤ T → alM d M t = cg f t
  | 0, _ => rfl
  | t + 1, ht => by
    unfold alM cg
    rw [so_al h4 h t (by omega), h t (by omega)]
    cases e : onM d M t
    · rfl
    · obtain ⟨i, h1, h2⟩ := so_on e
      rw [if_pos rfl, if_pos rfl, h2, if_neg (pu_nm1 (by omega))]
theorem so_tr (f : Nat → Int32) (i : Nat) : ∀ t, trM (bM f) t i = cb f i t
  | 0 => rfl
  | t + 1 => by
    unfold trM cb
    rw [so_tr f i t]
    unfold bM
    by_cases e : (f t >>> (nI i &&& 31)) &&& 1 = 1
    · rw [if_pos e, decide_eq_true e]; rfl
    · rw [if_neg e, decide_eq_false e]; rfl
theorem so_m1 {u : Nat} (h : u < 2 ^ 31) : (-1 : Int32) < nI u := by
  rw [Int32.lt_iff_toInt_lt, nI_toInt h]
  have : (-1 : Int32).toInt = -1 := by decide
  omega
theorem so_dn {g : Nat → Int32} {u : Nat} (hu : u < 2 ^ 31) : ∀ n, (∀ j, j < n → g j = -1 ∨ ∃ v, v ≤ u ∧ g j = nI v) → (dnM g n = -1 ∨ ∃ v, v ≤ u ∧ dnM g n = nI v) ∧ ((∃ j, j < n ∧ g j = nI u) → dnM g n = nI u)
  | 0, _ => ⟨Or.inl rfl, fun ⟨j, hj, _⟩ => absurd hj (Nat.not_lt_zero j)⟩
  | n + 1, h => by
    obtain ⟨i1, i2⟩ := so_dn hu n (fun j hj => h j (by omega))
    have key : dnM g (n + 1) = if dnM g n < g n then g n else dnM g n := rfl
    rw [key]
    refine ⟨?_, ?_⟩
    · split
      · exact h n (by omega)
      · exact i1
    · rintro ⟨j, hj, ej⟩
      by_cases e : j = n
      · subst e
        rcases i1 with q | ⟨v, q1, q2⟩
        · rw [q, ej, if_pos (so_m1 hu)]
        · rw [q2, ej]
          by_cases z : v = u
          · subst z; rw [if_neg (nI_nlt (Nat.le_refl _) hu)]
          · rw [if_pos (nI_lt (by omega) hu)]
      · rw [i2 ⟨j, by omega, ej⟩]
        rcases h n (by omega) with q | ⟨v, q1, q2⟩
        · rw [q, if_neg (fun z => by have := Int32.lt_iff_toInt_lt.mp z; have := Int32.lt_iff_toInt_lt.mp (so_m1 hu); omega)]
        · rw [q2, if_neg (nI_nlt q1 hu)]
theorem cg_last {f : Nat → Int32} : ∀ t, 0 < cg f t → ∃ u, u < t ∧ ¬ f u = -1 ∧ cg f u + 1 = cg f t ∧ ∀ v, v < t → ¬ f v = -1 → v ≤ u
  | 0, h => by rw [cg] at h; omega
  | t + 1, h => by
    by_cases q : f t = -1
    · have e : cg f (t + 1) = cg f t := by rw [cg, if_pos q]; rfl
      rw [e] at h ⊢
      obtain ⟨u, h1, h2, h3, h4⟩ := cg_last t h
      refine ⟨u, by omega, h2, h3, fun v hv hn => ?_⟩
      rcases Nat.lt_or_ge v t with z | z
      · exact h4 v z hn
      · obtain rfl : v = t := by omega
        exact absurd q hn
    · exact ⟨t, by omega, q, by rw [cg, if_neg q], fun v hv _ => by omega⟩
section SO
variable {d : Nat → Nat} {u c x : Nat → Nat → Int32}
theorem so_skip {r4 : Nat → Int32} (h1 : d 1 ≤ 200) (hr : ∀ v, v < d 1 → c 4 v = r4 v) : ∀ k n t, t + k = d 1 → k < n → f_C_skipsMade_4 c (nI (d 1)) n (skM r4 t) (nI t) = some (skM r4 (d 1))
  | k, n, t, hk, hn => by
    obtain ⟨n, rfl, hn'⟩ := q_fu hn
    rw [f_C_skipsMade_4]
    match k, hk, hn, hn' with
    | 0, hk, _, _ => obtain rfl : t = d 1 := by omega
                     rw [if_pos (le_t (Nat.le_refl _) (by omega))]
    | k + 1, hk, hn, hn' =>
      rw [if_neg (le_f (by omega) (by omega)), mkAt_ok (by omega) (by omega), hr t (by omega), pu_one]
      exact so_skip h1 hr k n (t + 1) (by omega) (by omega)
theorem so_deep {r3 : Nat → Int32} (h1 : d 1 ≤ 200) (hr : ∀ v, v < d 1 → c 3 v = r3 v) : ∀ k n t, t + k = d 1 → k < n → f_C_greatestDepth_4 c (nI (d 1)) n (dpM r3 t) (nI t) = some (dpM r3 (d 1))
  | k, n, t, hk, hn => by
    obtain ⟨n, rfl, hn'⟩ := q_fu hn
    rw [f_C_greatestDepth_4]
    match k, hk, hn, hn' with
    | 0, hk, _, _ => obtain rfl : t = d 1 := by omega
                     rw [if_pos (le_t (Nat.le_refl _) (by omega))]
    | k + 1, hk, hn, hn' =>
      rw [if_neg (le_f (by omega) (by omega)), mkAt_ok (by omega) (by omega), hr t (by omega), pu_one]
      exact so_deep h1 hr k n (t + 1) (by omega) (by omega)
theorem so_coll {M : Nat → Nat → Bool} (h1 : d 1 ≤ 200) (h4 : d 4 ≤ 10) (hr : ∀ v, v < d 1 → mkBits (c 0 v) = nI (cnM M v (d 4))) : ∀ k n t, t + k = d 1 → k < n → f_C_collisions_4 c (nI (d 1)) n (nI (clM d M t)) (nI t) = some (nI (clM d M (d 1)))
  | k, n, t, hk, hn => by
    obtain ⟨n, rfl, hn'⟩ := q_fu hn
    rw [f_C_collisions_4]
    match k, hk, hn, hn' with
    | 0, hk, _, _ => obtain rfl : t = d 1 := by omega
                     rw [if_pos (le_t (Nat.le_refl _) (by omega))]
    | k + 1, hk, hn, hn' =>
      have hc := cnM_le M t (d 4)
      rw [if_neg (le_f (by omega) (by omega)), mkAt_ok (by omega) (by omega), hr t (by omega), pu_one, pu_one]
      have ih := so_coll h1 h4 hr k n (t + 1) (by omega) (by omega)
      rw [clM] at ih
      by_cases z : 1 < cnM M t (d 4)
      · rw [if_neg (show ¬ nI (cnM M t (d 4)) ≤ 1 from le_f (b := 1) (by omega) (by omega))]
        rw [if_pos z] at ih
        exact ih
      · rw [if_pos (show nI (cnM M t (d 4)) ≤ 1 from le_t (b := 1) (by omega) (by omega))]
        rw [if_neg z] at ih
        exact ih
theorem so_heard {M : Nat → Nat → Bool} {p : Nat} (hp : p ≤ 2) (h1 : d 1 ≤ 200) (hd : ∀ v, v < d 1 → hdM d M v ≤ 2) (hr : ∀ v, v < d 1 → c 1 v = nI (hdM d M v)) : ∀ k n t, t + k = d 1 → k < n → f_C_slotsHeard_5 c (nI p) (nI (d 1)) n (nI (hsM d M t p)) (nI t) = some (nI (hsM d M (d 1) p))
  | k, n, t, hk, hn => by
    obtain ⟨n, rfl, hn'⟩ := q_fu hn
    rw [f_C_slotsHeard_5]
    match k, hk, hn, hn' with
    | 0, hk, _, _ => obtain rfl : t = d 1 := by omega
                     rw [if_pos (le_t (Nat.le_refl _) (by omega))]
    | k + 1, hk, hn, hn' =>
      have hc := hd t (by omega)
      rw [if_neg (le_f (by omega) (by omega)), mkAt_ok (by omega) (by omega), hr t (by omega), pu_one, pu_one]
      have ih := so_heard hp h1 hd hr k n (t + 1) (by omega) (by omega)
      rw [hsM] at ih
      by_cases z : hdM d M t = p
      · rw [if_pos (show nI (hdM d M t) = nI p by rw [z])]
        rw [if_pos z] at ih
        exact ih
      · rw [if_neg (fun y => z (pu_inj (by omega) (by omega) y))]
        rw [if_neg z] at ih
        exact ih
theorem hvN_le2 (hB : mk_BD d) (t b : Nat) : ∀ k i, i + k = d 5 → hvN d t b k i ≤ 2
  | 0, _, _ => by unfold hvN; exact Nat.min_le_left _ _
  | k + 1, i, h => by
    unfold hvN
    split
    · exact (hB.2.2.2.2.2.2.2.2.2 i (by omega)).2
    · exact hvN_le2 hB t b k (i + 1) (by omega)
/-- how many got through, by the class's own row -/
theorem so_bits (hB : mk_BD d) (h : hA d (d 1) c x) {v : Nat} (hv : v < d 1) : mkBits (c 0 v) = nI (cnM (bM (x 30)) v (d 4)) ∧ ∀ i, i < 10 → ((c 0 v) >>> (nI i &&& 31)) &&& 1 = if bM (x 30) v i then 1 else 0 := by
  have h4 : d 4 ≤ 10 := hB.2.2.2.2.1
  obtain ⟨e0, -, -, P, eP⟩ := h.1 v hv
  have hb : ∀ i, i < 10 → bM (x 30) v i = P i := fun i hi => by
    unfold bM
    rw [eP]
    cases z : P i
    · exact decide_eq_false (mz_b1F hi z)
    · exact decide_eq_true (mz_b1T hi z)
  have hz := (h.2.2.2.2.2.2.2.2.1 v hv).1
  refine ⟨?_, fun i hi => ?_⟩
  · rw [e0, eP, mz_bits, ← cn_pc hb 10 (Nat.le_refl _)]
    have := cn_end (B := bM (x 30)) (t := v) (a := d 4) (fun i hi z => (hz i hi z).1) (10 - d 4) (by omega)
    rw [show d 4 + (10 - d 4) = 10 by omega] at this
    rw [this]
  · rw [e0, eP, mz_bv hi, hb i hi]
theorem so_last (hB : mk_BD d) (h : hA d (d 1) c x) : f_C_lastSlot c (nI (d 4)) = some (if alM d (bM (x 30)) (d 1) = d 4 then dnM (gnM d (bM (x 30)) (d 1)) (d 4) else -1) := by
  have h4 : d 4 ≤ 10 := hB.2.2.2.2.1
  have h1 : d 1 ≤ 200 := hB.2.1
  obtain ⟨a1, a2, a3, a4, a5, a6, a7, a8, a9, a10⟩ := h
  have hal := so_al (d := d) (M := bM (x 30)) (f := x 32) h4 (T := d 1) (fun v hv => (a9 v hv).2.2) (d 1) (Nat.le_refl _)
  unfold f_C_lastSlot
  rw [a4, hal]
  by_cases z0 : d 4 = 0
  · rw [z0, if_pos (show nI 0 = 0 from rfl)]
    split <;> rfl
  · rw [if_neg (eq_f0 z0 (by omega))]
    by_cases z : d 4 ≤ cg (x 32) (d 1)
    · have ez : cg (x 32) (d 1) = d 4 := by omega
      rw [if_pos (le_t z (by omega)), if_pos ez]
      obtain ⟨w, w1, w2, w3, w4⟩ := cg_last (f := x 32) (d 1) (by omega)
      rcases a7 w w1 with q | ⟨i, q1, q2, q3, q4⟩
      · exact absurd q w2
      · have e8 : mkAt 10 (c 8) (nI (cg (x 32) (d 1)) - 1) = nI i := by
          rw [← w3, pu_s1, mkAt_ok (by omega) (by omega), q4]
        rw [e8, mkAt_ok (by omega) (by omega), (a3 i q1).1, q3]
        congr 1
        refine ((so_dn (show w < 2 ^ 31 by omega) (d 4) (fun j hj => ?_)).2 ⟨i, q1, by rw [← a10 i q1]; exact q3⟩).symm
        rw [← a10 j hj]
        rcases a8 j hj with y | ⟨v, y1, y2, y3⟩
        · exact Or.inl y
        · exact Or.inr ⟨v, w4 v y1 (by rw [y3]; exact pu_nm1 (by omega)), y2⟩
    · rw [if_neg (le_f (by omega) (by omega)), if_neg (by omega)]
theorem so_slotok (hB : mk_BD d) (hC : mk_CQ u d) {t : Nat} (ht : t < d 1) : f_P_hasSlot u (nI t) = some 1 := by
  have h1 : d 1 ≤ 200 := hB.2.1
  unfold f_P_hasSlot
  rw [hC.2.1, if_neg (lt_f0 (by omega)), if_neg (le_f ht (by omega))]
theorem so_sndok (hB : mk_BD d) (hC : mk_CQ u d) {i : Nat} (hi : i < d 4) : f_P_hasSender u (nI i) = some 1 := by
  have h4 : d 4 ≤ 10 := hB.2.2.2.2.1
  unfold f_P_hasSender
  rw [hC.2.2.2.2.2.1, if_neg (lt_f0 (by omega)), if_neg (le_f hi (by omega))]
/-- all that the law asks of a run holds -/
theorem SoF_of (hB : mk_BD d) (hC : mk_CQ u d) (h0 : 0 < d 1) (h : hFin d c x) : SoF d u c (bM (x 30)) (x 33) (x 34) := by
  have h4 : d 4 ≤ 10 := hB.2.2.2.2.1
  have h1 : d 1 ≤ 200 := hB.2.1
  obtain ⟨hA', -, h34, -⟩ := h
  have hA2 := hA'
  obtain ⟨a1, a2, a3, a4, a5, a6, a7, a8, a9, a10⟩ := hA2
  have hst := q_stands hB hC
  rw [if_pos h0] at hst
  have hal := so_al (d := d) (M := bM (x 30)) (f := x 32) h4 (T := d 1) (fun v hv => (a9 v hv).2.2)
  have hd2 : ∀ v, hdM d (bM (x 30)) v ≤ 2 := fun v => hvN_le2 hB v _ (d 5) 0 (by omega)
  have hhe : ∀ p, p ≤ 2 → f_Z_heard u c (nI p) = some (nI (hsM d (bM (x 30)) (d 1) p)) := fun p hp => by
    unfold f_Z_heard f_C_slotsHeard
    rw [if_neg (lt_f0 (by omega)), if_neg (show ¬ (2 : Int32) < nI p from lt_f (a := 2) hp (by omega)), hst, b1_k, if_neg (by decide), hC.2.1]
    have := so_heard (c := c) (M := bM (x 30)) hp h1 (fun v _ => hd2 v) (fun v hv => by rw [(a1 v hv).2.1]; exact (a9 v hv).2.1) (d 1) 600 0 (by omega) (by omega)
    rw [show (0 : Int32) = nI 0 from rfl]
    rw [show nI (hsM d (bM (x 30)) 0 p) = nI 0 from rfl] at this
    rw [this, b1_k]
  refine ⟨fun t ht i hi => ?_, fun t ht i hi hM => ?_, fun t ht => ⟨?_, ?_, ?_, ?_, ?_⟩, fun t ht ho => ?_, fun i hi => ⟨?_, ?_⟩, ⟨hhe 0 (by decide), hhe 1 (by decide), hhe 2 (by decide)⟩, ?_, ?_, ?_, ?_, ?_, ?_⟩
  · unfold f_Z_sends
    rw [so_slotok hB hC ht, b1_k, if_neg (by decide), so_sndok hB hC hi, b1_k, if_neg (by decide), mkAt_ok (by omega) (by omega), (so_bits hB hA' ht).2 i (by omega)]
  · exact (((a9 t ht).1 i (by omega) hM).2)
  · unfold f_Z_slot
    rw [so_slotok hB hC ht, b1_k, if_neg (by decide), if_pos rfl, mkAt_ok (by omega) (by omega), (so_bits hB hA' ht).1]
  · unfold f_Z_slot
    rw [so_slotok hB hC ht, b1_k, if_neg (by decide), if_neg (by decide), if_pos rfl, mkAt_ok (by omega) (by omega), (a1 t ht).2.1, (a9 t ht).2.1]
  · unfold f_Z_slot
    rw [so_slotok hB hC ht, b1_k, if_neg (by decide), if_neg (by decide), if_neg (by decide), if_pos rfl, mkAt_ok (by omega) (by omega), (a1 t ht).2.2.1, (a9 t ht).2.2]
  · unfold f_Z_slot
    rw [so_slotok hB hC ht, b1_k, if_neg (by decide), if_neg (by decide), if_neg (by decide), if_neg (by decide), if_pos rfl, mkAt_ok (by omega) (by omega), (h34 t ht).1]
  · unfold f_Z_slot
    rw [so_slotok hB hC ht, b1_k, if_neg (by decide), if_neg (by decide), if_neg (by decide), if_neg (by decide), if_neg (by decide), if_pos rfl, mkAt_ok (by omega) (by omega), (h34 t ht).2]
  · obtain ⟨i, i1, i2⟩ := so_on ho
    refine ⟨?_, i, i1, i2⟩
    have e32 : x 32 t = nI i := by rw [(a9 t ht).2.2, ho, if_pos rfl, i2]
    have hne : ¬ x 32 t = -1 := by rw [e32]; exact pu_nm1 (by omega)
    have hlt := cg_lt hne (d 1) ht
    unfold f_Z_order
    rw [hal t (by omega), if_neg (lt_f0 (by omega)), hst, b1_k, if_neg (by decide), a4, if_neg (le_f hlt (by omega)), mkAt_ok (by omega) (by omega), i2]
    rcases a7 t ht with q | ⟨j, j1, j2, j3, j4⟩
    · exact absurd q hne
    · rw [j4, ← j2, e32]
  · unfold f_Z_delivered
    rw [so_sndok hB hC hi, b1_k, if_neg (by decide), mkAt_ok (by omega) (by omega), (a3 i hi).1, a10 i hi]
  · unfold f_Z_tries
    rw [so_sndok hB hC hi, b1_k, if_neg (by decide), mkAt_ok (by omega) (by omega), (a3 i hi).2, so_tr]
  · unfold f_Z_all
    rw [hst, b1_k, if_neg (by decide), a4, hal _ (Nat.le_refl _)]
  · unfold f_Z_order
    rw [hal _ (Nat.le_refl _), if_neg (lt_f0 (by omega)), hst, b1_k, if_neg (by decide), a4, if_pos (le_t (Nat.le_refl _) (by omega))]
  · unfold f_Z_done
    rw [hst, b1_k, if_neg (by decide), hC.2.2.2.2.2.1, so_last hB hA', b1_k]
  · unfold f_Z_collided f_C_collisions
    rw [hst, b1_k, if_neg (by decide), hC.2.1]
    have := so_coll (c := c) (M := bM (x 30)) h1 h4 (fun v hv => (so_bits hB hA' hv).1) (d 1) 600 0 (by omega) (by omega)
    rw [show (0 : Int32) = nI 0 from rfl]
    rw [show nI (clM d (bM (x 30)) 0) = nI 0 from rfl] at this
    rw [this, b1_k]
  · unfold f_Z_skips f_C_skipsMade
    rw [hst, b1_k, if_neg (by decide), hC.2.1]
    have := so_skip (c := c) (r4 := x 34) h1 (fun v hv => (h34 v hv).2) (d 1) 600 0 (by omega) (by omega)
    have e : f_C_skipsMade_4 c (nI (d 1)) 600 0 0 = some (skM (x 34) (d 1)) := this
    rw [e, b1_k]
  · unfold f_Z_deepest f_C_greatestDepth
    rw [hst, b1_k, if_neg (by decide), hC.2.1]
    have := so_deep (c := c) (r3 := x 33) h1 (fun v hv => (h34 v hv).1) (d 1) 600 0 (by omega) (by omega)
    have e : f_C_greatestDepth_4 c (nI (d 1)) 600 0 0 = some (dpM (x 33) (d 1)) := this
    rw [e, b1_k]
theorem SoC_of (hB : mk_BD d) (hC : mk_CQ u d) (h0 : 0 < d 1) (h : hFin d c x) {y : Nat → Nat → Int32} (hK : hK2 d (d 1) y c (x 29) (x 30)) : SoC d u c := by
  have h4 : d 4 ≤ 10 := hB.2.2.2.2.1
  have h1 : d 1 ≤ 200 := hB.2.1
  have hA' := h.1
  obtain ⟨K1, K2, K3, K4, K5, K6⟩ := hK
  have hst := q_stands hB hC
  rw [if_pos h0] at hst
  refine ⟨fun t ht i hi => ?_, fun t ht => ⟨?_, ?_⟩, fun i hi => ?_, ?_⟩
  · unfold f_Z_sends
    rw [so_slotok hB hC ht, b1_k, if_neg (by decide), so_sndok hB hC hi, b1_k, if_neg (by decide), mkAt_ok (by omega) (by omega), (so_bits hB hA' ht).2 i (by omega), (K4 t ht).2 i hi]
  · unfold f_Z_slot
    rw [so_slotok hB hC ht, b1_k, if_neg (by decide), if_neg (by decide), if_neg (by decide), if_neg (by decide), if_pos rfl, mkAt_ok (by omega) (by omega), (K4 t ht).1]
  · unfold f_Z_slot
    rw [so_slotok hB hC ht, b1_k, if_neg (by decide), if_neg (by decide), if_neg (by decide), if_neg (by decide), if_neg (by decide), if_pos rfl, mkAt_ok (by omega) (by omega), K5 t (by omega)]
  · unfold f_Z_taken
    rw [so_sndok hB hC hi, b1_k, if_neg (by decide), mkAt_ok (by omega) (by omega), K3 i hi]
  · unfold f_Z_epochs
    rw [hst, b1_k, if_neg (by decide), K6]
end SO
