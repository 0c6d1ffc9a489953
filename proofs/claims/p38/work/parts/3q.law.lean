/-! the text's lines, read by the class -/
theorem hd32 {K : Nat} (hK : K ≤ 3) {R : List Nat} : ∀ x ∈ (([32] : List Nat) ++ R).head?, kd (nI x) ≠ K := by
  intro x hx
  have : x = 32 := by simpa using hx.symm
  subst this
  have : kd (nI 32) = 4 := by decide
  omega
theorem hd59 {K : Nat} (hK : K ≤ 2) {R : List Nat} : ∀ x ∈ (lt 17 ++ R).head?, kd (nI x) ≠ K := by
  intro x hx
  have e : lt 17 ++ R = 59 :: R := rfl
  rw [e] at hx
  have : x = 59 := by simpa using hx.symm
  subst this
  have : kd (nI 59) = 3 := by decide
  omega
/-! bits -/
theorem bLk_get (Y : mk_Y) (i : Nat) : ∀ k j, j < k → (bLk Y i k).getD j 0 = 48 + bt Y i j
  | 0, j, h => absurd h (Nat.not_lt_zero j)
  | k + 1, j, h => by
    rw [bLk, dec_1 (show bt Y i k < 10 by have := bt_le Y i k; omega)]
    by_cases q : j < k
    · rw [gD_l (by rw [bLk_len]; exact q)]
      exact bLk_get Y i k j q
    · obtain rfl : j = k := by omega
      have := gD_app (A := bLk Y i j) (R := [48 + bt Y i j]) (j := 0)
      rw [bLk_len] at this
      exact this
theorem bLk_kd (Y : mk_Y) (i : Nat) : ∀ k, ∀ y ∈ bLk Y i k, kd (nI y) = 2
  | 0, y, h => absurd h (List.not_mem_nil)
  | k + 1, y, h => by
    rw [bLk] at h
    rcases List.mem_append.mp h with q | q
    · exact bLk_kd Y i k y q
    · exact dec_kd _ y q
theorem bvN_lt (x : Nat) : ∀ k, bvN x k < 2 ^ k
  | 0 => Nat.one_pos
  | k + 1 => by
    have := bvN_lt x k
    rw [bvN, Nat.pow_succ]
    split <;> omega
theorem L_b48 {T : Nat → Nat → Int32} {Y : mk_Y} {i m b : Nat} (hm : m ≤ 12) (hb : b + m ≤ 500) (h : ∀ j, j < m → T 0 (b + j) = nI (48 + bt Y i j)) : ∀ k n j (r : Nat → Nat → Int32), j + k = m → k < n → r 4 0 = nI (b + m) → r 5 0 = nI (bvN (cv Y (6 + i) / 256) j) → ∃ u, f_R_readBits_48 T n (nI (b + j)) r = some (1, u) ∧ u 5 0 = nI (bvN (cv Y (6 + i) / 256) m) ∧ ∀ q, q ≠ 5 → u q = r q
  | 0, n, j, r, hj, hn, h4, h5 => by
    obtain ⟨n, rfl, hn'⟩ := q_fu hn
    obtain rfl : j = m := by omega
    rw [f_R_readBits_48, h4, if_pos (le_t (Nat.le_refl _) (by omega))]
    exact ⟨r, rfl, h5, fun q _ => rfl⟩
  | k + 1, n, j, r, hj, hn, h4, h5 => by
    obtain ⟨n, rfl, hn'⟩ := q_fu hn
    have hbt := bt_le Y i j
    have hv : bvN (cv Y (6 + i) / 256) j < 4096 := Nat.lt_of_lt_of_le (bvN_lt _ j) (show 2 ^ j ≤ 2 ^ 12 from Nat.pow_le_pow_right (by decide) (by omega))
    have e : nI (48 + bt Y i j) - 48 = nI (bt Y i j) := by
      have := pu_sub (a := 48 + bt Y i j) (b := 48) (by omega)
      rw [Nat.add_sub_cancel_left] at this
      exact this
    rw [f_R_readBits_48, h4, if_neg (le_f (by omega) (by omega)), mkAt_ok (by omega) (by omega), h j (by omega), e, if_pos (show nI (bt Y i j) ≤ 1 from le_t (b := 1) hbt (by omega)), pu_one, h5]
    have e2 : nI (bvN (cv Y (6 + i) / 256) j) * 2 + nI (bt Y i j) = nI (bvN (cv Y (6 + i) / 256) (j + 1)) := by
      rw [show nI (bvN (cv Y (6 + i) / 256) j) * 2 = nI (bvN (cv Y (6 + i) / 256) j * 2) from pk_mul _ 2, pu_add]
      rfl
    rw [e2]
    obtain ⟨u, u1, u2, u3⟩ := L_b48 hm hb h k n (j + 1) (upF 5 (nI (bvN (cv Y (6 + i) / 256) (j + 1))) r) (by omega) (by omega) (by rw [upF_n (by decide)]; exact h4) rfl
    exact ⟨u, u1, u2, fun q hq => by rw [u3 q hq, upF_n hq]⟩
theorem rdB {T r : Nat → Nat → Int32} {Y : mk_Y} {i m p : Nat} {R : List Nat} (hm1 : 1 ≤ m) (hm : m ≤ 12) (hR : ∀ x ∈ R.head?, kd (nI x) ≠ 2) (h : Pt T p ([32] ++ (bLk Y i m ++ R))) (h4 : r 4 0 = nI p) : ∃ u, f_R_readBits r T = some (1, u) ∧ u 5 0 = nI (bvN (cv Y (6 + i) / 256) m) ∧ u 4 0 - u 3 0 = nI m ∧ u 4 0 = nI (p + 1 + m) ∧ Pt T (p + 1 + m) R := by
  obtain ⟨h1, h2, h3⟩ := tok_E (Or.inr rfl) (Or.inr rfl) h ⟨by rw [bLk_len]; omega, bLk_kd Y i m, hR⟩
  obtain ⟨w, w1, ⟨w2, w3, w4⟩, -⟩ := L_step (T := T) (r := r) h.1 h.2.1 (Nat.le_add_right _ _) h4
  rw [h1] at w2 w3 w4
  rw [h2] at w2
  rw [h3, bLk_len] at w4
  have w3 : w 3 0 = nI (p + 1) := w3
  have w4 : w 4 0 = nI (p + 1 + m) := w4
  have hl : p + 1 + m ≤ 500 := by
    have := h.1
    rw [List.length_append, List.length_append, bLk_len] at this
    have e : ([32] : List Nat).length = 1 := rfl
    omega
  have hg : ∀ j, j < m → T 0 (p + 1 + j) = nI (48 + bt Y i j) := fun j hj => by
    have := Pt_get (j := j) (Pt_drop h) (by rw [bLk_len]; exact hj)
    rw [bLk_get Y i m j hj] at this
    exact this
  obtain ⟨u, u1, u2, u3⟩ := L_b48 (T := T) (Y := Y) (i := i) (b := p + 1) hm hl hg m 600 0 (upF 5 0 w) (by omega) (by omega) (by rw [upF_n (by decide)]; exact w4) rfl
  have e4 : u 4 0 = nI (p + 1 + m) := by rw [u3 4 (by decide), upF_n (by decide)]; exact w4
  have e3 : u 3 0 = nI (p + 1) := by rw [u3 3 (by decide), upF_n (by decide)]; exact w3
  have es : nI (p + 1 + m) - nI (p + 1) = nI m := by rw [pu_sub (by omega), Nat.add_sub_cancel_left]
  refine ⟨u, ?_, u2, by rw [e4, e3, es], e4, ?_⟩
  · unfold f_R_readBits
    rw [w1, b1_k, w2, if_pos (show nI 2 = 2 from rfl), w4, w3, es, if_pos (show nI m ≤ 12 from le_t (b := 12) hm (by omega))]
    exact u1
  · have := Pt_drop (Pt_drop h)
    rw [bLk_len] at this
    exact this
theorem rdK {T r : Nat → Nat → Int32} {p a : Nat} {R : List Nat} (ha : a ≤ 2) (hR : ∀ x ∈ R.head?, kd (nI x) ≠ 1) (h : Pt T p ([32] ++ (lt (10 + a) ++ R))) (h4 : r 4 0 = nI p) : ∃ u, f_R_readKind r T = some (1, u) ∧ u 5 0 = nI a ∧ u 4 0 = nI (p + 1 + (lt (10 + a)).length) ∧ Pt T (p + 1 + (lt (10 + a)).length) R := by
  obtain ⟨h1, h2⟩ := isW_t (w := 10 + a) (by omega) (Or.inr rfl) hR h
  obtain ⟨w, w1, wT, -⟩ := L_step (T := T) (r := r) h.1 h.2.1 (Nat.le_add_right _ _) h4
  have w4 : w 4 0 = nI (p + 1 + (lt (10 + a)).length) := by
    rw [wT.2.2]
    exact congrArg nI h2
  have hP := Pt_drop (Pt_drop h)
  have iw : ∀ v, v < 13 → f_R_isWord w T v = some (if isW (T 0) (p + ([32] ++ (lt (10 + a) ++ R)).length) p v then 1 else 0) := fun v hv => L_wR h.1 (Nat.le_add_right _ _) hv wT
  rcases (show a = 0 ∨ a = 1 ∨ a = 2 by omega) with rfl | rfl | rfl
  · refine ⟨upF 5 0 w, ?_, rfl, by rw [upF_n (by decide)]; exact w4, hP⟩
    unfold f_R_readKind
    rw [w1, b1_k, iw 10 (by decide), h1, b1_k]
    rfl
  · have f10 := isW_f (w := 11) (v := 10) (by decide) (Or.inr rfl) hR h (Or.inl (by decide))
    refine ⟨upF 5 1 w, ?_, rfl, by rw [upF_n (by decide)]; exact w4, hP⟩
    unfold f_R_readKind
    rw [w1, b1_k, iw 10 (by decide), f10, b1_k]
    show b1 (f_R_isWord w T 11) _ = _
    rw [iw 11 (by decide), h1, b1_k]
    rfl
  · have f10 := isW_f (w := 12) (v := 10) (by decide) (Or.inr rfl) hR h (Or.inr (by decide))
    have f11 := isW_f (w := 12) (v := 11) (by decide) (Or.inr rfl) hR h (Or.inl (by decide))
    refine ⟨upF 5 2 w, ?_, rfl, by rw [upF_n (by decide)]; exact w4, hP⟩
    unfold f_R_readKind
    rw [w1, b1_k, iw 10 (by decide), f10, b1_k]
    show b1 (f_R_isWord w T 11) _ = _
    rw [iw 11 (by decide), f11, b1_k]
    show b1 (f_R_isWord w T 12) _ = _
    rw [iw 12 (by decide), h1, b1_k]
    rfl
/-! lines -/
theorem z10 : ((if true = true then (1 : Int32) else 0) = 0) = False := by simp
theorem ln_ch {T r D : Nat → Nat → Int32} {p l s k w : Nat} {R : List Nat} (hl : l ≤ 3) (hs1 : 1 ≤ s) (hs : s ≤ 200) (hk : k ≤ 9) (hw1 : 1 ≤ w) (hw : w ≤ 20) (hD : D 4 0 = 0) (h : Pt T p ([] ++ (lt 0 ++ ([32] ++ (lt 1 ++ ([32] ++ (decL l ++ ([32] ++ (lt 2 ++ ([32] ++ (decL s ++ ([32] ++ (lt 3 ++ ([32] ++ (decL k ++ ([32] ++ (lt 4 ++ ([32] ++ (decL w ++ (lt 17 ++ R))))))))))))))))))))
    (hT : TR (T 0) (p + ([] ++ (lt 0 ++ ([32] ++ (lt 1 ++ ([32] ++ (decL l ++ ([32] ++ (lt 2 ++ ([32] ++ (decL s ++ ([32] ++ (lt 3 ++ ([32] ++ (decL k ++ ([32] ++ (lt 4 ++ ([32] ++ (decL w ++ (lt 17 ++ R))))))))))))))))))).length) p r) : ∃ u p', f_R_readLine r T D = some (1, u, upF 3 (nI w) (upF 2 (nI k) (upF 1 (nI s) (upF 0 (nI l) D)))) ∧ u 4 0 = nI p' ∧ Pt T p' R := by
  obtain ⟨h1, h2⟩ := isW_t (w := 0) (by decide) (Or.inl rfl) (hd32 (by decide)) h
  have e4 : r 4 0 = nI (p + ([] : List Nat).length + (lt 0).length) := by rw [hT.2.2]; exact congrArg nI h2
  have i0 := L_wR (w := 0) h.1 (Nat.le_add_right _ _) (by decide) hT
  rw [h1] at i0
  obtain ⟨u1, a1, b1', c1⟩ := rdW (w := 1) (by decide) (Or.inr rfl) (hd32 (by decide)) (Pt_drop (Pt_drop h)) e4
  obtain ⟨u2, a2, v2, b2', c2⟩ := rdN (x := l) (lo := 0) (hi := 3) (by omega) (by omega) hl (by decide) (Or.inr rfl) (hd32 (by decide)) c1 b1'
  obtain ⟨u3, a3, b3', c3⟩ := rdW (w := 2) (by decide) (Or.inr rfl) (hd32 (by decide)) c2 b2'
  obtain ⟨u4, a4, v4, b4', c4⟩ := rdN (x := s) (lo := 1) (hi := 200) (by omega) hs1 hs (by decide) (Or.inr rfl) (hd32 (by decide)) c3 b3'
  obtain ⟨u5, a5, b5', c5⟩ := rdW (w := 3) (by decide) (Or.inr rfl) (hd32 (by decide)) c4 b4'
  obtain ⟨u6, a6, v6, b6', c6⟩ := rdN (x := k) (lo := 0) (hi := 9) (by omega) (by omega) hk (by decide) (Or.inr rfl) (hd32 (by decide)) c5 b5'
  obtain ⟨u7, a7, b7', c7⟩ := rdW (w := 4) (by decide) (Or.inr rfl) (hd32 (by decide)) c6 b6'
  obtain ⟨u8, a8, v8, b8', c8⟩ := rdN (x := w) (lo := 1) (hi := 20) (by omega) hw1 hw (by decide) (Or.inr rfl) (hd59 (by decide)) c7 b7'
  obtain ⟨u9, a9, b9', c9⟩ := rdS c8 b8'
  refine ⟨u9, _, ?_, b9', c9⟩
  have a2 : f_R_readNumber u1 T 0 3 = some (1, u2) := a2
  have a4 : f_R_readNumber u3 T 1 200 = some (1, u4) := a4
  have a6 : f_R_readNumber u5 T 0 9 = some (1, u6) := a6
  have a8 : f_R_readNumber u7 T 1 20 = some (1, u8) := a8
  unfold f_R_readLine
  rw [i0, b1_k, if_neg (by decide), hD, if_pos rfl]
  unfold f_R_readChannel
  rw [a1, b2_k, if_neg one0, a2, b2_k, if_neg one0, a3, b2_k, if_neg one0, a4, b2_k, if_neg one0, a5, b2_k, if_neg one0, a6, b2_k, if_neg one0, a7, b2_k, if_neg one0, a8, b2_k, if_neg one0, a9, b2_k, gZ1, b3_k, gZ1, v2, v4, v6, v8]
theorem ln_snd {T r D : Nat → Nat → Int32} {Y : mk_Y} {p i q n t m : Nat} {R : List Nat} (ht : t < 200) (hm1 : 1 ≤ m) (hm : m ≤ 12) (hi : i < 10) (hn : n < 600) (hD4 : D 4 0 = nI (n + 1)) (hD5 : D 5 0 = nI i) (h : Pt T p ([] ++ (lt 5 ++ ([32] ++ (lt 6 ++ ([32] ++ (decL t ++ ([32] ++ (lt 7 ++ ([32] ++ (bLk Y q m ++ (lt 17 ++ R))))))))))))
    (hT : TR (T 0) (p + ([] ++ (lt 5 ++ ([32] ++ (lt 6 ++ ([32] ++ (decL t ++ ([32] ++ (lt 7 ++ ([32] ++ (bLk Y q m ++ (lt 17 ++ R))))))))))).length) p r) : ∃ u p', f_R_readLine r T D = some (1, u, upF 5 (nI (i + 1)) (upR 8 (upd (D 8) i (nI m)) (upR 9 (upd (D 9) i (nI (bvN (cv Y (6 + q) / 256) m))) (upR 7 (upd (D 7) i (nI t)) D)))) ∧ u 4 0 = nI p' ∧ Pt T p' R := by
  obtain ⟨h1, h2⟩ := isW_t (w := 5) (by decide) (Or.inl rfl) (hd32 (by decide)) h
  have h0 := isW_f (w := 5) (v := 0) (by decide) (Or.inl rfl) (hd32 (by decide)) h (Or.inl (by decide))
  have e4 : r 4 0 = nI (p + ([] : List Nat).length + (lt 5).length) := by rw [hT.2.2]; exact congrArg nI h2
  have i0 := L_wR (w := 0) h.1 (Nat.le_add_right _ _) (by decide) hT
  rw [h0] at i0
  have i5 := L_wR (w := 5) h.1 (Nat.le_add_right _ _) (by decide) hT
  rw [h1] at i5
  obtain ⟨u1, a1, b1', c1⟩ := rdW (w := 6) (by decide) (Or.inr rfl) (hd32 (by decide)) (Pt_drop (Pt_drop h)) e4
  obtain ⟨u2, a2, v2, b2', c2⟩ := rdN (x := t) (lo := 0) (hi := 199) (by omega) (by omega) (by omega) (by decide) (Or.inr rfl) (hd32 (by decide)) c1 b1'
  obtain ⟨u3, a3, b3', c3⟩ := rdW (w := 7) (by decide) (Or.inr rfl) (hd32 (by decide)) c2 b2'
  obtain ⟨u4, a4, v4, l4, b4', c4⟩ := rdB hm1 hm (hd59 (by decide)) c3 b3'
  obtain ⟨u5, a5, b5', c5⟩ := rdS c4 b4'
  refine ⟨u5, _, ?_, b5', c5⟩
  have a2 : f_R_readNumber u1 T 0 199 = some (1, u2) := a2
  unfold f_R_readLine
  rw [i0, b1_k, if_pos (show (if false = true then (1 : Int32) else 0) = 0 from rfl), hD4, if_neg (le_f0 (by omega) (by omega)), i5, b1_k, if_neg (by decide)]
  unfold f_R_readSender
  rw [hD5, if_pos (show nI i < 10 from lt_t (b := 10) hi (by omega)), a1, b2_k, if_neg one0, a2, b2_k, if_neg one0, a3, b2_k, if_neg one0, a4, b2_k, if_neg one0, l4, v4, v2]
  unfold f_P_addSender
  rw [b1_k, a5, b2_k, gZ1, b3_k, gZ1, hD5, mkPut_ok hi (by omega), mkPut_ok hi (by omega), mkPut_ok hi (by omega), pu_one]
theorem noisy_no {D : Nat → Nat → Int32} {a j : Nat} {f : Nat → Nat} (hj : j ≤ 10) (h6 : D 6 0 = nI j) (ha : a < 200) (hf : ∀ v, v < j → D 10 v = nI (f v) ∧ f v < 200 ∧ f v ≠ a) : ∀ k n v, v + k = j → k < n → f_P_isNoisy_2 D (nI a) n (nI v) = some 0
  | 0, n, v, hk, hn => by
    obtain ⟨n, rfl, hn'⟩ := q_fu hn
    rw [f_P_isNoisy_2, h6, if_pos (le_t (by omega) (by omega))]
  | k + 1, n, v, hk, hn => by
    obtain ⟨n, rfl, hn'⟩ := q_fu hn
    obtain ⟨f1, f2, f3⟩ := hf v (by omega)
    rw [f_P_isNoisy_2, h6, if_neg (le_f (by omega) (by omega)), mkAt_ok (by omega) (by omega), f1, if_neg (fun z => f3 (pu_inj (by omega) (by omega) z)), pu_one]
    exact noisy_no hj h6 ha hf k n (v + 1) (by omega) (by omega)
theorem ln_noi {T r D : Nat → Nat → Int32} {p j n t a : Nat} {f : Nat → Nat} {R : List Nat} (ht : t < 200) (ha : a ≤ 2) (hj : j < 10) (hn : n < 600) (hD4 : D 4 0 = nI (n + 1)) (hD6 : D 6 0 = nI j) (hf : ∀ v, v < j → D 10 v = nI (f v) ∧ f v < 200 ∧ f v ≠ t) (h : Pt T p ([] ++ (lt 8 ++ ([32] ++ (lt 6 ++ ([32] ++ (decL t ++ ([32] ++ (lt 9 ++ ([32] ++ (lt (10 + a) ++ (lt 17 ++ R))))))))))))
    (hT : TR (T 0) (p + ([] ++ (lt 8 ++ ([32] ++ (lt 6 ++ ([32] ++ (decL t ++ ([32] ++ (lt 9 ++ ([32] ++ (lt (10 + a) ++ (lt 17 ++ R))))))))))).length) p r) : ∃ u p', f_R_readLine r T D = some (1, u, upF 6 (nI (j + 1)) (upR 11 (upd (D 11) j (nI a)) (upR 10 (upd (D 10) j (nI t)) D))) ∧ u 4 0 = nI p' ∧ Pt T p' R := by
  obtain ⟨h1, h2⟩ := isW_t (w := 8) (by decide) (Or.inl rfl) (hd32 (by decide)) h
  have h0 := isW_f (w := 8) (v := 0) (by decide) (Or.inl rfl) (hd32 (by decide)) h (Or.inl (by decide))
  have h5 := isW_f (w := 8) (v := 5) (by decide) (Or.inl rfl) (hd32 (by decide)) h (Or.inl (by decide))
  have e4 : r 4 0 = nI (p + ([] : List Nat).length + (lt 8).length) := by rw [hT.2.2]; exact congrArg nI h2
  have i0 := L_wR (w := 0) h.1 (Nat.le_add_right _ _) (by decide) hT
  rw [h0] at i0
  have i5 := L_wR (w := 5) h.1 (Nat.le_add_right _ _) (by decide) hT
  rw [h5] at i5
  have i8 := L_wR (w := 8) h.1 (Nat.le_add_right _ _) (by decide) hT
  rw [h1] at i8
  obtain ⟨u1, a1, b1', c1⟩ := rdW (w := 6) (by decide) (Or.inr rfl) (hd32 (by decide)) (Pt_drop (Pt_drop h)) e4
  obtain ⟨u2, a2, v2, b2', c2⟩ := rdN (x := t) (lo := 0) (hi := 199) (by omega) (by omega) (by omega) (by decide) (Or.inr rfl) (hd32 (by decide)) c1 b1'
  obtain ⟨u3, a3, b3', c3⟩ := rdW (w := 9) (by decide) (Or.inr rfl) (hd32 (by decide)) c2 b2'
  obtain ⟨u4, a4, v4, b4', c4⟩ := rdK ha (hd59 (by decide)) c3 b3'
  obtain ⟨u5, a5, b5', c5⟩ := rdS c4 b4'
  refine ⟨u5, _, ?_, b5', c5⟩
  have a2 : f_R_readNumber u1 T 0 199 = some (1, u2) := a2
  have hno : f_P_isNoisy D (nI t) = some 0 := noisy_no (by omega) hD6 ht hf j 600 0 (by omega) (by omega)
  unfold f_R_readLine
  rw [i0, b1_k, if_pos (show (if false = true then (1 : Int32) else 0) = 0 from rfl), hD4, if_neg (le_f0 (by omega) (by omega)), i5, b1_k, if_pos (show (if false = true then (1 : Int32) else 0) = 0 from rfl)]
  unfold f_R_readLine_56
  rw [hD4, if_neg (le_f0 (by omega) (by omega)), i8, b1_k, if_neg (by decide)]
  unfold f_R_readNoise
  rw [hD6, if_pos (show nI j < 10 from lt_t (b := 10) hj (by omega)), a1, b2_k, if_neg one0, a2, b2_k, if_neg one0, v2, hno, b1_k, if_pos rfl, a3, b2_k, if_neg one0, a4, b2_k, if_neg one0, v4]
  unfold f_P_addNoise
  rw [b1_k, a5, b2_k, gZ1, b3_k, gZ1, hD6, mkPut_ok hj (by omega), mkPut_ok hj (by omega), pu_one]
