/-! the whole text, read by the class -/
theorem e_13 : lt 13 = lt 0 ++ ([32] ++ (lt 1 ++ [32])) := by decide +kernel
theorem e_14 : lt 14 = [32] ++ (lt 2 ++ [32]) := by decide +kernel
theorem e_15 : lt 15 = [32] ++ (lt 3 ++ [32]) := by decide +kernel
theorem e_16 : lt 16 = [32] ++ (lt 4 ++ [32]) := by decide +kernel
theorem e_19 : lt 19 = lt 5 ++ ([32] ++ (lt 6 ++ [32])) := by decide +kernel
theorem e_20 : lt 20 = [32] ++ (lt 7 ++ [32]) := by decide +kernel
theorem e_21 : lt 21 = lt 8 ++ ([32] ++ (lt 6 ++ [32])) := by decide +kernel
theorem e_22 : lt 22 = [32] ++ (lt 9 ++ [32]) := by decide +kernel
def sL (Y : mk_Y) (i : Nat) : List Nat := lt 19 ++ (decL (zd Y (7 + i)) ++ (lt 20 ++ (bLk Y i (zd Y (17 + i)) ++ lt 17)))
def nL (Y : mk_Y) (j : Nat) : List Nat := lt 21 ++ (decL (zd Y (37 + j)) ++ (lt 22 ++ (lt (10 + zd Y (47 + j)) ++ lt 17)))
def sFr (Y : mk_Y) : Nat → Nat → List Nat
  | _, 0 => []
  | i, k + 1 => sL Y i ++ sFr Y (i + 1) k
def nFr (Y : mk_Y) : Nat → Nat → List Nat
  | _, 0 => []
  | i, k + 1 => nL Y i ++ nFr Y (i + 1) k
theorem zTs_fr (Y : mk_Y) : ∀ k i, zTs Y (i + k) = zTs Y i ++ sFr Y i k
  | 0, i => by show zTs Y i = zTs Y i ++ []; rw [List.append_nil]
  | k + 1, i => by
    rw [show i + (k + 1) = (i + 1) + k by omega, zTs_fr Y k (i + 1), zTs, sFr, sL]
    simp only [List.append_assoc]
theorem zTn_fr (Y : mk_Y) : ∀ k i, zTn Y (i + k) = zTn Y i ++ nFr Y i k
  | 0, i => by show zTn Y i = zTn Y i ++ []; rw [List.append_nil]
  | k + 1, i => by
    rw [show i + (k + 1) = (i + 1) + k by omega, zTn_fr Y k (i + 1), zTn, nFr, nL]
    simp only [List.append_assoc]
theorem zTn_all (Y : mk_Y) : zTn Y (zd Y 5) = zH Y ++ (sFr Y 0 (zd Y 4) ++ nFr Y 0 (zd Y 5)) := by
  have h1 := zTn_fr Y (zd Y 5) 0
  have h2 := zTs_fr Y (zd Y 4) 0
  rw [Nat.zero_add] at h1 h2
  rw [h1, zTn, h2, zTs, List.append_assoc]
theorem zd_BD (Y : mk_Y) : mk_BD (zd Y) := by
  obtain ⟨h0, h1, h1', h2, h3, h3', h4, h5⟩ := zd_le Y
  have h6 : zd Y 6 = 1 + zd Y 4 + zd Y 5 := rfl
  refine ⟨by omega, by omega, by omega, by omega, by omega, by omega, by omega, ⟨fun z => by omega, fun z => by omega⟩, fun i hi => ?_, fun i hi => ?_⟩
  · obtain ⟨a1, a2, a3⟩ := zd_7l Y (i := i) (by omega)
    exact ⟨by omega, a2, a3, by rw [zd_27 Y (by omega)]; exact bvN_lt _ _⟩
  · obtain ⟨a1, a2⟩ := zd_37l Y (i := i) (by omega)
    exact ⟨by omega, a2⟩
/-- the plan as it is read so far -/
def DS (Y : mk_Y) (i j : Nat) (D : Nat → Nat → Int32) : Prop := D 0 0 = nI (zd Y 0) ∧ D 1 0 = nI (zd Y 1) ∧ D 2 0 = nI (zd Y 2) ∧ D 3 0 = nI (zd Y 3) ∧ D 4 0 = nI (1 + i + j) ∧ D 5 0 = nI i ∧ D 6 0 = nI j ∧ (∀ k, k < i → D 7 k = nI (zd Y (7 + k)) ∧ D 8 k = nI (zd Y (17 + k)) ∧ D 9 k = nI (zd Y (27 + k))) ∧ ∀ k, k < j → D 10 k = nI (zd Y (37 + k)) ∧ D 11 k = nI (zd Y (47 + k))
theorem rd_go {T r D w u D' : Nat → Nat → Int32} {a p v n : Nat} (hv : v ≤ 400) (w1 : f_R_step r T = some w) (wT : TR (T 0) a p w) (hk : tKb (T 0) a (tB (T 0) a p) ≠ 0) (l1 : f_R_readLine w T D = some (1, u, D')) : f_R_read_24 T (n + 1) (nI v) r D = f_R_read_24 T n (nI (v + 1)) u (upF 4 (D' 4 0 + 1) D') := by
  have hle := tKb_le (T 0) a (tB (T 0) a p)
  rw [f_R_read_24, if_neg (show ¬ (500 : Int32) < nI v from lt_f (a := 500) (by omega) (by omega)), w1, b1_k, wT.1, if_neg (eq_f0 hk (by omega)), l1, b3_k, if_neg one0, pu_one]
theorem rd_end {T r D : Nat → Nat → Int32} {p v n : Nat} (hv : v ≤ 400) (h : Pt T p []) (h4 : r 4 0 = nI p) : ∃ w, f_R_read_24 T (n + 1) (nI v) r D = some (1, w, D) := by
  obtain ⟨w, w1, wT, -⟩ := L_step (T := T) (r := r) h.1 h.2.1 (Nat.le_add_right _ _) h4
  obtain ⟨e1, e2⟩ := tok_0 (T := T) (p := p)
  refine ⟨w, ?_⟩
  rw [f_R_read_24, if_neg (show ¬ (500 : Int32) < nI v from lt_f (a := 500) (by omega) (by omega)), w1, b1_k, wT.1, e1, e2, if_pos (show nI 0 = 0 from rfl)]
theorem rd_noi {T : Nat → Nat → Int32} {Y : mk_Y} : ∀ k j p n v (r D : Nat → Nat → Int32), j + k = zd Y 5 → k < n → v ≤ 100 + j → Pt T p (nFr Y j k) → r 4 0 = nI p → DS Y (zd Y 4) j D → ∃ r' D', f_R_read_24 T n (nI v) r D = some (1, r', D') ∧ DS Y (zd Y 4) (zd Y 5) D'
  | 0, j, p, n, v, r, D, hj, hn, hv, hP, h4, hD => by
    have h5 := (zd_le Y).2.2.2.2.2.2.2
    obtain ⟨n, rfl, hn'⟩ := q_fu hn
    obtain rfl : j = zd Y 5 := by omega
    obtain ⟨w, e⟩ := rd_end (D := D) (n := n) (v := v) (by omega) hP h4
    exact ⟨w, D, e, hD⟩
  | k + 1, j, p, n, v, r, D, hj, hn, hv, hP, h4, hD => by
    have h5 := (zd_le Y).2.2.2.2.2.2.2
    have hz4 := (zd_le Y).2.2.2.2.2.2.1
    obtain ⟨n, rfl, hn'⟩ := q_fu hn
    obtain ⟨d0, d1, d2, d3, d4, d5, d6, d7, d8⟩ := hD
    obtain ⟨a1, a2⟩ := zd_37l Y (i := j) (by omega)
    have eL : nFr Y j (k + 1) = [] ++ (lt 8 ++ ([32] ++ (lt 6 ++ ([32] ++ (decL (zd Y (37 + j)) ++ ([32] ++ (lt 9 ++ ([32] ++ (lt (10 + zd Y (47 + j)) ++ (lt 17 ++ nFr Y (j + 1) k)))))))))) := by
      rw [nFr, nL, e_21, e_22]
      simp only [List.append_assoc, List.nil_append]
    rw [eL] at hP
    have hf : ∀ q, q < j → D 10 q = nI (zd Y (37 + q)) ∧ zd Y (37 + q) < 200 ∧ zd Y (37 + q) ≠ zd Y (37 + j) := fun q hq => by
      have b1 := zd_37l Y (i := q) (by omega)
      refine ⟨(d8 q hq).1, by omega, ?_⟩
      rw [zd_37 Y (by omega), zd_37 Y (by omega)]
      omega
    have hW := isW_t (w := 8) (by decide) (Or.inl rfl) (hd32 (by decide)) hP
    obtain ⟨w0, w1, wT, -⟩ := L_step (T := T) (r := r) hP.1 hP.2.1 (Nat.le_add_right _ _) h4
    obtain ⟨u, p', l1, l2, l3⟩ := ln_noi (n := zd Y 4 + j) (t := zd Y (37 + j)) (a := zd Y (47 + j)) (f := fun q => zd Y (37 + q)) (by omega) a2 (by omega) (by omega) (by rw [d4]; congr 1; omega) d6 hf hP wT
    have hle := tKb_le (T 0) (p + (([] : List Nat) ++ (lt 8 ++ ([32] ++ (lt 6 ++ ([32] ++ (decL (zd Y (37 + j)) ++ ([32] ++ (lt 9 ++ ([32] ++ (lt (10 + zd Y (47 + j)) ++ (lt 17 ++ nFr Y (j + 1) k))))))))))).length) (tB (T 0) (p + (([] : List Nat) ++ (lt 8 ++ ([32] ++ (lt 6 ++ ([32] ++ (decL (zd Y (37 + j)) ++ ([32] ++ (lt 9 ++ ([32] ++ (lt (10 + zd Y (47 + j)) ++ (lt 17 ++ nFr Y (j + 1) k))))))))))).length) p)
    rw [f_R_read_24, if_neg (show ¬ (500 : Int32) < nI v from lt_f (a := 500) (by omega) (by omega)), w1, b1_k, wT.1, if_neg (eq_f0 (isW_lt hW.1) (by omega)), l1, b3_k, if_neg one0, pu_one]
    refine rd_noi k (j + 1) p' n (v + 1) u _ (by omega) (by omega) (by omega) l3 l2 ⟨d0, d1, d2, d3, ?_, d5, rfl, d7, fun q hq => ?_⟩
    · show D 4 0 + 1 = _
      rw [d4, pu_one]; congr 1 <;> omega
    · show upd (D 10) j (nI (zd Y (37 + j))) q = _ ∧ upd (D 11) j (nI (zd Y (47 + j))) q = _
      by_cases e : q = j
      · subst e; rw [upd_s, upd_s]; exact ⟨rfl, rfl⟩
      · rw [upd_n e, upd_n e]; exact d8 q (by omega)
theorem rd_snd {T : Nat → Nat → Int32} {Y : mk_Y} : ∀ k i p n v (r D : Nat → Nat → Int32), i + k = zd Y 4 → k + 10 < n → v ≤ 50 + i → Pt T p (sFr Y i k ++ nFr Y 0 (zd Y 5)) → r 4 0 = nI p → DS Y i 0 D → ∃ r' D', f_R_read_24 T n (nI v) r D = some (1, r', D') ∧ DS Y (zd Y 4) (zd Y 5) D'
  | 0, i, p, n, v, r, D, hi, hn, hv, hP, h4, hD => by
    have h5 := (zd_le Y).2.2.2.2.2.2.2
    have hz4 := (zd_le Y).2.2.2.2.2.2.1
    obtain rfl : i = zd Y 4 := by omega
    exact rd_noi (zd Y 5) 0 p n v r D (by omega) (by omega) (by omega) hP h4 hD
  | k + 1, i, p, n, v, r, D, hi, hn, hv, hP, h4, hD => by
    have hz4 := (zd_le Y).2.2.2.2.2.2.1
    obtain ⟨n, rfl, hn'⟩ := q_fu hn
    obtain ⟨d0, d1, d2, d3, d4, d5, d6, d7, d8⟩ := hD
    obtain ⟨a1, a2, a3⟩ := zd_7l Y (i := i) (by omega)
    have eL : sFr Y i (k + 1) ++ nFr Y 0 (zd Y 5) = [] ++ (lt 5 ++ ([32] ++ (lt 6 ++ ([32] ++ (decL (zd Y (7 + i)) ++ ([32] ++ (lt 7 ++ ([32] ++ (bLk Y i (zd Y (17 + i)) ++ (lt 17 ++ (sFr Y (i + 1) k ++ nFr Y 0 (zd Y 5)))))))))))) := by
      rw [sFr, sL, e_19, e_20]
      simp only [List.append_assoc, List.nil_append]
    rw [eL] at hP
    have hW := isW_t (w := 5) (by decide) (Or.inl rfl) (hd32 (by decide)) hP
    obtain ⟨w0, w1, wT, -⟩ := L_step (T := T) (r := r) hP.1 hP.2.1 (Nat.le_add_right _ _) h4
    obtain ⟨u, p', l1, l2, l3⟩ := ln_snd (n := i) (by omega) a2 a3 (by omega) (by omega) (by rw [d4]; congr 1; omega) d5 hP wT
    have hne := isW_lt hW.1
    have hle := tKb_le (T 0) (p + (([] : List Nat) ++ (lt 5 ++ ([32] ++ (lt 6 ++ ([32] ++ (decL (zd Y (7 + i)) ++ ([32] ++ (lt 7 ++ ([32] ++ (bLk Y i (zd Y (17 + i)) ++ (lt 17 ++ (sFr Y (i + 1) k ++ nFr Y 0 (zd Y 5))))))))))))).length) (tB (T 0) (p + (([] : List Nat) ++ (lt 5 ++ ([32] ++ (lt 6 ++ ([32] ++ (decL (zd Y (7 + i)) ++ ([32] ++ (lt 7 ++ ([32] ++ (bLk Y i (zd Y (17 + i)) ++ (lt 17 ++ (sFr Y (i + 1) k ++ nFr Y 0 (zd Y 5))))))))))))).length) p)
    rw [f_R_read_24, if_neg (show ¬ (500 : Int32) < nI v from lt_f (a := 500) (by omega) (by omega)), w1, b1_k, wT.1, if_neg (eq_f0 hne (by omega)), l1, b3_k, if_neg one0, pu_one]
    refine rd_snd k (i + 1) p' n (v + 1) u _ (by omega) (by omega) (by omega) l3 l2 ⟨d0, d1, d2, d3, ?_, rfl, d6, fun q hq => ?_, fun q hq => absurd hq (Nat.not_lt_zero q)⟩
    · show D 4 0 + 1 = _
      rw [d4, pu_one]; congr 1 <;> omega
    · show upd (D 7) i (nI (zd Y (7 + i))) q = _ ∧ upd (D 8) i (nI (zd Y (17 + i))) q = _ ∧ upd (D 9) i (nI (bvN (cv Y (6 + i) / 256) (zd Y (17 + i)))) q = _
      by_cases e : q = i
      · subst e; rw [upd_s, upd_s, upd_s, zd_27 Y (by omega)]; exact ⟨rfl, rfl, rfl⟩
      · rw [upd_n e, upd_n e, upd_n e]; exact d7 q (by omega)
theorem rd_all {T uR uD : Nat → Nat → Int32} {Y : mk_Y} (hP : Pt T 0 (zTn Y (zd Y 5))) : ∃ r' D', f_R_read uR T uD = some (1, r', D') ∧ DS Y (zd Y 4) (zd Y 5) D' := by
  obtain ⟨h0, h1, h1', h2, h3, h3', hz4, hz5⟩ := zd_le Y
  have eL : zTn Y (zd Y 5) = [] ++ (lt 0 ++ ([32] ++ (lt 1 ++ ([32] ++ (decL (zd Y 0) ++ ([32] ++ (lt 2 ++ ([32] ++ (decL (zd Y 1) ++ ([32] ++ (lt 3 ++ ([32] ++ (decL (zd Y 2) ++ ([32] ++ (lt 4 ++ ([32] ++ (decL (zd Y 3) ++ (lt 17 ++ (sFr Y 0 (zd Y 4) ++ nFr Y 0 (zd Y 5)))))))))))))))))))) := by
    rw [zTn_all, zH, e_13, e_14, e_15, e_16]
    simp only [List.append_assoc, List.nil_append]
  rw [eL] at hP
  have hW := isW_t (w := 0) (by decide) (Or.inl rfl) (hd32 (by decide)) hP
  unfold f_R_read f_P_clear
  rw [b1_k]
  obtain ⟨w0, w1, wT, -⟩ := L_step (T := T) (r := upF 4 0 (upF 7 (-1) (upF 6 0 uR))) (p := 0) hP.1 hP.2.1 (Nat.le_add_right _ _) rfl
  obtain ⟨u, p', l1, l2, l3⟩ := ln_ch (D := upF 6 0 (upF 5 0 (upF 4 0 (upF 3 0 (upF 2 0 (upF 1 0 (upF 0 0 uD))))))) (by omega) (by omega) (by omega) (by omega) (by omega) (by omega) rfl hP wT
  have hne := isW_lt hW.1
  have e24 := rd_go (n := 599) (v := 0) (by omega) w1 wT hne l1
  have e24 : f_R_read_24 T 600 0 (upF 4 0 (upF 7 (-1) (upF 6 0 uR))) (upF 6 0 (upF 5 0 (upF 4 0 (upF 3 0 (upF 2 0 (upF 1 0 (upF 0 0 uD))))))) = _ := e24
  rw [e24]
  exact rd_snd (zd Y 4) 0 p' 599 1 u _ (by omega) (by omega) (by omega) l3 l2 ⟨rfl, rfl, rfl, rfl, rfl, rfl, rfl, fun q hq => absurd hq (Nat.not_lt_zero q), fun q hq => absurd hq (Nat.not_lt_zero q)⟩
theorem ch_of {uR uT uD uY uP uS uC uA : Nat → Nat → Int32} {uQ : Nat} {Y : mk_Y} (hP : Pt uT 0 (zTn Y (zd Y 5))) : ∃ wR wD wY wP wS wC, f_Z_channel uQ uR uT uD uY uP uS uC uA = some (nI (1 + zd Y 4 + zd Y 5), 0, wR, upF 1 0 uT, wD, wY, wP, wS, wC, upF 2 0 uA) ∧ mk_CP wP (zd Y) ∧ NowR (zd Y) (zd Y 0) wC := by
  obtain ⟨r', D', e1, d0, d1, d2, d3, d4, d5, d6, d7, d8⟩ := rd_all (uR := uR) (uD := uD) hP
  have hB := zd_BD Y
  have hC : mk_CP D' (zd Y) := ⟨d0, d1, d2, d3, by rw [d4]; rfl, d5, d6, d7, d8⟩
  obtain ⟨w, b1', b2'⟩ := L_become (u := uP) hB hC
  obtain ⟨wY, wS, wC, r1, r2⟩ := run_of (u := w) (y := uY) (s := uS) (c := uC) hB b2'.Q hB.1
  refine ⟨r', D', wY, w, wS, wC, ?_, b2', r2⟩
  have e : f_Y_run uY w uS uC (w 0 0) (-1) (-1) = some (wC 9 0, wY, wS, wC) := by rw [b2'.1]; exact r1
  unfold f_Z_channel
  rw [e1, b3_k, if_neg one0, b1', b1_k, e, b4_k, b2'.2.2.2.2.1]
  rfl
