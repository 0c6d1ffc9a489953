/-! pure: the noise's line -/
theorem N162B {m : Nat} {x : Nat → Nat → Int32} (hm : m < 10) (h : x 12 0 = 1) (h5 : x 0 5 = nI m) (v1 v2 t1 : Int32) : ∃ g, f_X_readsNoise_162 v1 v2 t1 x = some (upR 0 g x) ∧ ∀ k, 57 ≤ k → g k = x 0 k := by
  unfold f_X_readsNoise_162
  have e5 : upd (x 0) (37 + m) v1 5 = nI m := by rw [upd_n (by omega), h5]
  rw [X_pB h, b1_k, h5, q_p37, gI_ok (by omega) (by omega), pu_cl (by omega), e5, q_p47, gI_ok (by omega) (by omega), pu_cl (by omega), upR_R, upR_R]
  exact ⟨_, rfl, hi_u (hi_u (hi_u (fun _ _ => rfl) (by omega)) (by omega)) (by omega)⟩
theorem N134B {m : Nat} {x : Nat → Nat → Int32} (hm : m < 10) (h : x 12 0 = 1) (h5 : x 0 5 = nI m) (v1 t0 : Int32) : ∃ g, f_X_readsNoise_134 v1 t0 x = some (upR 0 g x) ∧ ∀ k, 57 ≤ k → g k = x 0 k := by
  unfold f_X_readsNoise_134 f_X_readsNoise_157
  rw [if_neg (show ¬ x 12 0 = 0 from by rw [h]; exact one0)]
  exact N162B hm h h5 _ _ _
theorem iteF {α : Type} {a b : α} : (if (if false = true then (1 : Int32) else 0) = 0 then a else b) = a := if_pos rfl
theorem iteT {α : Type} {a b : α} : (if (if true = true then (1 : Int32) else 0) = 0 then a else b) = b := if_neg one0
theorem N104B {B : Nat → Int32} {tl q m : Nat} {x : Nat → Nat → Int32} (ht : tl ≤ 500) (hq : q ≤ tl) (hT : TP B tl x) (hX : TX B tl q x) (hm : m < 10) (h : x 12 0 = 1) (h5 : x 0 5 = nI m) (v1 t1 : Int32) : ∃ g, f_X_readsNoise_104 v1 t1 x = some (upR 0 g x) ∧ ∀ k, 57 ≤ k → g k = x 0 k := by
  unfold f_X_readsNoise_104
  rw [X_pB h, b1_k, L_wX ht hq (by omega) hT hX, b1_k, L_wX ht hq (by omega) hT hX, b1_k]
  cases isW B tl q 10
  · rw [iteF]
    cases isW B tl q 11
    · rw [iteF]; exact N134B hm h h5 _ _
    · rw [iteT]; exact N134B hm h h5 _ _
  · rw [iteT]; exact N134B hm h h5 _ _
theorem N81B {B : Nat → Int32} {tl q m : Nat} {x : Nat → Nat → Int32} (ht : tl ≤ 500) (hq : q ≤ tl) (hT : TP B tl x) (hX : TX B tl q x) (hm : m < 10) (h : x 12 0 = 1) (h5 : x 0 5 = nI m) (v1 : Int32) : ∃ g, f_X_readsNoise_81 v1 x = some (upR 0 g x) ∧ ∀ k, 57 ≤ k → g k = x 0 k := by
  unfold f_X_readsNoise_81 f_X_readsNoise_99
  rw [if_neg (show ¬ x 12 0 = 0 from by rw [h]; exact one0)]
  exact N104B ht hq hT hX hm h h5 _ _
theorem N62B {B : Nat → Int32} {tl q m : Nat} {x : Nat → Nat → Int32} (ht : tl ≤ 500) (hq : q ≤ tl) (hT : TP B tl x) (hX : TX B tl q x) (hm : m < 10) (h : x 12 0 = 1) (h5 : x 0 5 = nI m) : ∃ g, f_X_readsNoise_62 x = some (upR 0 g x) ∧ ∀ k, 57 ≤ k → g k = x 0 k := by
  unfold f_X_readsNoise_62
  rw [if_neg (show ¬ x 12 0 = 0 from by rw [h]; exact one0)]
  exact N81B ht hq hT hX hm h h5 _
theorem N162G {B : Nat → Int32} {tl q m k t : Nat} {r s x : Nat → Nat → Int32} (ht : tl ≤ 500) (h : Rd B tl q r x) (hm : m < 10) (h5 : x 0 5 = nI m) (s4 : s 4 0 = nI (nx B tl q)) (s6 : s 6 = r 6) (s7 : s 7 = r 7) : ∃ w, f_X_readsNoise_162 (nI t) (nI k) 1 x = some w ∧ w 0 = upd (upd (upd (x 0) (37 + m) (nI t)) (47 + m) (nI k)) 5 (nI (m + 1)) ∧ Rd B tl (nx B tl q) s w ∧ Sm x w := by
  obtain ⟨hq, h4, hX, hT, h12, hF⟩ := h
  have hn := (nx_le (B := B) hq).2
  obtain ⟨y, y1, y2, y3⟩ := X_pT ht hn hT h12 hX.2.2.1
  have y0 : y 0 = x 0 := y3 0 (by decide) (by decide) (by decide) (by decide)
  unfold f_X_readsNoise_162
  have e5 : upd (x 0) (37 + m) (nI t) 5 = nI m := by rw [upd_n (by omega), h5]
  have e6 : upd (upd (x 0) (37 + m) (nI t)) (47 + m) (nI k) 5 + 1 = nI (m + 1) := by rw [upd_n (by omega), e5, pu_one]
  rw [y1, b1_k, y0, h5, q_p37, gI_ok (by omega) (by omega), pu_cl (by omega), e5, q_p47, gI_ok (by omega) (by omega), pu_cl (by omega), e6, upR_R, upR_R]
  refine ⟨_, rfl, by rw [upR_s], ⟨hn, s4, y2, ?_, ?_, ?_⟩, Sm_t (Sm_n y3) (Sm_0 _ _)⟩
  · exact TP_of (TP_n hT (Sm_n y3)) rfl rfl
  · show y 12 0 = 0
    rw [y3 12 (by decide) (by decide) (by decide) (by decide)]; exact h12
  · have hF2 : FR s y := FR_n hF s6 s7 y3
    exact hF2
theorem J_kind {T r z : Nat → Nat → Int32} {tl q m t : Nat} (ht : tl ≤ 500) (h1 : T 1 0 = nI tl) (hm : m < 10) (h : Rd (T 0) tl q r z) (z5 : z 0 5 = nI m) : (∃ k s w, k ≤ 2 ∧ f_R_readKind r T = some (1, s) ∧ s 5 0 = nI k ∧ b1 (f_X_isWord z 10) (fun r12 => if r12 = 0 then b1 (f_X_isWord z 11) (fun r15 => if r15 = 0 then (f_X_readsNoise_134 (nI t) 2 z) else (f_X_readsNoise_134 (nI t) 1 z)) else (f_X_readsNoise_134 (nI t) 0 z)) = some w ∧ w 0 = upd (upd (upd (z 0) (37 + m) (nI t)) (47 + m) (nI k)) 5 (nI (m + 1)) ∧ Rd (T 0) tl (nx (T 0) tl q) s w ∧ Sm z w) ∨ (∃ s w, f_R_readKind r T = some (0, s) ∧ b1 (f_X_isWord z 10) (fun r12 => if r12 = 0 then b1 (f_X_isWord z 11) (fun r15 => if r15 = 0 then (f_X_readsNoise_134 (nI t) 2 z) else (f_X_readsNoise_134 (nI t) 1 z)) else (f_X_readsNoise_134 (nI t) 0 z)) = some w ∧ Bd s w ∧ Sm z w ∧ Hi z w) := by
  have h' := h
  obtain ⟨hq, h4, hX, hT, h12, hF⟩ := h'
  obtain ⟨v, g1, g2, g5⟩ := L_step ht h1 hq h4
  have v6 : v 6 = r 6 := g5 6 (by decide) (by decide) (by decide)
  have v7 : v 7 = r 7 := g5 7 (by decide) (by decide) (by decide)
  unfold f_R_readKind f_X_readsNoise_134 f_X_readsNoise_157
  rw [g1, b1_k, L_wR ht hq (by omega) g2, b1_k, L_wR ht hq (by omega) g2, b1_k, L_wR ht hq (by omega) g2, b1_k, L_wX ht hq (by omega) hT hX, b1_k, L_wX ht hq (by omega) hT hX, b1_k, if_pos h12, if_pos h12, if_pos h12, L_wX ht hq (by omega) hT hX, b1_k]
  cases a0 : isW (T 0) tl q 10
  · rw [iteF, iteF]
    cases a1 : isW (T 0) tl q 11
    · rw [iteF, iteF, if_neg (show ¬ (2 : Int32) < 2 by decide)]
      cases a2 : isW (T 0) tl q 12
      · right
        unfold f_R_refuse f_X_readsNoise_162
        rw [iteF, iteF, b2_k, gZ0, X_pF h12, b1_k]
        have e5 : bdX 1 z 0 5 = nI m := by rw [bdX_0]; exact z5
        have e5' : upd (bdX 1 z 0) (37 + m) (nI t) 5 = nI m := by rw [upd_n (by omega), e5]
        rw [e5, q_p37, gI_ok (by omega) (by omega), pu_cl (by omega), e5', q_p47, gI_ok (by omega) (by omega), pu_cl (by omega), upR_R, upR_R]
        have hb : Bd (upF 7 (v 3 0) (upF 6 1 v)) (bdX 1 z) := Bd_of rfl g2.2.1 hX.2.1
        exact ⟨_, _, rfl, rfl, hb, Sm_t (Sm_b _ _) (Sm_0 _ _), Hi_t (Hi_b z 1) (hi_u (hi_u (hi_u (fun _ _ => rfl) (by omega)) (by omega)) (by omega))⟩
      · left
        rw [iteT, iteT]
        obtain ⟨w, w1, w2, w3, w4⟩ := N162G (t := t) (k := 2) (s := upF 5 2 v) ht h hm z5 g2.2.2 v6 v7
        exact ⟨2, _, w, Nat.le_refl _, rfl, rfl, w1, w2, w3, w4⟩
    · left
      rw [iteT, iteT, if_pos (show (1 : Int32) < 2 by decide)]
      obtain ⟨w, w1, w2, w3, w4⟩ := N162G (t := t) (k := 1) (s := upF 5 1 v) ht h hm z5 g2.2.2 v6 v7
      exact ⟨1, _, w, by omega, rfl, rfl, w1, w2, w3, w4⟩
  · left
    rw [iteT, iteT, if_pos (show (0 : Int32) < 2 by decide)]
    obtain ⟨w, w1, w2, w3, w4⟩ := N162G (t := t) (k := 0) (s := upF 5 0 v) ht h hm z5 g2.2.2 v6 v7
    exact ⟨0, _, w, by omega, rfl, rfl, w1, w2, w3, w4⟩
theorem J_noise {T r x D : Nat → Nat → Int32} {tl p : Nat} {d : Nat → Nat} (ht : tl ≤ 500) (h1 : T 1 0 = nI tl) (h : At (T 0) tl p r x) (hK : tKb (T 0) tl (tB (T 0) tl p) ≠ 0) (hB : mk_BD d) (hM : mk_MP (x 0) d) (hC : mk_CP D d) : (∃ t k, t < 200 ∧ k ≤ 2 ∧ d 5 < 10 ∧ Lok T tl p x (f_R_readNoise r T D) (f_X_readsNoise x) (dN d t k)) ∨ Lno x (f_R_readNoise r T D) (f_X_readsNoise x) := by
  have hd5 : d 5 ≤ 10 := hB.2.2.2.2.2.1
  have h' := h
  obtain ⟨hp, hR, hX, hT, h12, hF⟩ := h'
  unfold f_R_readNoise f_X_readsNoise
  rw [hC.2.2.2.2.2.2.1, hM 5]
  by_cases z : d 5 = 10
  · right
    unfold f_R_refuse
    rw [z, if_neg (show ¬ nI 10 < 10 by decide), if_pos (show nI 10 = 10 from rfl), X_fG h12, b1_k, b2_k, gZ0]
    exact ⟨_, D, _, rfl, rfl, Bd_of rfl hR.2.1 hX.2.1, Sm_b _ _, Hi_b _ _⟩
  have hm : d 5 < 10 := by omega
  obtain ⟨y, y1, ⟨hq, y4, yX, yT, y12, yF⟩, y0, yS⟩ := At_next ht h
  have hlt := nx_lt hp hK
  obtain ⟨cT, cF⟩ := L_readWord (w := 6) ht h1 hq y4 (by omega)
  rw [if_pos (show nI (d 5) < 10 from lt_t (b := 10) (by omega) (by omega)), if_neg (show ¬ nI (d 5) = 10 from eq_f (b := 10) z (by omega) (by omega)), y1, b1_k, L_wX ht hq (by omega) yT yX, b1_k]
  generalize nx (T 0) tl p = q at *
  have n2 := nx_le (B := T 0) hq
  cases hi' : isW (T 0) tl q 6
  · right
    obtain ⟨u, w1, w2, w3⟩ := cF hi'
    rw [w1, b2_k, if_pos rfl, show (if false = true then (1 : Int32) else 0) = 0 from rfl, X_pF y12, b1_k, if_neg (show ¬ bdX 1 y 12 0 = 0 from one0)]
    obtain ⟨g, e, eg⟩ := N62B (q := q) (m := d 5) (x := bdX 1 y) ht hq (TP_n yT (Sm_b _ _)) yX hm rfl (by rw [bdX_0, y0]; exact hM 5)
    rw [e]
    have hb : Bd u (bdX 1 y) := Bd_of w2 w3 yX.2.1
    exact ⟨u, D, _, rfl, rfl, hb, Sm_t yS (Sm_t (Sm_b _ _) (Sm_0 _ _)), Hi_t (Hi_e y0) (Hi_t (Hi_b y 1) eg)⟩
  obtain ⟨u, w1, w2, w3, w4⟩ := cT hi'
  obtain ⟨m, m1, m2, m3⟩ := X_pT ht n2.2 yT y12 yX.2.2.1
  have m0 : m 0 = x 0 := by rw [m3 0 (by decide) (by decide) (by decide) (by decide), y0]
  have m12 : m 12 0 = 0 := by rw [m3 12 (by decide) (by decide) (by decide) (by decide)]; exact y12
  have mT := TP_n yT (Sm_n m3)
  have mS := Sm_t yS (Sm_n m3)
  have mF : FR u m := FR_n yF w3 w4 m3
  have mM : mk_MP (m 0) d := by rw [m0]; exact hM
  rw [w1, b2_k, if_neg one0, show (if true = true then (1 : Int32) else 0) = 1 from rfl, m1, b1_k, if_pos m12]
  have n3 := nx_le (B := T 0) n2.2
  obtain ⟨eT, eF⟩ := L_readNumber (lo := 0) (hi := 199) ht h1 n2.2 w2 (by omega) (by omega)
  obtain ⟨xT, xF⟩ := X_reads (lo := 0) (hi := 199) ht n2.2 mT m12 m2 (by omega) (by omega)
  rw [show nI 0 = 0 from rfl, show nI 199 = 199 from rfl] at eT eF xT xF
  have hKle := tKb_le (T 0) tl (tB (T 0) tl (nx (T 0) tl q))
  have n5 : tKb (T 0) tl (tB (T 0) tl (nx (T 0) tl q)) ≠ 0 → nx (T 0) tl q < nx (T 0) tl (nx (T 0) tl q) := nx_lt n2.2
  generalize nx (T 0) tl q = q1 at *
  have f62 : ∀ c, ∃ g, f_X_readsNoise_62 (bdX c m) = some (upR 0 g (bdX c m)) ∧ ∀ k, 57 ≤ k → g k = (bdX c m) 0 k := fun c => N62B (q := q1) (m := d 5) ht n2.2 (TP_n mT (Sm_b _ _)) m2 hm rfl (by rw [bdX_0, m0]; exact hM 5)
  have f81 : ∀ c t, ∃ g, f_X_readsNoise_81 t (bdX c m) = some (upR 0 g (bdX c m)) ∧ ∀ k, 57 ≤ k → g k = (bdX c m) 0 k := fun c t => N81B (q := q1) (m := d 5) ht n2.2 (TP_n mT (Sm_b _ _)) m2 hm rfl (by rw [bdX_0, m0]; exact hM 5) t
  by_cases k : tKb (T 0) tl (tB (T 0) tl q1) = 2 ∧ 0 ≤ tVb (T 0) tl (tB (T 0) tl q1) ∧ tVb (T 0) tl (tB (T 0) tl q1) ≤ 199
  · obtain ⟨s, s1, s2, s3, s4, s5, s6⟩ := eT k
    obtain ⟨n, n7, nX, n9⟩ := xT k
    obtain ⟨bb, b1', b2', b3'⟩ := q_noisy (nI (tVb (T 0) tl (tB (T 0) tl q1))) hB hC mM
    rw [s1, b2_k, if_neg one0, s2, b1', b1_k, if_pos (show m 10 0 = 2 from by rw [m2.1, k.1]; rfl), m2.2.2.2, b2', b1_k]
    rcases b3' with rfl | rfl
    · rw [if_pos rfl, if_pos rfl]
      unfold f_X_readsNoise_62
      rw [if_pos m12, n7, b2_k]
      have nT := TP_n mT (Sm_n n9)
      have n12 : n 12 0 = 0 := by rw [n9 12 (by decide) (by decide) (by decide) (by decide)]; exact m12
      have nS := Sm_t mS (Sm_n n9)
      have nF : FR s n := FR_n mF s4 s5 n9
      have n0 : n 0 = x 0 := by rw [n9 0 (by decide) (by decide) (by decide) (by decide), m0]
      have n6 := n5 (by omega)
      generalize tVb (T 0) tl (tB (T 0) tl q1) = t at *
      generalize nx (T 0) tl q1 = q2 at *
      obtain ⟨cT, cF⟩ := L_readWord (w := 9) ht h1 n3.2 s3 (by omega)
      unfold f_X_readsNoise_81 f_X_readsNoise_99
      rw [if_pos n12, L_wX ht n3.2 (by omega) nT nX, b1_k]
      cases hi2 : isW (T 0) tl q2 9
      · right
        obtain ⟨u2, c1, c2, c3⟩ := cF hi2
        rw [iteF, c1, b2_k, if_pos rfl]
        have hb : Bd u2 (bdX 1 n) := Bd_of c2 c3 nX.2.1
        obtain ⟨g, e, eg⟩ := N104B (q := q2) (m := d 5) (x := bdX 1 n) ht n3.2 (TP_n nT (Sm_b _ _)) nX hm rfl (by rw [bdX_0, n0]; exact hM 5) (nI t) 0
        have e' : f_X_readsNoise_104 (nI t) 0 n = some (upR 0 g (bdX 1 n)) := by
          rw [← e]
          unfold f_X_readsNoise_104
          rw [X_pF n12, X_pB (x := bdX 1 n) rfl]
        rw [e']
        exact ⟨u2, D, _, rfl, rfl, hb, Sm_t nS (Sm_t (Sm_b _ _) (Sm_0 _ _)), Hi_t (Hi_e n0) (Hi_t (Hi_b n 1) eg)⟩
      · obtain ⟨u2, c1, c2, c3, c4⟩ := cT hi2
        have n8 := nx_le (B := T 0) n3.2
        obtain ⟨v, v1, v2, v3⟩ := X_pT ht n8.2 nT n12 nX.2.2.1
        have v0 : v 0 = x 0 := by rw [v3 0 (by decide) (by decide) (by decide) (by decide), n0]
        have R4 : Rd (T 0) tl (nx (T 0) tl q2) u2 v := ⟨n8.2, c2, v2, TP_n nT (Sm_n v3), by rw [v3 12 (by decide) (by decide) (by decide) (by decide)]; exact n12, FR_n nF c3 c4 v3⟩
        unfold f_X_readsNoise_104
        rw [iteT, c1, b2_k, if_neg one0, v1, b1_k]
        have n10 := nx_le (B := T 0) n8.2
        rcases J_kind (t := t) ht h1 hm R4 (by rw [v0]; exact hM 5) with ⟨kk, s', w, k1, k2, k3, k4, k5, k6, k7⟩ | ⟨s', w, k2, k4, k6, k7, k8⟩
        · left
          obtain ⟨D2, f1, f2⟩ := q_addNoise hB hC hm t kk
          refine ⟨t, kk, by omega, k1, hm, s', D2, w, _, ?_, k4, k6, ?_, f2, Sm_t nS (Sm_t (Sm_n v3) k7), by omega⟩
          · rw [k2, b2_k, if_neg one0, k3, f1, b1_k]
          · rw [k5, v0]
            exact mk_MP_u (mk_MP_u (mk_MP_u hM _ _) _ _) _ _
        · right
          exact ⟨s', D, w, by rw [k2, b2_k, if_pos rfl], k4, k6, Sm_t nS (Sm_t (Sm_n v3) k7), Hi_t (Hi_e v0) k8⟩
    · right
      unfold f_R_refuse
      rw [if_neg one0, if_neg one0, X_fG m12, b1_k, b2_k, gZ0]
      obtain ⟨g, e, eg⟩ := f62 2
      rw [e]
      have hb : Bd (upF 7 (s 3 0) (upF 6 2 s)) (bdX 2 m) := Bd_of rfl s6 m2.2.1
      exact ⟨_, D, _, rfl, rfl, hb, Sm_t mS (Sm_t (Sm_b _ _) (Sm_0 _ _)), Hi_t (Hi_e m0) (Hi_t (Hi_b m 2) eg)⟩
  · right
    obtain ⟨s, s1, s2, s3⟩ := eF k
    have xe := xF k
    rw [s1, b2_k, if_pos rfl]
    have hb : Bd s (bdX (if tKb (T 0) tl (tB (T 0) tl q1) = 2 then 2 else 1) m) := Bd_of s2 s3 m2.2.1
    have e62 : ∃ g, f_X_readsNoise_62 m = some (upR 0 g (bdX (if tKb (T 0) tl (tB (T 0) tl q1) = 2 then 2 else 1) m)) ∧ ∀ k, 57 ≤ k → g k = (bdX (if tKb (T 0) tl (tB (T 0) tl q1) = 2 then 2 else 1) m) 0 k := by
      unfold f_X_readsNoise_62
      rw [if_pos m12, xe, b2_k]
      exact f81 _ _
    have fin : ∀ o : Option (Nat → Nat → Int32), (∃ g, o = some (upR 0 g (bdX (if tKb (T 0) tl (tB (T 0) tl q1) = 2 then 2 else 1) m)) ∧ ∀ k, 57 ≤ k → g k = (bdX (if tKb (T 0) tl (tB (T 0) tl q1) = 2 then 2 else 1) m) 0 k) → Lno x (some (0, s, D)) o := by
      rintro o ⟨g, rfl, eg⟩
      exact ⟨s, D, _, rfl, rfl, hb, Sm_t mS (Sm_t (Sm_b _ _) (Sm_0 _ _)), Hi_t (Hi_e m0) (Hi_t (Hi_b m _) eg)⟩
    refine fin _ ?_
    by_cases k2 : tKb (T 0) tl (tB (T 0) tl q1) = 2
    · obtain ⟨bb, b1', b2', b3'⟩ := q_noisy (nI (tVb (T 0) tl (tB (T 0) tl q1))) hB hC mM
      rw [if_pos (show m 10 0 = 2 from by rw [m2.1, k2]; rfl), m2.2.2.2, b2', b1_k]
      rcases b3' with rfl | rfl
      · rw [if_pos rfl]; exact e62
      · rw [if_neg one0, X_fG m12, b1_k, if_pos k2]
        exact f62 2
    · rw [if_neg (show ¬ m 10 0 = 2 from by rw [m2.1]; exact eq_f (b := 2) k2 (by omega) (by omega))]
      exact e62
