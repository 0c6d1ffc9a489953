/-! means: the class's loop, the reference's, the tables' demand -/
theorem L_m {l m a b : Nat} {A B : Nat → Nat} {p q : Nat} (hl : l ≤ 1) (hm : m < 9) (hm1 : 1 ≤ m) (hab : a ≤ b) (hb5 : b < 100) (hs1 : (b - a) ^ m ≤ b ^ m) (hs2 : a ^ m ≤ b ^ m - (b - a) ^ m) (h : e_m l m a b A B = some (p, q)) (u : Nat → Nat → Int64) (hA : ∀ i, i < m → u 0 i = lN (A i) ∧ u 1 i = lN (B i)) : ∃ w, f_M_reckonSplit u (nI l) (nI m) (nI a) (nI b) = some w ∧ w 3 0 = lN p ∧ w 4 0 = lN q ∧ w 0 = u 0 ∧ w 1 = u 1 := by
  unfold e_m at h
  obtain ⟨s, t, e, h⟩ := b2_some h
  obtain ⟨w, g1, g2, g3, g4, g5⟩ := L_m53 (nI l) hm hab hb5 hs1 hs2 600 1 s t (upF 4 (lN t) (upF 3 (lN s) u)) h (by omega) hm1 rfl rfl hA
  refine ⟨w, ?_, g2, g3, g4, g5⟩
  unfold f_M_reckonSplit f_M_reckonSplit_45
  rw [nI_l (n := b) (by omega), L_powM b (by omega), b1_k, pu_sub hab, nI_l (n := b - a) (by omega), L_powM (b - a) (by omega), b1_k, nI_l (n := a) (by omega), L_powM a (by omega), b1_k]
  by_cases z : l = 1
  · rw [if_pos z] at e
    rw [if_pos (show nI l = 1 by rw [z]; rfl), show (0 : Int64) = lN 0 from rfl, lN_add, lN_add, show (1 : Int64) = lN 1 from rfl, L_set e, b1_k]
    exact g1
  · rw [if_neg z] at e
    rw [if_neg (show ¬ nI l = 1 from eq_f (b := 1) z (by omega) (by omega)), lN_add, lN_add, show (1 : Int64) = lN 1 from rfl, L_set e, b1_k]
    exact g1
def e_x95 (m a b : Nat) (A B : Nat → Nat) : Nat → Nat → Nat → Nat → Option (Nat × Nat)
  | 0, _, _, _ => none
  | n + 1, k, s, t => if m ≤ k then b2 (e_is s t) (fun s t => e_ti s t (b ^ m) (b ^ m - a ^ m - (b - a) ^ m)) else b2 (e_is (ch m k * a ^ k * (b - a) ^ (m - k)) (b ^ m)) (fun p q => b2 (e_is (A k) (B k)) (fun u v => b2 (e_ad u v (A (m - k)) (B (m - k))) (fun u v => b2 (e_ti u v p q) (fun u v => b2 (e_ad u v s t) (fun s t => e_x95 m a b A B n (k + 1) s t)))))
def e_x (l m a b : Nat) (A B : Nat → Nat) : Option (Nat × Nat) := e_x95 m a b A B 600 1 (b ^ m + a ^ m + (if l = 1 then 0 else (b - a) ^ m)) (b ^ m)
theorem L_x95 {m a b : Nat} {A B : Nat → Nat} {p q : Nat} (p1 p2 : Int32) (k3 : Int32 → (Nat → Nat → Int64) → Option ((Nat → Nat → Int64))) (hm : m < 9) (hab : a ≤ b) (hs1 : a ^ m ≤ b ^ m) (hs2 : (b - a) ^ m ≤ b ^ m - a ^ m) : ∀ n k s t (u : Nat → Nat → Int64), e_x95 m a b A B n k s t = some (p, q) → 1 ≤ k → k ≤ m → (∀ i, i < m → u 43 i = lN (A i) ∧ u 44 i = lN (B i)) → ∃ w, f_X_means_95 p1 p2 (lN a) (lN b) k3 n (nI m) (lN (b ^ m)) (lN (a ^ m)) (lN ((b - a) ^ m)) (lN s) (lN t) (nI k) u = k3 (nI (m + 1)) w ∧ w 43 = vp_updL (u 43) m (lN p) ∧ w 44 = vp_updL (u 44) m (lN q)
  | 0, _, _, _, _, h, _, _, _ => nomatch h
  | n + 1, k, s, t, u, h, hk1, hkm, hA => by
    rw [e_x95] at h
    rw [f_X_means_95]
    by_cases z : m ≤ k
    · rw [if_pos z] at h
      obtain ⟨s1, t1, e1, h⟩ := b2_some h
      rw [if_pos (le_t z (by omega)), L_is e1, b1_k, lN_sub hs1, lN_sub hs2, L_ti h _ rfl rfl, b1_k, gI_ok hm (by omega), pu_cl (by omega), pu_one]
      exact ⟨_, rfl, rfl, rfl⟩
    · rw [if_neg z] at h
      obtain ⟨s1, t1, e1, h⟩ := b2_some h
      obtain ⟨s2, t2, e2, h⟩ := b2_some h
      obtain ⟨s3, t3, e3, h⟩ := b2_some h
      obtain ⟨s4, t4, e4, h⟩ := b2_some h
      obtain ⟨s5, t5, e5, h⟩ := b2_some h
      obtain ⟨a1, a2⟩ := hA k (by omega)
      obtain ⟨a3, a4⟩ := hA (m - k) (by omega)
      rw [if_neg (le_f (by omega) (by omega)), (q_ch m hm k (by omega) (by omega)).1, b1_k, L_powX a (by omega), b1_k, lN_sub hab, pu_sub (show k ≤ m by omega), L_powX (b - a) (by omega), b1_k, lN_mul, lN_mul, L_is e1, b1_k, gI_ok (by omega) (by omega), pu_cl (by omega)]
      rw [show upF 42 (lN t1) (upF 41 (lN s1) u) 43 = u 43 from rfl, show upF 42 (lN t1) (upF 41 (lN s1) u) 44 = u 44 from rfl, a1, a2, L_is e2, b1_k, gI_ok (by omega) (by omega), pu_cl (by omega)]
      rw [show upF 42 (lN t2) (upF 41 (lN s2) (upF 42 (lN t1) (upF 41 (lN s1) u))) 43 = u 43 from rfl, show upF 42 (lN t2) (upF 41 (lN s2) (upF 42 (lN t1) (upF 41 (lN s1) u))) 44 = u 44 from rfl, a3, a4, L_ad e3 _ rfl rfl, b1_k]
      rw [show upF 42 (lN t1) (upF 41 (lN s1) u) 41 0 = lN s1 from rfl, show upF 42 (lN t1) (upF 41 (lN s1) u) 42 0 = lN t1 from rfl, L_ti e4 _ rfl rfl, b1_k, L_ad e5 _ rfl rfl, b1_k, pu_one]
      obtain ⟨w, g1, g2, g3⟩ := L_x95 p1 p2 k3 hm hab hs1 hs2 n (k + 1) s5 t5 (upF 42 (lN t5) (upF 41 (lN s5) (upF 42 (lN t4) (upF 41 (lN s4) (upF 42 (lN t3) (upF 41 (lN s3) (upF 42 (lN t2) (upF 41 (lN s2) (upF 42 (lN t1) (upF 41 (lN s1) u)))))))))) h (by omega) (by omega) hA
      exact ⟨w, g1, g2, g3⟩
/-- what a table must hold -/
def mk_T (l a b N : Nat) (A B : Nat → Nat) : Prop := (A 0 = 1 ∧ B 0 = 1 ∧ A 1 = 1 ∧ B 1 = 1) ∧ ∀ m, m < N + 1 → 2 ≤ m → e_m l m a b A B = some (A m, B m) ∧ e_x l m a b A B = some (A m, B m) ∧ (b - a) ^ m ≤ b ^ m ∧ a ^ m ≤ b ^ m - (b - a) ^ m ∧ a ^ m ≤ b ^ m ∧ (b - a) ^ m ≤ b ^ m - a ^ m
theorem L_xm3 {l a b N : Nat} {A B : Nat → Nat} (hT : mk_T l a b N A B) (hl : l ≤ 1) (hab : a ≤ b) (hN : N ≤ 8) {n : Nat} (hn : n ≤ N) : ∀ j f i (u : Nat → Nat → Int64), i + j = n + 1 → j < f → (∀ k, k < i → u 43 k = lN (A k) ∧ u 44 k = lN (B k)) → ∃ w, f_X_means_3 (nI l) (nI n) (lN a) (lN b) f (nI i) u = some w ∧ ∀ k, k ≤ n → w 43 k = lN (A k) ∧ w 44 k = lN (B k)
  | 0, f, i, u, hj, hf, hA => by
    obtain ⟨f, rfl, _⟩ := q_fu hf
    rw [f_X_means_3, if_pos (lt_t (by omega) (by omega))]
    exact ⟨u, rfl, fun k hk => hA k (by omega)⟩
  | j + 1, f, i, u, hj, hf, hA => by
    obtain ⟨f, rfl, _⟩ := q_fu hf
    obtain ⟨⟨t1, t2, t3, t4⟩, hT2⟩ := hT
    rw [f_X_means_3, if_neg (lt_f (by omega) (by omega))]
    by_cases z : 2 ≤ i
    · obtain ⟨_, e, _, _, s1, s2⟩ := hT2 i (by omega) z
      unfold e_x at e
      rw [if_pos (show (2 : Int32) ≤ nI i from le_t (a := 2) z (by omega)), L_powX b (by omega), b1_k, L_powX a (by omega), b1_k, lN_sub hab, L_powX (b - a) (by omega), b1_k, show (1 : Int32) = nI 1 from rfl]
      have fin : ∀ w : Nat → Nat → Int64, w 43 = vp_updL (u 43) i (lN (A i)) → w 44 = vp_updL (u 44) i (lN (B i)) → ∃ v, f_X_means_3 (nI l) (nI n) (lN a) (lN b) f (nI (i + 1)) w = some v ∧ ∀ k, k ≤ n → v 43 k = lN (A k) ∧ v 44 k = lN (B k) := by
        intro w g2 g3
        refine L_xm3 ⟨⟨t1, t2, t3, t4⟩, hT2⟩ hl hab hN hn j f (i + 1) w (by omega) (by omega) (fun k hk => ?_)
        rw [g2, g3]
        by_cases y : k = i
        · subst y; rw [updL_s, updL_s]; exact ⟨rfl, rfl⟩
        · rw [updL_n y, updL_n y]; exact hA k (by omega)
      by_cases y : l = 1
      · rw [if_pos y, Nat.add_zero] at e
        obtain ⟨w, g1, g2, g3⟩ := L_x95 (nI l) (nI n) (f_X_means_3 (nI l) (nI n) (lN a) (lN b) f) (by omega) hab s1 s2 600 1 _ _ u e (by omega) (by omega) hA
        rw [if_pos (show nI l = nI 1 by rw [y]), lN_add, lN_add, lN_sub (by omega), Nat.add_sub_cancel, g1]
        exact fin w g2 g3
      · rw [if_neg y] at e
        obtain ⟨w, g1, g2, g3⟩ := L_x95 (nI l) (nI n) (f_X_means_3 (nI l) (nI n) (lN a) (lN b) f) (by omega) hab s1 s2 600 1 _ _ u e (by omega) (by omega) hA
        rw [if_neg (show ¬ nI l = nI 1 from eq_f y (by omega) (by omega)), lN_add, lN_add, show (0 : Int64) = lN 0 from rfl, lN_sub (Nat.zero_le _), Nat.sub_zero, g1]
        exact fin w g2 g3
    · rw [if_neg (show ¬ (2 : Int32) ≤ nI i from le_f (a := 2) (by omega) (by omega)), gI_ok (by omega) (by omega), pu_cl (by omega), pu_one]
      refine L_xm3 ⟨⟨t1, t2, t3, t4⟩, hT2⟩ hl hab hN hn j f (i + 1) _ (by omega) (by omega) (fun k hk => ?_)
      show vp_updL (u 43) i 1 k = _ ∧ vp_updL (u 44) i 1 k = _
      by_cases y : k = i
      · subst y
        rw [updL_s, updL_s]
        have : k = 0 ∨ k = 1 := by omega
        rcases this with rfl | rfl
        · rw [t1, t2]; exact ⟨rfl, rfl⟩
        · rw [t3, t4]; exact ⟨rfl, rfl⟩
      · rw [updL_n y, updL_n y]; exact hA k (by omega)
theorem L_mr3 {l a b N : Nat} {A B : Nat → Nat} (hT : mk_T l a b N A B) (hl : l ≤ 1) (hab : a ≤ b) (hb5 : b < 100) (hN : N ≤ 8) {n : Nat} (hn : n ≤ N) : ∀ j f i (u : Nat → Nat → Int64), i + j = n + 1 → j < f → (∀ k, k < i → u 0 k = lN (A k) ∧ u 1 k = lN (B k)) → ∃ w, f_M_reckon_3 (nI l) (nI n) (nI a) (nI b) f (nI i) u = some w ∧ ∀ k, k ≤ n → w 0 k = lN (A k) ∧ w 1 k = lN (B k)
  | 0, f, i, u, hj, hf, hA => by
    obtain ⟨f, rfl, _⟩ := q_fu hf
    rw [f_M_reckon_3, if_pos (lt_t (by omega) (by omega))]
    exact ⟨u, rfl, fun k hk => hA k (by omega)⟩
  | j + 1, f, i, u, hj, hf, hA => by
    obtain ⟨f, rfl, _⟩ := q_fu hf
    obtain ⟨⟨t1, t2, t3, t4⟩, hT2⟩ := hT
    have fin : ∀ w : Nat → Nat → Int64, w 3 0 = lN (A i) → w 4 0 = lN (B i) → w 0 = u 0 → w 1 = u 1 → ∃ v, f_M_reckon_31 (nI l) (nI n) (nI a) (nI b) (f_M_reckon_3 (nI l) (nI n) (nI a) (nI b) f) (nI i) w = some v ∧ ∀ k, k ≤ n → v 0 k = lN (A k) ∧ v 1 k = lN (B k) := by
      intro w g1 g2 g3 g4
      unfold f_M_reckon_31
      rw [pu_one, mkPutL_ok (by omega) (by omega), mkPutL_ok (by omega) (by omega), g1, g2, g3, g4]
      refine L_mr3 ⟨⟨t1, t2, t3, t4⟩, hT2⟩ hl hab hb5 hN hn j f (i + 1) _ (by omega) (by omega) (fun k hk => ?_)
      show vp_updL (u 0) i (lN (A i)) k = _ ∧ vp_updL (u 1) i (lN (B i)) k = _
      by_cases y : k = i
      · subst y; rw [updL_s, updL_s]; exact ⟨rfl, rfl⟩
      · rw [updL_n y, updL_n y]; exact hA k (by omega)
    rw [f_M_reckon_3, if_neg (lt_f (by omega) (by omega)), show (1 : Int64) = lN 1 from rfl, L_set (show e_is 1 1 = some (1, 1) by decide +kernel), b1_k]
    by_cases z : i ≤ 1
    · rw [if_pos (show nI i ≤ 1 from le_t (b := 1) z (by omega))]
      have : i = 0 ∨ i = 1 := by omega
      rcases this with rfl | rfl
      · exact fin _ (by rw [t1]; rfl) (by rw [t2]; rfl) rfl rfl
      · exact fin _ (by rw [t3]; rfl) (by rw [t4]; rfl) rfl rfl
    · obtain ⟨e, _, s1, s2, _⟩ := hT2 i (by omega) (by omega)
      obtain ⟨w, g1, g2, g3, g4, g5⟩ := L_m (A := A) (B := B) hl (by omega) (by omega) hab hb5 s1 s2 e (upF 4 (lN 1) (upF 3 (lN 1) u)) hA
      rw [if_neg (show ¬ nI i ≤ 1 from le_f (b := 1) (by omega) (by omega)), g1, b1_k]
      exact fin w g2 g3 g4 g5
theorem L_means {l a b N : Nat} {A B : Nat → Nat} (hT : mk_T l a b N A B) (hl : l ≤ 1) (hab : a ≤ b) (hb5 : b < 100) (hN : N ≤ 8) {n : Nat} (hn : n ≤ N) (u v : Nat → Nat → Int64) : (∃ w, f_M_reckon u (nI l) (nI n) (nI a) (nI b) = some w ∧ ∀ k, k ≤ n → w 0 k = lN (A k) ∧ w 1 k = lN (B k)) ∧ (∃ w, f_X_means v (nI l) (nI n) (lN a) (lN b) = some w ∧ ∀ k, k ≤ n → w 43 k = lN (A k) ∧ w 44 k = lN (B k)) :=
  ⟨L_mr3 hT hl hab hb5 hN hn (n + 1) 600 0 u (by omega) (by omega) (fun k hk => by omega), L_xm3 hT hl hab hN hn (n + 1) 600 0 v (by omega) (by omega) (fun k hk => by omega)⟩
