/-! the text of the law, read by the class: tokens -/
/-- what stands on the tape from p on -/
def Pt (T : Nat → Nat → Int32) (p : Nat) (R : List Nat) : Prop := p + R.length ≤ 500 ∧ T 1 0 = nI (p + R.length) ∧ (∀ j, j < R.length → T 0 (p + j) = nI (R.getD j 0)) ∧ ∀ x ∈ R, x < 128
theorem gD_app {A R : List Nat} {j : Nat} : (A ++ R).getD (A.length + j) 0 = R.getD j 0 := by
  rw [List.getD_eq_getElem?_getD, List.getD_eq_getElem?_getD, List.getElem?_append_right (by omega), Nat.add_sub_cancel_left]
theorem gD_l {A R : List Nat} {j : Nat} (h : j < A.length) : (A ++ R).getD j 0 = A.getD j 0 := by
  rw [List.getD_eq_getElem?_getD, List.getD_eq_getElem?_getD, List.getElem?_append_left h]
theorem gD_mem {A : List Nat} {j : Nat} (h : j < A.length) : A.getD j 0 ∈ A := by
  rw [List.getD_eq_getElem?_getD, List.getElem?_eq_getElem h]
  exact List.getElem_mem h
theorem Pt_drop {T : Nat → Nat → Int32} {p : Nat} {A R : List Nat} (h : Pt T p (A ++ R)) : Pt T (p + A.length) R := by
  obtain ⟨h1, h2, h3, h4⟩ := h
  rw [List.length_append] at h1 h2
  refine ⟨by omega, by rw [h2, Nat.add_assoc], fun j hj => ?_, fun x hx => h4 x (List.mem_append_right _ hx)⟩
  rw [Nat.add_assoc, h3 (A.length + j) (by rw [List.length_append]; omega), gD_app]
theorem Pt_get {T : Nat → Nat → Int32} {p : Nat} {A R : List Nat} (h : Pt T p (A ++ R)) {j : Nat} (hj : j < A.length) : T 0 (p + j) = nI (A.getD j 0) := by
  rw [h.2.2.1 j (by rw [List.length_append]; omega), gD_l hj]
/-- a token of kind K stands before R -/
def isTok (K : Nat) (A R : List Nat) : Prop := 0 < A.length ∧ (∀ x ∈ A, kd (nI x) = K) ∧ (∀ x ∈ R.head?, kd (nI x) ≠ K)
theorem kd_blk : ∀ x, x < 128 → kd (nI x) ≤ 3 → blk (nI x) = false := by decide +kernel
theorem gr_tok {B : Nat → Int32} {K : Nat} {R : List Nat} (hR : ∀ x ∈ R.head?, kd (nI x) ≠ K) : ∀ (A : List Nat) (p m : Nat), (∀ x ∈ A, kd (nI x) = K) → (∀ j, j < A.length → B (p + j) = nI (A.getD j 0)) → (∀ j, j < R.length → B (p + A.length + j) = nI (R.getD j 0)) → m = R.length → gr B K (A.length + m) p = p + A.length
  | [], p, m, hA, h1, h2, hm => by
    show gr B K (0 + m) p = p
    rw [Nat.zero_add]
    match m, R, hm, hR, h2 with
    | 0, _, _, _, _ => rfl
    | m + 1, [], hm, _, _ => exact absurd hm (by simp)
    | m + 1, x :: R, hm, hR, h2 =>
      have e : B p = nI x := by have := h2 0 (by simp); simpa using this
      rw [gr, e, if_neg (hR x (by simp))]
  | a :: A, p, m, hA, h1, h2, hm => by
    have e : B p = nI a := by have := h1 0 (by simp); simpa using this
    show gr B K (A.length + 1 + m) p = _
    rw [show A.length + 1 + m = (A.length + m) + 1 by omega, gr, e, if_pos (hA a (by simp))]
    rw [gr_tok hR A (p + 1) m (fun x hx => hA x (by simp [hx])) (fun j hj => by
      have := h1 (j + 1) (by simp; omega)
      rw [show p + 1 + j = p + (j + 1) by omega, this]
      simp) (fun j hj => by
      have := h2 j hj
      rw [← this]
      congr 1
      simp only [List.length_cons]; omega) hm]
    simp only [List.length_cons]; omega
theorem tok_B {T : Nat → Nat → Int32} {p K : Nat} {bl A R : List Nat} (hK : K ≤ 3) (hb : bl = [] ∨ bl = [32]) (h : Pt T p (bl ++ (A ++ R))) (hA : 0 < A.length) (hA2 : ∀ x ∈ A, kd (nI x) = K) : tB (T 0) (p + (bl ++ (A ++ R)).length) p = p + bl.length ∧ tKb (T 0) (p + (bl ++ (A ++ R)).length) (p + bl.length) = K ∧ T 0 (p + bl.length) = nI (A.getD 0 0) := by
  have h2 := Pt_drop h
  have e0 : T 0 (p + bl.length) = nI (A.getD 0 0) := Pt_get (j := 0) h2 hA
  have hm : A.getD 0 0 ∈ A := gD_mem hA
  have hk := hA2 _ hm
  have hlt : A.getD 0 0 < 128 := h.2.2.2 _ (List.mem_append_right _ (List.mem_append_left _ hm))
  have hnb := kd_blk _ hlt (by omega)
  have hlen : (bl ++ (A ++ R)).length = bl.length + (A.length + R.length) := by rw [List.length_append, List.length_append]
  refine ⟨?_, ?_, e0⟩
  · unfold tB
    rw [hlen, Nat.add_sub_cancel_left]
    rcases hb with rfl | rfl
    · have e0 : T 0 p = nI (A.getD 0 0) := e0
      show sk (T 0) (0 + (A.length + R.length)) p = p
      rw [Nat.zero_add, show A.length + R.length = (A.length + R.length - 1) + 1 by omega, sk, e0, hnb, if_neg (by decide)]
    · have e0 : T 0 (p + 1) = nI (A.getD 0 0) := e0
      have e1 : T 0 p = nI 32 := by
        have := Pt_get (j := 0) h (by simp)
        simpa using this
      show sk (T 0) (1 + (A.length + R.length)) p = p + 1
      rw [show 1 + (A.length + R.length) = (A.length + R.length - 1 + 1) + 1 by omega, sk, e1, if_pos (show blk (nI 32) = true by decide), sk, e0, hnb, if_neg (by decide)]
  · unfold tKb
    rw [hlen, if_pos (by omega), e0, hk]
theorem tok_E {T : Nat → Nat → Int32} {p K : Nat} {bl A R : List Nat} (hK : K = 1 ∨ K = 2) (hb : bl = [] ∨ bl = [32]) (h : Pt T p (bl ++ (A ++ R))) (hA : isTok K A R) : tB (T 0) (p + (bl ++ (A ++ R)).length) p = p + bl.length ∧ tKb (T 0) (p + (bl ++ (A ++ R)).length) (p + bl.length) = K ∧ tEb (T 0) (p + (bl ++ (A ++ R)).length) (p + bl.length) = p + bl.length + A.length := by
  obtain ⟨h1, h2, -⟩ := tok_B (by omega) hb h hA.1 hA.2.1
  refine ⟨h1, h2, ?_⟩
  unfold tEb
  rw [h2, if_pos hK]
  have h3 := Pt_drop h
  have hlen : (bl ++ (A ++ R)).length = bl.length + (A.length + R.length) := by rw [List.length_append, List.length_append]
  rw [hlen, show p + (bl.length + (A.length + R.length)) - (p + bl.length) = A.length + R.length by omega]
  exact gr_tok hA.2.2 A (p + bl.length) R.length hA.2.1 (fun j hj => Pt_get h3 hj) (fun j hj => (Pt_drop h3).2.2.1 j hj) rfl
theorem tok_S {T : Nat → Nat → Int32} {p : Nat} {R : List Nat} (h : Pt T p (lt 17 ++ R)) : tB (T 0) (p + (lt 17 ++ R).length) p = p ∧ tKb (T 0) (p + (lt 17 ++ R).length) p = 3 ∧ tEb (T 0) (p + (lt 17 ++ R).length) p = p + 1 := by
  have e : lt 17 ++ R = [] ++ ([59] ++ R) := rfl
  rw [e] at h ⊢
  obtain ⟨h1, h2, -⟩ := tok_B (K := 3) (bl := []) (by decide) (Or.inl rfl) h (by decide) (by decide)
  have h1 : tB (T 0) (p + ([] ++ ([59] ++ R)).length) p = p := h1
  have h2 : tKb (T 0) (p + ([] ++ ([59] ++ R)).length) p = 3 := h2
  refine ⟨h1, h2, ?_⟩
  unfold tEb
  rw [h2, if_neg (by decide), if_neg (by decide)]
theorem tok_0 {T : Nat → Nat → Int32} {p : Nat} : tB (T 0) (p + ([] : List Nat).length) p = p ∧ tKb (T 0) (p + ([] : List Nat).length) p = 0 := by
  constructor
  · unfold tB
    rw [show p + ([] : List Nat).length - p = 0 by simp]
    rfl
  · unfold tKb
    rw [if_neg (by simp)]
/-! words -/
theorem wm_ok {B : Nat → Int32} {w b : Nat} : ∀ k i, (∀ j, i ≤ j → j < i + k → mkChr w (nI j) = B (b + j)) → wm B w b k i = true
  | 0, _, _ => rfl
  | k + 1, i, h => by
    unfold wm
    rw [if_pos (h i (Nat.le_refl _) (by omega))]
    exact wm_ok k (i + 1) (fun j h1 h2 => h j (by omega) (by omega))
theorem lt_chr : ∀ w, w < 13 → ∀ j, j < mk_len.getD w 0 → mkChr w (nI j) = nI ((lt w).getD j 0) := by decide +kernel
theorem lt_kd : ∀ w, w < 13 → (∀ x ∈ lt w, kd (nI x) = 1) ∧ (lt w).length = mk_len.getD w 0 ∧ 0 < (lt w).length := by decide +kernel
theorem isW_t {T : Nat → Nat → Int32} {p w : Nat} {bl R : List Nat} (hw : w < 13) (hb : bl = [] ∨ bl = [32]) (hR : ∀ x ∈ R.head?, kd (nI x) ≠ 1) (h : Pt T p (bl ++ (lt w ++ R))) : isW (T 0) (p + (bl ++ (lt w ++ R)).length) p w = true ∧ nx (T 0) (p + (bl ++ (lt w ++ R)).length) p = p + bl.length + (lt w).length := by
  obtain ⟨k1, k2, k3⟩ := lt_kd w hw
  obtain ⟨h1, h2, h3⟩ := tok_E (Or.inl rfl) hb h ⟨k3, k1, hR⟩
  refine ⟨?_, by unfold nx; rw [h1, h3]⟩
  unfold isW
  rw [h1, h2, h3, Nat.add_sub_cancel_left, k2, decide_eq_true rfl, decide_eq_true rfl, Bool.true_and, Bool.true_and]
  refine wm_ok _ 0 (fun j _ hj => ?_)
  rw [lt_chr w hw j (by omega), Pt_get (Pt_drop h) (by omega)]
theorem isW_f {T : Nat → Nat → Int32} {p w v : Nat} {bl R : List Nat} (hw : w < 13) (hb : bl = [] ∨ bl = [32]) (hR : ∀ x ∈ R.head?, kd (nI x) ≠ 1) (h : Pt T p (bl ++ (lt w ++ R))) (hv : mk_len.getD w 0 ≠ mk_len.getD v 0 ∨ (mkChr v 0 ≠ nI ((lt w).getD 0 0) ∧ 0 < mk_len.getD v 0)) : isW (T 0) (p + (bl ++ (lt w ++ R)).length) p v = false := by
  obtain ⟨k1, k2, k3⟩ := lt_kd w hw
  obtain ⟨h1, h2, h3⟩ := tok_E (Or.inl rfl) hb h ⟨k3, k1, hR⟩
  unfold isW
  rw [h1, h2, h3, Nat.add_sub_cancel_left, k2, decide_eq_true rfl, Bool.true_and]
  rcases hv with hv | ⟨hv, h0⟩
  · rw [decide_eq_false hv]; rfl
  · have e : wm (T 0) v (p + bl.length) (mk_len.getD v 0) 0 = false := by
      rw [show mk_len.getD v 0 = (mk_len.getD v 0 - 1) + 1 by omega, wm]
      rw [if_neg]
      intro z
      have := Pt_get (j := 0) (Pt_drop h) (show 0 < (lt w).length by omega)
      exact hv (z.trans this)
    rw [e, Bool.and_false]
/-! numbers -/
theorem dg_48 : ∀ m, m < 10 → dg (nI (48 + m)) = m ∧ kd (nI (48 + m)) = 2 := by decide +kernel
theorem dec_kd (x : Nat) : ∀ y ∈ decL x, kd (nI y) = 2 := by
  intro y hy
  obtain ⟨j, -, rfl⟩ := List.mem_map.mp hy
  unfold sb_dec
  exact (dg_48 _ (Nat.mod_lt _ (by decide))).2
theorem dec_1 {x : Nat} (h : x < 10) : decL x = [48 + x] := by
  unfold decL
  have e : sb_dg x = 1 := by unfold sb_dg; rw [if_pos h]
  rw [e]
  show [sb_dec x 0] = _
  unfold sb_dec
  rw [e]
  congr 2
  show x / 1 % 10 = x
  rw [Nat.div_one]; omega
theorem dec_2 {x : Nat} (h1 : 10 ≤ x) (h : x < 100) : decL x = [48 + x / 10, 48 + x % 10] := by
  unfold decL
  have e : sb_dg x = 2 := by unfold sb_dg; rw [if_neg (by omega), if_pos h]
  rw [e]
  show [sb_dec x 0, sb_dec x 1] = _
  unfold sb_dec
  rw [e]
  show [48 + x / 10 % 10, 48 + x / 1 % 10] = _
  rw [Nat.div_one, Nat.mod_eq_of_lt (show x / 10 < 10 by omega)]
theorem dec_3 {x : Nat} (h1 : 100 ≤ x) (h : x < 1000) : decL x = [48 + x / 100, 48 + x / 10 % 10, 48 + x % 10] := by
  unfold decL
  have e : sb_dg x = 3 := by unfold sb_dg; rw [if_neg (by omega), if_neg (by omega), if_pos h]
  rw [e]
  show [sb_dec x 0, sb_dec x 1, sb_dec x 2] = _
  unfold sb_dec
  rw [e]
  show [48 + x / 100 % 10, 48 + x / 10 % 10, 48 + x / 1 % 10] = _
  rw [Nat.div_one, Nat.mod_eq_of_lt (show x / 100 < 10 by omega)]
theorem vr_dec {B : Nat → Int32} {b x : Nat} (hx : x < 1000) (h : ∀ j, j < (decL x).length → B (b + j) = nI ((decL x).getD j 0)) : vr B 99999 (decL x).length 0 b = x := by
  by_cases h1 : x < 10
  · rw [dec_1 h1] at h ⊢
    have e0 : B b = nI (48 + x) := h 0 (by show 0 < 1; decide)
    show vr B 99999 1 0 b = x
    unfold vr vr
    rw [e0, (dg_48 x h1).1]
    omega
  · by_cases h2 : x < 100
    · rw [dec_2 (by omega) h2] at h ⊢
      have e0 : B b = nI (48 + x / 10) := h 0 (by show 0 < 2; decide)
      have e1 : B (b + 1) = nI (48 + x % 10) := h 1 (by show 1 < 2; decide)
      show vr B 99999 2 0 b = x
      unfold vr vr vr
      rw [e0, e1, (dg_48 (x / 10) (by omega)).1, (dg_48 (x % 10) (by omega)).1]
      omega
    · rw [dec_3 (by omega) hx] at h ⊢
      have e0 : B b = nI (48 + x / 100) := h 0 (by show 0 < 3; decide)
      have e1 : B (b + 1) = nI (48 + x / 10 % 10) := h 1 (by show 1 < 3; decide)
      have e2 : B (b + 1 + 1) = nI (48 + x % 10) := h 2 (by show 2 < 3; decide)
      show vr B 99999 3 0 b = x
      unfold vr vr vr vr
      rw [e0, e1, e2, (dg_48 (x / 100) (by omega)).1, (dg_48 (x / 10 % 10) (by omega)).1, (dg_48 (x % 10) (by omega)).1]
      omega
/-! the readers -/
theorem rdW {T r : Nat → Nat → Int32} {p w : Nat} {bl R : List Nat} (hw : w < 13) (hb : bl = [] ∨ bl = [32]) (hR : ∀ x ∈ R.head?, kd (nI x) ≠ 1) (h : Pt T p (bl ++ (lt w ++ R))) (h4 : r 4 0 = nI p) : ∃ u, f_R_readWord r T w = some (1, u) ∧ u 4 0 = nI (p + bl.length + (lt w).length) ∧ Pt T (p + bl.length + (lt w).length) R := by
  obtain ⟨h1, h2⟩ := isW_t hw hb hR h
  obtain ⟨u, e1, e2, -⟩ := (L_readWord (T := T) (r := r) h.1 h.2.1 (Nat.le_add_right _ _) h4 hw).1 h1
  exact ⟨u, e1, by rw [e2, h2], Pt_drop (Pt_drop h)⟩
theorem rdN {T r : Nat → Nat → Int32} {p x lo hi : Nat} {bl R : List Nat} (hx : x < 1000) (hlo : lo ≤ x) (hhi : x ≤ hi) (hh : hi ≤ 200) (hb : bl = [] ∨ bl = [32]) (hR : ∀ x ∈ R.head?, kd (nI x) ≠ 2) (h : Pt T p (bl ++ (decL x ++ R))) (h4 : r 4 0 = nI p) : ∃ u, f_R_readNumber r T (nI lo) (nI hi) = some (1, u) ∧ u 5 0 = nI x ∧ u 4 0 = nI (p + bl.length + (decL x).length) ∧ Pt T (p + bl.length + (decL x).length) R := by
  have hl : 0 < (decL x).length := by rw [decL_len]; exact (dg_le hx).1
  obtain ⟨h1, h2, h3⟩ := tok_E (Or.inr rfl) hb h ⟨hl, dec_kd x, hR⟩
  have hv : tVb (T 0) (p + (bl ++ (decL x ++ R)).length) (p + bl.length) = x := by
    unfold tVb
    rw [h2, if_pos rfl, h3, Nat.add_sub_cancel_left]
    exact vr_dec hx (fun j hj => Pt_get (Pt_drop h) hj)
  have hL := (L_readNumber (T := T) (r := r) (lo := lo) (hi := hi) h.1 h.2.1 (Nat.le_add_right _ _) h4 (by omega) hh).1
  rw [h1, h2, hv] at hL
  obtain ⟨u, e1, e2, e3, -⟩ := hL ⟨rfl, hlo, hhi⟩
  exact ⟨u, e1, e2, by rw [e3, nx, h1, h3], Pt_drop (Pt_drop h)⟩
theorem rdS {T r : Nat → Nat → Int32} {p : Nat} {R : List Nat} (h : Pt T p (lt 17 ++ R)) (h4 : r 4 0 = nI p) : ∃ u, f_R_readSign r T = some (1, u) ∧ u 4 0 = nI (p + 1) ∧ Pt T (p + 1) R := by
  obtain ⟨h1, h2, h3⟩ := tok_S h
  have hL := (L_readSign (T := T) (r := r) h.1 h.2.1 (Nat.le_add_right _ _) h4).1
  rw [h1] at hL
  obtain ⟨u, e1, e2, -⟩ := hL h2
  exact ⟨u, e1, by rw [e2, nx, h1, h3], Pt_drop h⟩
