/-! pure: the reference's tokens; words; numbers -/
def TX (B : Nat → Int32) (tl p : Nat) (x : Nat → Nat → Int32) : Prop := x 10 0 = nI (tKb B tl (tB B tl p)) ∧ x 9 0 = nI (tB B tl p) ∧ x 8 0 = nI (tEb B tl (tB B tl p)) ∧ x 11 0 = nI (tVb B tl (tB B tl p))
def TP (B : Nat → Int32) (tl : Nat) (x : Nat → Nat → Int32) : Prop := x 5 0 = nI tl ∧ ∀ j, j < tl → x 4 j = B j
theorem TP_of {B : Nat → Int32} {tl : Nat} {x w : Nat → Nat → Int32} (h : TP B tl x) (h4 : w 4 = x 4) (h5 : w 5 = x 5) : TP B tl w := by unfold TP; rw [h4, h5]; exact h
theorem q_isAt {B : Nat → Int32} {tl p : Nat} {x : Nat → Nat → Int32} (hT : TP B tl x) (h8 : x 8 0 = nI p) (hp : p ≤ tl) (ht : tl ≤ 500) (lo hi : Int32) : f_X_isAt x lo hi = some (if p < tl ∧ ¬ B p < lo ∧ ¬ hi < B p then 1 else 0) := by
  unfold f_X_isAt
  rw [hT.1, h8]
  by_cases q : p < tl
  · rw [if_neg (le_f q (by omega)), gI_ok (by omega) (by omega), pu_cl (by omega), hT.2 p q, q_in (y := lo) (z := hi) rfl rfl, b1_k]
    by_cases a : B p < lo
    · rw [if_pos a, if_pos rfl, if_neg (fun z => z.2.1 a)]
    · rw [if_neg a]
      by_cases b : hi < B p
      · rw [if_pos b, if_pos rfl, if_neg (fun z => z.2.2 b)]
      · rw [if_neg b, if_neg one0, if_pos ⟨q, a, b⟩]
  · rw [if_pos (le_t (by omega) (by omega)), if_neg (fun z => q z.1)]
theorem q_isAtT {B : Nat → Int32} {tl p : Nat} {x : Nat → Nat → Int32} (hT : TP B tl x) (h8 : x 8 0 = nI p) (hp : p ≤ tl) (ht : tl ≤ 500) (lo hi : Int32) (c : p < tl ∧ ¬ B p < lo ∧ ¬ hi < B p) : f_X_isAt x lo hi = some 1 := by
  rw [q_isAt hT h8 hp ht, if_pos c]
theorem q_isAtF {B : Nat → Int32} {tl p : Nat} {x : Nat → Nat → Int32} (hT : TP B tl x) (h8 : x 8 0 = nI p) (hp : p ≤ tl) (ht : tl ≤ 500) (lo hi : Int32) (c : ¬ (p < tl ∧ ¬ B p < lo ∧ ¬ hi < B p)) : f_X_isAt x lo hi = some 0 := by
  rw [q_isAt hT h8 hp ht, if_neg c]
theorem q_dig {c : Int32} (h : kd c = 2) : ∃ m, m ≤ 9 ∧ c = nI (48 + m) ∧ dg c = m := by
  obtain ⟨h1, h2⟩ := (kd_ch c).2.1.mp h
  rcases q_rngAB c (a := 48) (b := 57) (by omega) (by omega) with q | ⟨_, q⟩ | ⟨j, a, b, rfl⟩
  · exact absurd q h1
  · exact absurd q h2
  · refine ⟨j - 48, by omega, by rw [show 48 + (j - 48) = j by omega], ?_⟩
    unfold dg
    rw [pu_cl (by omega)]
theorem L_xw {B : Nat → Int32} {tl : Nat} (ht : tl ≤ 500) : ∀ k n p (x : Nat → Nat → Int32), p + k = tl → k < n → TP B tl x → x 8 0 = nI p → ∃ w, f_X_next_83 n x = some w ∧ w 8 0 = nI (gr B 1 k p) ∧ ∀ j, j ≠ 8 → w j = x j
  | 0, n, p, x, hk, hn, hT, h8 => by
    obtain ⟨n, rfl, _⟩ := q_fu hn
    rw [f_X_next_83, q_isAtF hT h8 (by omega) ht _ _ (fun z => absurd z.1 (by omega)), b1_k, if_pos rfl]
    exact ⟨x, rfl, h8, fun _ _ => rfl⟩
  | k + 1, n, p, x, hk, hn, hT, h8 => by
    obtain ⟨n, rfl, _⟩ := q_fu hn
    by_cases q : kd (B p) = 1
    · rw [f_X_next_83, q_isAtT hT h8 (by omega) ht _ _ ⟨by omega, (kd_ch (B p)).1.mp q⟩, b1_k, if_neg one0, gr, if_pos q, h8, pu_one]
      obtain ⟨w, g1, g2, g3⟩ := L_xw (B := B) ht k n (p + 1) (upF 8 (nI (p + 1)) x) (by omega) (by omega) (TP_of hT rfl rfl) rfl
      exact ⟨w, g1, g2, fun j hj => by rw [g3 j hj, upF_n hj]⟩
    · rw [f_X_next_83, q_isAtF hT h8 (by omega) ht _ _ (fun z => q ((kd_ch (B p)).1.mpr z.2)), b1_k, if_pos rfl, gr, if_neg q]
      exact ⟨x, rfl, h8, fun _ _ => rfl⟩
theorem L_xn {B : Nat → Int32} {tl : Nat} (ht : tl ≤ 500) : ∀ k n p v (x : Nat → Nat → Int32), p + k = tl → k < n → TP B tl x → x 8 0 = nI p → x 11 0 = nI v → v ≤ 99999 → ∃ w, f_X_next_123 n x = some w ∧ w 8 0 = nI (gr B 2 k p) ∧ w 11 0 = nI (vr B 99999 (gr B 2 k p - p) v p) ∧ ∀ j, j ≠ 8 → j ≠ 11 → w j = x j
  | 0, n, p, v, x, hk, hn, hT, h8, h11, hv => by
    obtain ⟨n, rfl, _⟩ := q_fu hn
    rw [f_X_next_123, q_isAtF hT h8 (by omega) ht _ _ (fun z => absurd z.1 (by omega)), b1_k, if_pos rfl]
    refine ⟨x, rfl, h8, ?_, fun _ _ _ => rfl⟩
    rw [gr, Nat.sub_self]
    exact h11
  | k + 1, n, p, v, x, hk, hn, hT, h8, h11, hv => by
    obtain ⟨n, rfl, _⟩ := q_fu hn
    by_cases q : kd (B p) = 2
    · obtain ⟨m, hm, e, em⟩ := q_dig q
      have le := gr_le B 2 k (p + 1)
      rw [f_X_next_123, q_isAtT hT h8 (by omega) ht _ _ ⟨by omega, (kd_ch (B p)).2.1.mp q⟩, b1_k, if_neg one0, gr, if_pos q, h8, h11, pu_one, gI_ok (by omega) (by omega), pu_cl (by omega), hT.2 p (by omega)]
      have ev : ((10 : Int32) * nI v + B p) - 48 = nI (10 * v + m) := by
        rw [e, show (10 : Int32) * nI v = nI (10 * v) from pk_mul 10 v, pu_add, show nI (10 * v + (48 + m)) - 48 = nI (10 * v + (48 + m) - 48) from pu_sub (b := 48) (by omega)]
        congr 1; omega
      have e2 : (if ((10 : Int32) * nI v + B p) - 48 < 99999 then ((10 : Int32) * nI v + B p) - 48 else 99999) = nI (min 99999 (10 * v + m)) := by
        rw [ev]
        by_cases z : 10 * v + m < 99999
        · rw [if_pos (show nI (10 * v + m) < 99999 from lt_t (b := 99999) z (by omega)), Nat.min_eq_right (by omega)]
        · rw [if_neg (show ¬ nI (10 * v + m) < 99999 from lt_f (b := 99999) (by omega) (by omega)), Nat.min_eq_left (by omega)]; rfl
      rw [e2]
      obtain ⟨w, g1, g2, g3, g4⟩ := L_xn (B := B) ht k n (p + 1) (min 99999 (10 * v + m)) (upF 8 (nI (p + 1)) (upF 11 (nI (min 99999 (10 * v + m))) x)) (by omega) (by omega) (TP_of hT rfl rfl) rfl rfl (Nat.min_le_left _ _)
      refine ⟨w, g1, g2, ?_, fun j a b => by rw [g4 j a b, upF_n a, upF_n b]⟩
      rw [g3, show gr B 2 k (p + 1) - p = gr B 2 k (p + 1) - (p + 1) + 1 by omega, vr, em]
    · rw [f_X_next_123, q_isAtF hT h8 (by omega) ht _ _ (fun z => q ((kd_ch (B p)).2.1.mpr z.2)), b1_k, if_pos rfl, gr, if_neg q]
      refine ⟨x, rfl, h8, ?_, fun _ _ _ => rfl⟩
      rw [Nat.sub_self]
      exact h11
theorem L_disp {B : Nat → Int32} {tl b : Nat} {x : Nat → Nat → Int32} (ht : tl ≤ 500) (hT : TP B tl x) (hb : b ≤ tl) (h8 : x 8 0 = nI b) : ∃ w, (if (x 8 0) = (x 5 0) then some (upF 10 0 (upF 11 0 (upF 9 (x 8 0) x))) else b1 (f_X_isAt (upF 11 0 (upF 9 (x 8 0) x)) 97 122) (fun r15 => if r15 = 0 then b1 (f_X_isAt (upF 11 0 (upF 9 (x 8 0) x)) 48 57) (fun r18 => if r18 = 0 then b1 (f_X_isAt (upF 11 0 (upF 9 (x 8 0) x)) 59 59) (fun r21 => if r21 = 0 then (f_X_next_193 4 (upF 11 0 (upF 9 (x 8 0) x))) else (f_X_next_193 3 (upF 11 0 (upF 9 (x 8 0) x)))) else (f_X_next_123 600 (upF 10 2 (upF 11 0 (upF 9 (x 8 0) x))))) else (f_X_next_83 600 (upF 10 1 (upF 11 0 (upF 9 (x 8 0) x)))))) = some w ∧ (w 10 0 = nI (tKb B tl b) ∧ w 9 0 = nI b ∧ w 8 0 = nI (tEb B tl b) ∧ w 11 0 = nI (tVb B tl b)) ∧ ∀ j, j ≠ 8 → j ≠ 9 → j ≠ 10 → j ≠ 11 → w j = x j := by
  have hT' : TP B tl (upF 11 0 (upF 9 (x 8 0) x)) := TP_of hT rfl rfl
  have h8' : (upF 11 0 (upF 9 (x 8 0) x)) 8 0 = nI b := h8
  have iT := fun lo hi => q_isAtT hT' h8' hb ht lo hi
  have iF := fun lo hi => q_isAtF hT' h8' hb ht lo hi
  by_cases q : b < tl
  · rw [if_neg (show ¬ x 8 0 = x 5 0 from by rw [h8, hT.1]; exact eq_f (by omega) (by omega) (by omega))]
    have eK : tKb B tl b = kd (B b) := if_pos q
    obtain ⟨k1, k2, k3, k4, k5⟩ := kd_ch (B b)
    by_cases z1 : kd (B b) = 1
    · rw [iT 97 122 ⟨q, k1.mp z1⟩, b1_k, if_neg one0]
      obtain ⟨w, f1, f2, f3⟩ := L_xw (B := B) ht (tl - b) 600 b (upF 10 1 (upF 11 0 (upF 9 (x 8 0) x))) (by omega) (by omega) (TP_of hT rfl rfl) h8
      refine ⟨w, f1, ⟨?_, ?_, ?_, ?_⟩, fun j a b c d => by rw [f3 j a, upF_n c, upF_n d, upF_n b]⟩
      · rw [f3 10 (by decide), eK, z1]; rfl
      · rw [f3 9 (by decide)]; exact h8
      · rw [f2]; unfold tEb; rw [eK, z1, if_pos (Or.inl rfl)]
      · rw [f3 11 (by decide)]; unfold tVb; rw [eK, z1, if_neg (by omega)]; rfl
    rw [iF 97 122 (fun z => z1 (k1.mpr z.2)), b1_k, if_pos rfl]
    by_cases z2 : kd (B b) = 2
    · rw [iT 48 57 ⟨q, k2.mp z2⟩, b1_k, if_neg one0]
      obtain ⟨w, f1, f2, f3, f4⟩ := L_xn (B := B) ht (tl - b) 600 b 0 (upF 10 2 (upF 11 0 (upF 9 (x 8 0) x))) (by omega) (by omega) (TP_of hT rfl rfl) h8 rfl (by omega)
      have eE : tEb B tl b = gr B 2 (tl - b) b := by unfold tEb; rw [eK, z2, if_pos (Or.inr rfl)]
      refine ⟨w, f1, ⟨?_, ?_, ?_, ?_⟩, fun j a b c d => by rw [f4 j a d, upF_n c, upF_n d, upF_n b]⟩
      · rw [f4 10 (by decide) (by decide), eK, z2]; rfl
      · rw [f4 9 (by decide) (by decide)]; exact h8
      · rw [f2, eE]
      · rw [f3]; unfold tVb; rw [eK, z2, if_pos rfl, eE]
    rw [iF 48 57 (fun z => z2 (k2.mpr z.2)), b1_k, if_pos rfl]
    have eE : tEb B tl b = b + 1 := by unfold tEb; rw [eK, if_neg (by omega), if_neg (by omega)]
    have eV : tVb B tl b = 0 := by unfold tVb; rw [eK, if_neg z2]
    have e59 : (¬ B b < 59 ∧ ¬ (59 : Int32) < B b) ↔ kd (B b) = 3 := by
      rw [k3]
      simp only [Int32.lt_iff_toInt_lt, ← Int32.toInt_inj]
      omega
    unfold f_X_next_193
    by_cases z3 : kd (B b) = 3
    · rw [iT 59 59 ⟨q, e59.mpr z3⟩, b1_k, if_neg one0]
      refine ⟨_, rfl, ⟨?_, h8, ?_, ?_⟩, fun j a b c d => by rw [upF_n a, upF_n c, upF_n d, upF_n b]⟩
      · rw [eK, z3]; rfl
      · rw [eE, upF_s]
        show x 8 0 + 1 = _
        rw [h8, pu_one]
      · rw [eV]; rfl
    · rw [iF 59 59 (fun z => z3 (e59.mp z.2)), b1_k, if_pos rfl]
      refine ⟨_, rfl, ⟨?_, h8, ?_, ?_⟩, fun j a b c d => by rw [upF_n a, upF_n c, upF_n d, upF_n b]⟩
      · rw [eK, show kd (B b) = 4 by omega]; rfl
      · rw [eE, upF_s]
        show x 8 0 + 1 = _
        rw [h8, pu_one]
      · rw [eV]; rfl
  · have eK : tKb B tl b = 0 := if_neg q
    rw [if_pos (show x 8 0 = x 5 0 from by rw [h8, hT.1, show b = tl by omega])]
    refine ⟨_, rfl, ⟨?_, h8, ?_, ?_⟩, fun j a b c d => by rw [upF_n c, upF_n d, upF_n b]⟩
    · rw [eK]; rfl
    · unfold tEb; rw [eK, if_neg (by omega), if_pos rfl]; exact h8
    · unfold tVb; rw [eK, if_neg (by omega)]; rfl
theorem L_nx0 {B : Nat → Int32} {tl : Nat} (ht : tl ≤ 500) : ∀ k n p (x : Nat → Nat → Int32), p + k = tl → k < n → TP B tl x → x 8 0 = nI p → ∃ w, f_X_next_0 n x = some w ∧ (w 10 0 = nI (tKb B tl (sk B k p)) ∧ w 9 0 = nI (sk B k p) ∧ w 8 0 = nI (tEb B tl (sk B k p)) ∧ w 11 0 = nI (tVb B tl (sk B k p))) ∧ ∀ j, j ≠ 8 → j ≠ 9 → j ≠ 10 → j ≠ 11 → w j = x j
  | 0, n, p, x, hk, hn, hT, h8 => by
    obtain ⟨n, rfl, _⟩ := q_fu hn
    have hd := L_disp ht hT (show p ≤ tl by omega) h8
    rw [f_X_next_0, q_isAtF hT h8 (by omega) ht 32 32 (fun z => absurd z.1 (by omega)), q_isAtF hT h8 (by omega) ht 10 10 (fun z => absurd z.1 (by omega)), b1_k, if_pos rfl, b1_k, if_pos rfl, sk]
    exact hd
  | k + 1, n, p, x, hk, hn, hT, h8 => by
    obtain ⟨n, rfl, _⟩ := q_fu hn
    have hd := L_disp ht hT (show p ≤ tl by omega) h8
    have go := L_nx0 (B := B) ht k n (p + 1) (upF 8 (nI (p + 1)) x) (by omega) (by omega) (TP_of hT rfl rfl) rfl
    have e32 : (p < tl ∧ ¬ B p < 32 ∧ ¬ (32 : Int32) < B p) ↔ B p = 32 := by
      simp only [Int32.lt_iff_toInt_lt, ← Int32.toInt_inj]
      omega
    have e10 : (p < tl ∧ ¬ B p < 10 ∧ ¬ (10 : Int32) < B p) ↔ B p = 10 := by
      simp only [Int32.lt_iff_toInt_lt, ← Int32.toInt_inj]
      omega
    have fin : blk (B p) = true → ∃ w, f_X_next_22 (f_X_next_0 n) x = some w ∧ (w 10 0 = nI (tKb B tl (sk B (k + 1) p)) ∧ w 9 0 = nI (sk B (k + 1) p) ∧ w 8 0 = nI (tEb B tl (sk B (k + 1) p)) ∧ w 11 0 = nI (tVb B tl (sk B (k + 1) p))) ∧ ∀ j, j ≠ 8 → j ≠ 9 → j ≠ 10 → j ≠ 11 → w j = x j := by
      intro hb
      unfold f_X_next_22
      rw [h8, pu_one, sk, if_pos hb]
      obtain ⟨w, g1, g2, g3⟩ := go
      exact ⟨w, g1, g2, fun j a b c d => by rw [g3 j a b c d, upF_n a]⟩
    rw [f_X_next_0]
    by_cases z : B p = 32
    · rw [q_isAtT hT h8 (by omega) ht 32 32 (e32.mpr z), b1_k, if_neg one0]
      exact fin (by unfold blk; simp [z])
    · rw [q_isAtF hT h8 (by omega) ht 32 32 (fun q => z (e32.mp q)), b1_k, if_pos rfl]
      by_cases y : B p = 10
      · rw [q_isAtT hT h8 (by omega) ht 10 10 (e10.mpr y), b1_k, if_neg one0]
        exact fin (by unfold blk; simp [y])
      · rw [q_isAtF hT h8 (by omega) ht 10 10 (fun q => y (e10.mp q)), b1_k, if_pos rfl, show sk B (k + 1) p = p from by rw [sk, if_neg (by unfold blk; simp [z, y])]]
        exact hd
theorem L_next {B : Nat → Int32} {tl p : Nat} {x : Nat → Nat → Int32} (ht : tl ≤ 500) (hp : p ≤ tl) (hT : TP B tl x) (h8 : x 8 0 = nI p) : ∃ w, f_X_next x = some w ∧ TX B tl p w ∧ ∀ j, j ≠ 8 → j ≠ 9 → j ≠ 10 → j ≠ 11 → w j = x j :=
  L_nx0 ht (tl - p) 600 p x (by omega) (by omega) hT h8
/-! words -/
def wm (B : Nat → Int32) (w b : Nat) : Nat → Nat → Bool
  | 0, _ => true
  | k + 1, i => if mkChr w (nI i) = B (b + i) then wm B w b k (i + 1) else false
def isW (B : Nat → Int32) (tl p w : Nat) : Bool := decide (tKb B tl (tB B tl p) = 1) && (decide (tEb B tl (tB B tl p) - tB B tl p = mk_len.getD w 0) && wm B w (tB B tl p) (mk_len.getD w 0) 0)
theorem q_len : ∀ w, w < 13 → mk_len.getD w 0 ≤ 7 ∧ 1 ≤ mk_len.getD w 0 := by decide +kernel
theorem gS_ok {α : Type} {w i : Nat} {k : Option α} (h : i < mk_len.getD w 0) (hl : mk_len.getD w 0 ≤ 7) : gS w (nI i) k = k := by
  unfold gS
  rw [if_neg]
  rintro (q | q)
  · exact nI_pos (by omega) q
  · rw [nI_clamp (by omega)] at q; omega
theorem L_w28 {T r : Nat → Nat → Int32} {w b : Nat} (hl : mk_len.getD w 0 ≤ 7) (hb : b + mk_len.getD w 0 ≤ 500) (h3 : r 3 0 = nI b) : ∀ k n i, i + k = mk_len.getD w 0 → k < n → f_R_isWord_28 r T w n (nI i) = some (if wm (T 0) w b k i then 1 else 0)
  | 0, n, i, hk, hn => by
    obtain ⟨n, rfl, _⟩ := q_fu hn
    rw [f_R_isWord_28, if_pos (show mkLen w ≤ nI i from le_t (by omega) (by omega)), wm]; rfl
  | k + 1, n, i, hk, hn => by
    obtain ⟨n, rfl, _⟩ := q_fu hn
    rw [f_R_isWord_28, if_neg (show ¬ mkLen w ≤ nI i from le_f (by omega) (by omega)), gS_ok (by omega) hl, h3, pu_add, mkAt_ok (by omega) (by omega), wm, pu_one]
    by_cases q : mkChr w (nI i) = T 0 (b + i)
    · rw [if_pos q, if_pos q]; exact L_w28 hl hb h3 k n (i + 1) (by omega) (by omega)
    · rw [if_neg q, if_neg q]; rfl
theorem L_wR {T r : Nat → Nat → Int32} {tl p w : Nat} (ht : tl ≤ 500) (hp : p ≤ tl) (hw : w < 13) (hR : TR (T 0) tl p r) : f_R_isWord r T w = some (if isW (T 0) tl p w then 1 else 0) := by
  obtain ⟨h2, h3, h4⟩ := hR
  have hb := tB_le (B := T 0) hp
  have he := tEb_le (B := T 0) hb.2
  have hK := tKb_le (T 0) tl (tB (T 0) tl p)
  obtain ⟨hl, _⟩ := q_len w hw
  unfold f_R_isWord isW
  generalize hbb : tB (T 0) tl p = b at *
  generalize hkk : tKb (T 0) tl b = K at *
  generalize hee : tEb (T 0) tl b = e at *
  rw [h2, h3, h4, pu_sub he.1]
  by_cases z : K = 1
  · rw [if_pos (show nI K = 1 by rw [z]; rfl)]
    by_cases y : e - b = mk_len.getD w 0
    · rw [if_pos (show mkLen w = nI (e - b) by rw [y]; rfl)]
      have := L_w28 (T := T) (r := r) hl (show b + mk_len.getD w 0 ≤ 500 by omega) h3 (mk_len.getD w 0) 600 0 (by omega) (by omega)
      have this' : f_R_isWord_28 r T w 600 0 = _ := this
      rw [this', decide_eq_true z, decide_eq_true y, Bool.true_and, Bool.true_and]
    · rw [if_neg (show ¬ mkLen w = nI (e - b) from eq_f (fun q => y q.symm) (by omega) (by omega)), decide_eq_false y, Bool.false_and, Bool.and_false]
      rfl
  · rw [if_neg (show ¬ nI K = 1 from eq_f (b := 1) z (by omega) (by omega))]
    simp [z]
theorem L_w32z {x : Nat → Nat → Int32} (w n : Nat) (i : Int32) : f_X_isWord_32 x w (n + 1) 0 i = some 0 := by
  rw [f_X_isWord_32]
  split
  · exact gZ0
  · rw [if_pos rfl]; exact gZ0
theorem L_w32 {B : Nat → Int32} {x : Nat → Nat → Int32} {tl w b : Nat} (ht : tl ≤ 500) (hT : TP B tl x) (hl : mk_len.getD w 0 ≤ 7) (hb : b + mk_len.getD w 0 ≤ tl) (h9 : x 9 0 = nI b) : ∀ k n i, i + k = mk_len.getD w 0 → k + 1 < n → f_X_isWord_32 x w n 1 (nI i) = some (if wm B w b k i then 1 else 0)
  | 0, n, i, hk, hn => by
    obtain ⟨n, rfl, _⟩ := q_fu hn
    rw [f_X_isWord_32, if_pos (show mkLen w ≤ nI i from le_t (by omega) (by omega)), gZ1, wm]; rfl
  | k + 1, n, i, hk, hn => by
    obtain ⟨n, rfl, _⟩ := q_fu hn
    obtain ⟨n, rfl, _⟩ := q_fu (show 0 < n by omega)
    rw [f_X_isWord_32, if_neg (show ¬ mkLen w ≤ nI i from le_f (by omega) (by omega)), if_neg one0, h9, pu_add, gI_ok (by omega) (by omega), gS_ok (by omega) hl, pu_cl (by omega), hT.2 (b + i) (by omega), wm, pu_one]
    by_cases q : mkChr w (nI i) = B (b + i)
    · rw [if_pos q, if_pos q.symm]; exact L_w32 ht hT hl hb h9 k (n + 1) (i + 1) (by omega) (by omega)
    · rw [if_neg q, if_neg (fun z => q z.symm), L_w32z]; rfl
theorem L_wX {B : Nat → Int32} {x : Nat → Nat → Int32} {tl p w : Nat} (ht : tl ≤ 500) (hp : p ≤ tl) (hw : w < 13) (hT : TP B tl x) (hX : TX B tl p x) : f_X_isWord x w = some (if isW B tl p w then 1 else 0) := by
  obtain ⟨h10, h9, h8, _⟩ := hX
  have hb := tB_le (B := B) hp
  have he := tEb_le (B := B) hb.2
  have hK := tKb_le B tl (tB B tl p)
  obtain ⟨hl, _⟩ := q_len w hw
  unfold f_X_isWord isW
  generalize hbb : tB B tl p = b at *
  generalize hkk : tKb B tl b = K at *
  generalize hee : tEb B tl b = e at *
  rw [h10, h9, h8, pu_sub he.1]
  by_cases z : K = 1
  · rw [if_pos (show nI K = 1 by rw [z]; rfl)]
    by_cases y : e - b = mk_len.getD w 0
    · rw [if_pos (show nI (e - b) = mkLen w by rw [y]; rfl)]
      have := L_w32 ht hT hl (show b + mk_len.getD w 0 ≤ tl by omega) h9 (mk_len.getD w 0) 600 0 (by omega) (by omega)
      have this' : f_X_isWord_32 x w 600 1 0 = _ := this
      rw [this', decide_eq_true z, decide_eq_true y, Bool.true_and, Bool.true_and]
    · rw [if_neg (show ¬ nI (e - b) = mkLen w from eq_f y (by omega) (by omega)), L_w32z, decide_eq_false y, Bool.false_and, Bool.and_false]
      rfl
  · rw [if_neg (show ¬ nI K = 1 from eq_f (b := 1) z (by omega) (by omega)), L_w32z]
    simp [z]
theorem isW_len {B : Nat → Int32} {tl p w : Nat} (h : isW B tl p w = true) : tEb B tl (tB B tl p) - tB B tl p = mk_len.getD w 0 := by
  unfold isW at h
  simp only [Bool.and_eq_true, decide_eq_true_eq] at h
  exact h.2.1
theorem isW_ne {B : Nat → Int32} {tl p w v : Nat} (h : isW B tl p w = true) (hn : mk_len.getD w 0 ≠ mk_len.getD v 0) : isW B tl p v = false := by
  cases hv : isW B tl p v
  · rfl
  · exact absurd ((isW_len h).symm.trans (isW_len hv)) hn
theorem isW_lt {B : Nat → Int32} {tl p w : Nat} (h : isW B tl p w = true) : tKb B tl (tB B tl p) ≠ 0 := by
  unfold isW at h
  simp only [Bool.and_eq_true, decide_eq_true_eq] at h
  omega
