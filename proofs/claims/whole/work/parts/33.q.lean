/-! pure: what is read, on both sides -/
def nx (B : Nat → Int32) (tl p : Nat) : Nat := tEb B tl (tB B tl p)
theorem nx_le {B : Nat → Int32} {tl p : Nat} (h : p ≤ tl) : p ≤ nx B tl p ∧ nx B tl p ≤ tl := by
  have hb := tB_le (B := B) h
  have he := tEb_le (B := B) hb.2
  unfold nx
  omega
theorem nx_lt {B : Nat → Int32} {tl p : Nat} (h : p ≤ tl) (hk : tKb B tl (tB B tl p) ≠ 0) : p < nx B tl p := by
  have hb := tB_le (B := B) h
  have he := (tEb_le (B := B) hb.2).2.2 hk
  unfold nx
  omega
theorem vrel (B : Nat → Int32) : ∀ k a b p, ((a = b ∧ a < 99999) ∨ (99999 ≤ a ∧ b = 99999)) → ((vr B 1000000 k a p = vr B 99999 k b p ∧ vr B 1000000 k a p < 99999) ∨ (99999 ≤ vr B 1000000 k a p ∧ vr B 99999 k b p = 99999))
  | 0, a, b, p, h => h
  | k + 1, a, b, p, h => by
    rw [vr, vr]
    refine vrel B k _ _ (p + 1) ?_
    omega
theorem vr_le (B : Nat → Int32) (M : Nat) : ∀ k v p, v ≤ M → vr B M k v p ≤ M
  | 0, v, p, h => h
  | k + 1, v, p, h => vr_le B M k _ (p + 1) (Nat.min_le_left _ _)
theorem L_nR28 {T : Nat → Nat → Int32} {e : Nat} (lo hi : Int32) (he : e ≤ 500) : ∀ k n p v (r : Nat → Nat → Int32), p + k = e → k < n → (∀ j, p ≤ j → j < e → kd (T 0 j) = 2) → r 4 0 = nI e → r 5 0 = nI v → v ≤ 1000000 → ∃ w, f_R_readNumber_28 T lo hi n (nI p) r = (if (w 5 0) < lo then (f_R_readNumber_99 T lo hi w) else if (w 5 0) ≤ hi then some (1, w) else (f_R_readNumber_99 T lo hi w)) ∧ w 5 0 = nI (vr (T 0) 1000000 k v p) ∧ ∀ j, j ≠ 5 → w j = r j
  | 0, n, p, v, r, hk, hn, hd, h4, h5, hv => by
    obtain ⟨n, rfl, _⟩ := q_fu hn
    rw [f_R_readNumber_28, h4, if_pos (le_t (by omega) (by omega))]
    exact ⟨r, rfl, h5, fun _ _ => rfl⟩
  | k + 1, n, p, v, r, hk, hn, hd, h4, h5, hv => by
    obtain ⟨n, rfl, _⟩ := q_fu hn
    obtain ⟨m, hm, e1, e2⟩ := q_dig (hd p (by omega) (by omega))
    have ev : (nI v * (10 : Int32) + T 0 p) - 48 = nI (10 * v + m) := by
      rw [e1, show nI v * (10 : Int32) = nI (v * 10) from pk_mul v 10, pu_add, show nI (v * 10 + (48 + m)) - 48 = nI (v * 10 + (48 + m) - 48) from pu_sub (b := 48) (by omega)]
      congr 1; omega
    rw [f_R_readNumber_28, h4, if_neg (le_f (by omega) (by omega)), h5, mkAt_ok (by omega) (by omega), ev, pu_one, vr, e2]
    by_cases z : 10 * v + m ≤ 1000000
    · rw [if_pos (show nI (10 * v + m) ≤ 1000000 from le_t (b := 1000000) z (by omega)), Nat.min_eq_right z]
      obtain ⟨w, g1, g2, g3⟩ := L_nR28 (T := T) lo hi he k n (p + 1) (10 * v + m) (upF 5 (nI (10 * v + m)) r) (by omega) (by omega) (fun j a b => hd j (by omega) b) h4 rfl z
      exact ⟨w, g1, g2, fun j hj => by rw [g3 j hj, upF_n hj]⟩
    · rw [if_neg (show ¬ nI (10 * v + m) ≤ 1000000 from le_f (b := 1000000) (by omega) (by omega)), Nat.min_eq_left (by omega)]
      obtain ⟨w, g1, g2, g3⟩ := L_nR28 (T := T) lo hi he k n (p + 1) 1000000 (upF 5 1000000 (upF 5 (nI (10 * v + m)) r)) (by omega) (by omega) (fun j a b => hd j (by omega) b) h4 rfl (by omega)
      exact ⟨w, g1, g2, fun j hj => by rw [g3 j hj, upF_n hj, upF_n hj]⟩
theorem tE_dig {B : Nat → Int32} {tl b : Nat} (h : tKb B tl b = 2) : ∀ j, b ≤ j → j < tEb B tl b → kd (B j) = 2 := by
  intro j h1 h2
  unfold tEb at h2
  rw [h, if_pos (Or.inr rfl)] at h2
  exact gr_in B 2 _ _ j h1 h2
theorem L_readNumber {T r : Nat → Nat → Int32} {tl p lo hi : Nat} (ht : tl ≤ 500) (h1 : T 1 0 = nI tl) (hp : p ≤ tl) (h4 : r 4 0 = nI p) (hlo : lo ≤ 200) (hhi : hi ≤ 200) : ((tKb (T 0) tl (tB (T 0) tl p) = 2 ∧ lo ≤ tVb (T 0) tl (tB (T 0) tl p) ∧ tVb (T 0) tl (tB (T 0) tl p) ≤ hi) → ∃ w, f_R_readNumber r T (nI lo) (nI hi) = some (1, w) ∧ w 5 0 = nI (tVb (T 0) tl (tB (T 0) tl p)) ∧ w 4 0 = nI (nx (T 0) tl p) ∧ w 6 = r 6 ∧ w 7 = r 7 ∧ w 3 0 = nI (tB (T 0) tl p)) ∧ (¬ (tKb (T 0) tl (tB (T 0) tl p) = 2 ∧ lo ≤ tVb (T 0) tl (tB (T 0) tl p) ∧ tVb (T 0) tl (tB (T 0) tl p) ≤ hi) → ∃ w, f_R_readNumber r T (nI lo) (nI hi) = some (0, w) ∧ w 6 0 = (if tKb (T 0) tl (tB (T 0) tl p) = 2 then 2 else 1) ∧ w 7 0 = nI (tB (T 0) tl p)) := by
  obtain ⟨v, g1, ⟨g2, g3, g4⟩, g5⟩ := L_step ht h1 hp h4
  have hb := tB_le (B := T 0) hp
  have he := tEb_le (B := T 0) hb.2
  have hK := tKb_le (T 0) tl (tB (T 0) tl p)
  unfold f_R_readNumber nx
  rw [g1, b1_k, g2, g3]
  generalize tB (T 0) tl p = b at *
  by_cases z : tKb (T 0) tl b = 2
  · obtain ⟨w, f1, f2, f3⟩ := L_nR28 (T := T) (e := tEb (T 0) tl b) (nI lo) (nI hi) (by omega) (tEb (T 0) tl b - b) 600 b 0 (upF 5 0 v) (by omega) (by omega) (tE_dig z) g4 rfl (by omega)
    have hr := vrel (T 0) (tEb (T 0) tl b - b) 0 0 b (Or.inl ⟨rfl, by omega⟩)
    have hv1 := vr_le (T 0) 1000000 (tEb (T 0) tl b - b) 0 b (by omega)
    have eV : tVb (T 0) tl b = vr (T 0) 99999 (tEb (T 0) tl b - b) 0 b := by unfold tVb; rw [if_pos z]
    rw [eV, if_pos z, if_pos (show nI (tKb (T 0) tl b) = 2 by rw [z]; rfl), f1, f2]
    generalize vr (T 0) 1000000 (tEb (T 0) tl b - b) 0 b = x at *
    generalize vr (T 0) 99999 (tEb (T 0) tl b - b) 0 b = y at *
    have no : ∀ w : Nat → Nat → Int32, w 3 = v 3 → ∃ u, f_R_readNumber_99 T (nI lo) (nI hi) w = some (0, u) ∧ u 6 0 = 2 ∧ u 7 0 = nI b := by
      intro w hw
      unfold f_R_readNumber_99 f_R_refuse
      rw [b2_k, if_pos rfl]
      refine ⟨_, rfl, rfl, ?_⟩
      show w 3 0 = nI b
      rw [hw]; exact g3
    constructor
    · rintro ⟨_, c1, c2⟩
      rw [if_neg (lt_f (by omega) (by omega)), if_pos (le_t (by omega) (by omega))]
      refine ⟨w, rfl, by rw [f2]; congr 1; omega, ?_, ?_, ?_, by rw [f3 3 (by decide), upF_n (by decide)]; exact g3⟩
      · rw [f3 4 (by decide)]; exact g4
      · rw [f3 6 (by decide), upF_n (by decide), g5 6 (by decide) (by decide) (by decide)]
      · rw [f3 7 (by decide), upF_n (by decide), g5 7 (by decide) (by decide) (by decide)]
    · intro c
      by_cases c1 : x < lo
      · rw [if_pos (lt_t c1 (by omega))]
        exact no w (by rw [f3 3 (by decide), upF_n (by decide)])
      · rw [if_neg (lt_f (by omega) (by omega)), if_neg (le_f (by omega) (by omega))]
        exact no w (by rw [f3 3 (by decide), upF_n (by decide)])
  · rw [if_neg (show ¬ nI (tKb (T 0) tl b) = 2 from eq_f (b := 2) z (by omega) (by omega)), if_neg z]
    refine ⟨fun c => absurd c.1 z, fun _ => ?_⟩
    unfold f_R_refuse
    rw [b2_k, gZ0]
    exact ⟨_, rfl, rfl, g3⟩
theorem L_readWord {T r : Nat → Nat → Int32} {tl p w : Nat} (ht : tl ≤ 500) (h1 : T 1 0 = nI tl) (hp : p ≤ tl) (h4 : r 4 0 = nI p) (hw : w < 13) : (isW (T 0) tl p w = true → ∃ u, f_R_readWord r T w = some (1, u) ∧ u 4 0 = nI (nx (T 0) tl p) ∧ u 6 = r 6 ∧ u 7 = r 7) ∧ (isW (T 0) tl p w = false → ∃ u, f_R_readWord r T w = some (0, u) ∧ u 6 0 = 1 ∧ u 7 0 = nI (tB (T 0) tl p)) := by
  obtain ⟨v, g1, g2, g5⟩ := L_step ht h1 hp h4
  unfold f_R_readWord f_R_refuse
  rw [g1, b1_k, L_wR ht hp hw g2, b1_k]
  constructor
  · intro h
    rw [h, if_neg (show ¬ (if true = true then (1 : Int32) else 0) = 0 from one0)]
    exact ⟨v, rfl, g2.2.2, g5 6 (by decide) (by decide) (by decide), g5 7 (by decide) (by decide) (by decide)⟩
  · intro h
    rw [h, if_pos (show (if false = true then (1 : Int32) else 0) = 0 from rfl), b2_k, if_pos rfl]
    exact ⟨_, rfl, rfl, g2.2.1⟩
theorem L_readSign {T r : Nat → Nat → Int32} {tl p : Nat} (ht : tl ≤ 500) (h1 : T 1 0 = nI tl) (hp : p ≤ tl) (h4 : r 4 0 = nI p) : (tKb (T 0) tl (tB (T 0) tl p) = 3 → ∃ u, f_R_readSign r T = some (1, u) ∧ u 4 0 = nI (nx (T 0) tl p) ∧ u 6 = r 6 ∧ u 7 = r 7) ∧ (tKb (T 0) tl (tB (T 0) tl p) ≠ 3 → ∃ u, f_R_readSign r T = some (0, u) ∧ u 6 0 = 1 ∧ u 7 0 = nI (tB (T 0) tl p)) := by
  obtain ⟨v, g1, g2, g5⟩ := L_step ht h1 hp h4
  have hK := tKb_le (T 0) tl (tB (T 0) tl p)
  unfold f_R_readSign f_R_refuse
  rw [g1, b1_k, g2.1]
  constructor
  · intro h
    rw [if_pos (show nI (tKb (T 0) tl (tB (T 0) tl p)) = 3 by rw [h]; rfl)]
    exact ⟨v, rfl, g2.2.2, g5 6 (by decide) (by decide) (by decide), g5 7 (by decide) (by decide) (by decide)⟩
  · intro h
    rw [if_neg (show ¬ nI (tKb (T 0) tl (tB (T 0) tl p)) = 3 from eq_f (b := 3) h (by omega) (by omega)), b2_k, if_pos rfl]
    exact ⟨_, rfl, rfl, g2.2.1⟩
/-! the reference's small steps -/
noncomputable def bdX (k : Int32) (x : Nat → Nat → Int32) : Nat → Nat → Int32 := upF 14 (x 9 0) (upF 13 k (upF 12 1 x))
theorem X_fG {x : Nat → Nat → Int32} (h : x 12 0 = 0) (k : Int32) : f_X_faults x k = some (bdX k x) := by
  unfold f_X_faults
  rw [if_pos h]; rfl
theorem X_fB {x : Nat → Nat → Int32} (h : x 12 0 = 1) (k : Int32) : f_X_faults x k = some x := by
  unfold f_X_faults
  rw [if_neg (by rw [h]; exact one0)]
theorem X_p9B {x : Nat → Nat → Int32} (h : x 12 0 = 1) (b : Int32) : f_X_passes_9 b x = some x := by
  unfold f_X_passes_9
  rw [if_neg (by rw [h]; exact one0)]
theorem X_pB {x : Nat → Nat → Int32} (h : x 12 0 = 1) (b : Int32) : f_X_passes x b = some x := by
  unfold f_X_passes
  rw [X_fB h, b1_k, X_p9B h]
  split <;> rfl
theorem X_pF {x : Nat → Nat → Int32} (h : x 12 0 = 0) : f_X_passes x 0 = some (bdX 1 x) := by
  unfold f_X_passes
  rw [if_pos rfl, X_fG h, b1_k, X_p9B rfl]
theorem X_pT {B : Nat → Int32} {tl p : Nat} {x : Nat → Nat → Int32} (ht : tl ≤ 500) (hp : p ≤ tl) (hT : TP B tl x) (h : x 12 0 = 0) (h8 : x 8 0 = nI p) : ∃ w, f_X_passes x 1 = some w ∧ TX B tl p w ∧ ∀ j, j ≠ 8 → j ≠ 9 → j ≠ 10 → j ≠ 11 → w j = x j := by
  obtain ⟨w, g1, g2, g3⟩ := L_next ht hp hT h8
  refine ⟨w, ?_, g2, g3⟩
  unfold f_X_passes f_X_passes_9
  rw [if_neg one0, if_pos h, g1, b1_k]
theorem X_nB {x : Nat → Nat → Int32} (h : x 12 0 = 1) (w : Nat) (lo hi : Int32) : f_X_named x w lo hi = some (0, x) := by
  unfold f_X_named f_X_named_16 f_X_named_21
  rw [if_neg (by rw [h]; exact one0), X_pB h, b1_k, if_neg (by rw [h]; exact one0)]
theorem X_reads {B : Nat → Int32} {tl p lo hi : Nat} {x : Nat → Nat → Int32} (ht : tl ≤ 500) (hp : p ≤ tl) (hT : TP B tl x) (h : x 12 0 = 0) (hX : TX B tl p x) (hlo : lo ≤ 200) (hhi : hi ≤ 200) : ((tKb B tl (tB B tl p) = 2 ∧ lo ≤ tVb B tl (tB B tl p) ∧ tVb B tl (tB B tl p) ≤ hi) → ∃ w, f_X_reads x (nI lo) (nI hi) = some (nI (tVb B tl (tB B tl p)), w) ∧ TX B tl (nx B tl p) w ∧ ∀ j, j ≠ 8 → j ≠ 9 → j ≠ 10 → j ≠ 11 → w j = x j) ∧ (¬ (tKb B tl (tB B tl p) = 2 ∧ lo ≤ tVb B tl (tB B tl p) ∧ tVb B tl (tB B tl p) ≤ hi) → f_X_reads x (nI lo) (nI hi) = some (nI (tVb B tl (tB B tl p)), bdX (if tKb B tl (tB B tl p) = 2 then 2 else 1) x)) := by
  obtain ⟨h10, h9, h8, h11⟩ := hX
  have hK := tKb_le B tl (tB B tl p)
  have hn := (nx_le (B := B) hp).2
  have hv : tVb B tl (tB B tl p) ≤ 99999 := by
    unfold tVb
    split
    · exact vr_le _ _ _ _ _ (by omega)
    · omega
  unfold f_X_reads f_X_reads_38
  rw [h10, h11]
  by_cases z : tKb B tl (tB B tl p) = 2
  · rw [if_pos (show nI (tKb B tl (tB B tl p)) = 2 by rw [z]; rfl), if_pos z]
    generalize tVb B tl (tB B tl p) = v at *
    constructor
    · rintro ⟨_, c1, c2⟩
      obtain ⟨w, g1, g2, g3⟩ := X_pT ht hn hT h h8
      rw [q_inY (y := nI lo) (z := nI hi) rfl rfl (le_t c1 (by omega)) (le_t c2 (by omega)), b1_k, if_neg one0, g1, b1_k]
      exact ⟨w, rfl, g2, g3⟩
    · intro c
      have e0 : f_X_in (nI v).toInt64 (nI lo).toInt64 (nI hi).toInt64 = some 0 := by
        by_cases c1 : v < lo
        · exact q_inL (y := nI lo) (z := nI hi) rfl rfl (lt_t c1 (by omega))
        · exact q_inR (y := nI lo) (z := nI hi) rfl rfl (lt_t (by omega) (by omega))
      rw [e0, b1_k, if_pos rfl, X_fG h, b1_k, X_pB rfl, b1_k]
  · rw [if_neg (show ¬ nI (tKb B tl (tB B tl p)) = 2 from eq_f (b := 2) z (by omega) (by omega)), if_neg z]
    refine ⟨fun c => absurd c.1 z, fun _ => ?_⟩
    rw [X_fG h, b1_k, X_pB rfl, b1_k]
/-! both -/
def FR (r x : Nat → Nat → Int32) : Prop := x 13 0 = r 6 0 ∧ x 14 0 = r 7 0
def Sm (x w : Nat → Nat → Int32) : Prop := ∀ k, 1 ≤ k → k ≤ 5 → w k = x k
def Rd (B : Nat → Int32) (tl q : Nat) (r x : Nat → Nat → Int32) : Prop := q ≤ tl ∧ r 4 0 = nI q ∧ TX B tl q x ∧ TP B tl x ∧ x 12 0 = 0 ∧ FR r x
def Bd (r x : Nat → Nat → Int32) : Prop := x 12 0 = 1 ∧ FR r x
theorem Sm_r (x : Nat → Nat → Int32) : Sm x x := fun _ _ _ => rfl
theorem Sm_t {x y z : Nat → Nat → Int32} (h : Sm x y) (g : Sm y z) : Sm x z := fun k a b => by rw [g k a b, h k a b]
theorem Sm_n {x y : Nat → Nat → Int32} (h : ∀ j, j ≠ 8 → j ≠ 9 → j ≠ 10 → j ≠ 11 → y j = x j) : Sm x y := fun k _ b => h k (by omega) (by omega) (by omega) (by omega)
theorem Sm_b (x : Nat → Nat → Int32) (k : Int32) : Sm x (bdX k x) := fun j _ b => by unfold bdX; rw [upF_n (by omega), upF_n (by omega), upF_n (by omega)]
theorem Sm_0 (x : Nat → Nat → Int32) (g : Nat → Int32) : Sm x (upR 0 g x) := fun j a _ => upR_n (by omega)
theorem bdX_0 (x : Nat → Nat → Int32) (k : Int32) : bdX k x 0 = x 0 := by unfold bdX; rw [upF_n (by omega), upF_n (by omega), upF_n (by omega)]
theorem TP_n {B : Nat → Int32} {tl : Nat} {x w : Nat → Nat → Int32} (h : TP B tl x) (g : Sm x w) : TP B tl w := TP_of h (g 4 (by omega) (by omega)) (g 5 (by omega) (by omega))
theorem FR_n {r s x w : Nat → Nat → Int32} (h : FR r x) (h6 : s 6 = r 6) (h7 : s 7 = r 7) (g : ∀ j, j ≠ 8 → j ≠ 9 → j ≠ 10 → j ≠ 11 → w j = x j) : FR s w := by
  unfold FR
  rw [h6, h7, g 13 (by decide) (by decide) (by decide) (by decide), g 14 (by decide) (by decide) (by decide) (by decide)]
  exact h
theorem Bd_of {r x : Nat → Nat → Int32} {k : Int32} {b : Nat} (h6 : r 6 0 = k) (h7 : r 7 0 = nI b) (h9 : x 9 0 = nI b) : Bd r (bdX k x) := by
  refine ⟨rfl, ?_, ?_⟩
  · rw [h6]; rfl
  · rw [h7, ← h9]; rfl
theorem J_named {T r x : Nat → Nat → Int32} {tl q w lo hi : Nat} (ht : tl ≤ 500) (h1 : T 1 0 = nI tl) (hw : w < 13) (hlo : lo ≤ 200) (hhi : hi ≤ 200) (h : Rd (T 0) tl q r x) : (∃ v r1 r2 y q2, lo ≤ v ∧ v ≤ hi ∧ f_R_readWord r T w = some (1, r1) ∧ f_R_readNumber r1 T (nI lo) (nI hi) = some (1, r2) ∧ r2 5 0 = nI v ∧ f_X_named x w (nI lo) (nI hi) = some (nI v, y) ∧ Rd (T 0) tl q2 r2 y ∧ y 0 = x 0 ∧ Sm x y ∧ q < q2) ∨ (∃ r1 v y, (f_R_readWord r T w = some (0, r1) ∨ ∃ r0, f_R_readWord r T w = some (1, r0) ∧ f_R_readNumber r0 T (nI lo) (nI hi) = some (0, r1)) ∧ f_X_named x w (nI lo) (nI hi) = some (v, y) ∧ Bd r1 y ∧ y 0 = x 0 ∧ Sm x y) := by
  obtain ⟨hq, h4, hX, hT, h12, hF⟩ := h
  obtain ⟨cT, cF⟩ := L_readWord ht h1 hq h4 hw
  obtain ⟨n1, n2⟩ := nx_le (B := T 0) hq
  unfold f_X_named f_X_named_16 f_X_named_21
  rw [if_pos h12, L_wX ht hq hw hT hX, b1_k]
  cases hi' : isW (T 0) tl q w
  · right
    obtain ⟨u, u1, u2, u3⟩ := cF hi'
    refine ⟨u, 0, bdX 1 x, Or.inl u1, ?_, Bd_of u2 u3 hX.2.1, bdX_0 _ _, Sm_b _ _⟩
    rw [if_pos (show (if false = true then (1 : Int32) else 0) = 0 from rfl), X_pF h12, b1_k, if_neg (show ¬ bdX 1 x 12 0 = 0 from one0)]
  · obtain ⟨u, u1, u2, u3, u4⟩ := cT hi'
    obtain ⟨y, y1, y2, y3⟩ := X_pT ht n2 hT h12 hX.2.2.1
    have hT' := TP_n hT (Sm_n y3)
    have h12' : y 12 0 = 0 := by rw [y3 12 (by decide) (by decide) (by decide) (by decide)]; exact h12
    obtain ⟨eT, eF⟩ := L_readNumber (lo := lo) (hi := hi) ht h1 n2 u2 hlo hhi
    obtain ⟨xT, xF⟩ := X_reads ht n2 hT' h12' y2 hlo hhi
    rw [if_neg (show ¬ (if true = true then (1 : Int32) else 0) = 0 from one0), y1, b1_k, if_pos h12']
    by_cases z : tKb (T 0) tl (tB (T 0) tl (nx (T 0) tl q)) = 2 ∧ lo ≤ tVb (T 0) tl (tB (T 0) tl (nx (T 0) tl q)) ∧ tVb (T 0) tl (tB (T 0) tl (nx (T 0) tl q)) ≤ hi
    · left
      obtain ⟨s, s1, s2, s3, s4, s5, _⟩ := eT z
      obtain ⟨m, m1, m2, m3⟩ := xT z
      obtain ⟨n3, n4⟩ := nx_le (B := T 0) n2
      have n5 := nx_lt n2 (show tKb (T 0) tl (tB (T 0) tl (nx (T 0) tl q)) ≠ 0 by omega)
      refine ⟨_, u, s, m, nx (T 0) tl (nx (T 0) tl q), z.2.1, z.2.2, u1, s1, s2, by rw [m1, b2_k], ⟨n4, s3, m2, TP_n hT' (Sm_n m3), ?_, ?_⟩, ?_, Sm_t (Sm_n y3) (Sm_n m3), by omega⟩
      · rw [m3 12 (by decide) (by decide) (by decide) (by decide)]; exact h12'
      · exact FR_n (FR_n hF u3 u4 y3) s4 s5 m3
      · rw [m3 0 (by decide) (by decide) (by decide) (by decide), y3 0 (by decide) (by decide) (by decide) (by decide)]
    · right
      obtain ⟨s, s1, s2, s3⟩ := eF z
      refine ⟨s, _, _, Or.inr ⟨u, u1, s1⟩, by rw [xF z, b2_k], Bd_of s2 s3 y2.2.1, ?_, Sm_t (Sm_n y3) (Sm_b _ _)⟩
      rw [bdX_0, y3 0 (by decide) (by decide) (by decide) (by decide)]
