theorem one0 : ¬ (1 : Int32) = 0 := by decide
theorem q_rng2 (p : Int32) {n : Nat} (hn : n + 1 < 2 ^ 31) : p < 0 ∨ nI n < p ∨ ∃ j : Nat, j ≤ n ∧ p = nI j := by
  by_cases q : p < 0
  · exact Or.inl q
  · obtain ⟨m, hm, rfl⟩ := nI_of q
    rcases Nat.lt_or_ge n m with z | z
    · exact Or.inr (Or.inl (lt_t z hm))
    · exact Or.inr (Or.inr ⟨m, z, rfl⟩)
theorem q_rngAB (p : Int32) {a b : Nat} (hb : b < 100) (ha : a ≤ b) : p < nI a ∨ (¬ p < nI a ∧ nI b < p) ∨ ∃ j : Nat, a ≤ j ∧ j ≤ b ∧ p = nI j := by
  rcases q_rng2 p (n := b) (by omega) with q | q | ⟨j, q, rfl⟩
  · left
    rw [Int32.lt_iff_toInt_lt] at q ⊢
    rw [nI_toInt (by omega)]
    have e0 : (0 : Int32).toInt = 0 := rfl
    omega
  · right; left
    refine ⟨?_, q⟩
    rw [Int32.lt_iff_toInt_lt, nI_toInt (by omega)] at *
    omega
  · by_cases z : a ≤ j
    · right; right; exact ⟨j, z, q, rfl⟩
    · left; exact lt_t (by omega) (by omega)
/-! pure: the tokens, on both sides -/
def kd28 (c : Int32) : Nat := if c = 59 then 3 else 4
def kd14 (c : Int32) : Nat := if c < 48 then kd28 c else if (57 : Int32) < c then kd28 c else 2
def kd (c : Int32) : Nat := if c < 97 then kd14 c else if (122 : Int32) < c then kd14 c else 1
theorem q_kd (c : Int32) : f_R_kindOf c = some (nI (kd c)) := by
  unfold f_R_kindOf f_R_kindOf_14 f_R_kindOf_28 kd kd14 kd28
  repeat' split
  all_goals rfl
theorem kd_ch (c : Int32) : (kd c = 1 ↔ ¬ c < 97 ∧ ¬ (122 : Int32) < c) ∧ (kd c = 2 ↔ ¬ c < 48 ∧ ¬ (57 : Int32) < c) ∧ (kd c = 3 ↔ c = 59) ∧ 1 ≤ kd c ∧ kd c ≤ 4 := by
  unfold kd kd14 kd28
  simp only [Int32.lt_iff_toInt_lt, ← Int32.toInt_inj]
  rw [show (97 : Int32).toInt = 97 from rfl, show (122 : Int32).toInt = 122 from rfl, show (48 : Int32).toInt = 48 from rfl, show (57 : Int32).toInt = 57 from rfl, show (59 : Int32).toInt = 59 from rfl]
  generalize c.toInt = i
  refine ⟨?_, ?_, ?_, ?_, ?_⟩
  all_goals repeat' split
  all_goals omega
def blk (c : Int32) : Bool := decide (c = 32) || decide (c = 10)
theorem q_blk (c : Int32) : f_R_isBlank c = some (if blk c then 1 else 0) := by
  unfold f_R_isBlank blk
  by_cases h : c = 32
  · rw [if_pos h]; simp [h]
  · rw [if_neg h]
    by_cases h2 : c = 10
    · rw [if_pos h2]; simp [h2]
    · rw [if_neg h2]; simp [h, h2]
def sk (B : Nat → Int32) : Nat → Nat → Nat
  | 0, p => p
  | k + 1, p => if blk (B p) then sk B k (p + 1) else p
def gr (B : Nat → Int32) (K : Nat) : Nat → Nat → Nat
  | 0, p => p
  | k + 1, p => if kd (B p) = K then gr B K k (p + 1) else p
def dg (c : Int32) : Nat := c.toNatClampNeg - 48
def vr (B : Nat → Int32) (M : Nat) : Nat → Nat → Nat → Nat
  | 0, v, _ => v
  | k + 1, v, p => vr B M k (min M (10 * v + dg (B p))) (p + 1)
def tKb (B : Nat → Int32) (tl b : Nat) : Nat := if b < tl then kd (B b) else 0
def tEb (B : Nat → Int32) (tl b : Nat) : Nat := if tKb B tl b = 1 ∨ tKb B tl b = 2 then gr B (tKb B tl b) (tl - b) b else if tKb B tl b = 0 then b else b + 1
def tVb (B : Nat → Int32) (tl b : Nat) : Nat := if tKb B tl b = 2 then vr B 99999 (tEb B tl b - b) 0 b else 0
def tB (B : Nat → Int32) (tl p : Nat) : Nat := sk B (tl - p) p
theorem sk_le (B : Nat → Int32) : ∀ k p, p ≤ sk B k p ∧ sk B k p ≤ p + k
  | 0, p => ⟨Nat.le_refl _, Nat.le_refl _⟩
  | k + 1, p => by
    have := sk_le B k (p + 1)
    rw [sk]
    split
    · omega
    · omega
theorem gr_le (B : Nat → Int32) (K : Nat) : ∀ k p, p ≤ gr B K k p ∧ gr B K k p ≤ p + k
  | 0, p => ⟨Nat.le_refl _, Nat.le_refl _⟩
  | k + 1, p => by
    have := gr_le B K k (p + 1)
    rw [gr]
    split
    · omega
    · omega
theorem gr_in (B : Nat → Int32) (K : Nat) : ∀ k p j, p ≤ j → j < gr B K k p → kd (B j) = K
  | 0, p, j, h1, h2 => by
    rw [gr] at h2; omega
  | k + 1, p, j, h1, h2 => by
    rw [gr] at h2
    by_cases q : kd (B p) = K
    · rw [if_pos q] at h2
      by_cases z : j = p
      · subst z; exact q
      · exact gr_in B K k (p + 1) j (by omega) h2
    · rw [if_neg q] at h2; omega
theorem tB_le {B : Nat → Int32} {tl p : Nat} (h : p ≤ tl) : p ≤ tB B tl p ∧ tB B tl p ≤ tl := by
  have := sk_le B (tl - p) p
  unfold tB
  omega
theorem tKb_le (B : Nat → Int32) (tl b : Nat) : tKb B tl b ≤ 4 := by
  unfold tKb
  split
  · exact (kd_ch _).2.2.2.2
  · omega
theorem tKb_lt {B : Nat → Int32} {tl b : Nat} (h : tKb B tl b ≠ 0) : b < tl := by
  unfold tKb at h
  split at h
  · assumption
  · exact absurd rfl h
theorem tKb_0 {B : Nat → Int32} {tl b : Nat} (h : b < tl) : tKb B tl b ≠ 0 := by
  unfold tKb
  rw [if_pos h]
  have := (kd_ch (B b)).2.2.2.1
  omega
theorem tEb_le {B : Nat → Int32} {tl b : Nat} (hb : b ≤ tl) : b ≤ tEb B tl b ∧ tEb B tl b ≤ tl ∧ (tKb B tl b ≠ 0 → b < tEb B tl b) := by
  have g := gr_le B (tKb B tl b) (tl - b) b
  unfold tEb
  split
  · rename_i h
    have hlt : b < tl := tKb_lt (B := B) (by omega)
    refine ⟨by omega, by omega, fun _ => ?_⟩
    obtain ⟨k, hk⟩ : ∃ k, tl - b = k + 1 := ⟨tl - b - 1, by omega⟩
    rw [hk, gr]
    have e : kd (B b) = tKb B tl b := by unfold tKb; rw [if_pos hlt]
    rw [if_pos e]
    have := gr_le B (tKb B tl b) k (b + 1)
    omega
  · split
    · rename_i h0; exact ⟨Nat.le_refl _, hb, fun h => absurd h0 h⟩
    · rename_i h0
      have := tKb_lt h0
      exact ⟨by omega, by omega, fun _ => by omega⟩
/-- the class's step -/
theorem L_sk {T : Nat → Nat → Int32} {tl : Nat} (ht : tl ≤ 500) (h1 : T 1 0 = nI tl) : ∀ k n p (r : Nat → Nat → Int32), p + k = tl → k < n → r 3 0 = nI p → ∃ w, f_R_step_8 T n r = f_R_step_55 T w ∧ w 3 0 = nI (sk (T 0) k p) ∧ ∀ j, j ≠ 3 → w j = r j
  | 0, n, p, r, hk, hn, h3 => by
    obtain ⟨n, rfl, _⟩ := q_fu hn
    rw [f_R_step_8, h1, h3, if_pos (le_t (by omega) (by omega))]
    exact ⟨r, rfl, h3, fun _ _ => rfl⟩
  | k + 1, n, p, r, hk, hn, h3 => by
    obtain ⟨n, rfl, _⟩ := q_fu hn
    rw [f_R_step_8, h1, h3, if_neg (le_f (by omega) (by omega)), mkAt_ok (by omega) (by omega), q_blk, b1_k, sk, pu_one]
    cases hb : blk (T 0 p)
    · rw [if_pos (show (if false = true then (1 : Int32) else 0) = 0 from rfl)]
      exact ⟨r, rfl, h3, fun _ _ => rfl⟩
    · rw [if_neg (show ¬ (if true = true then (1 : Int32) else 0) = 0 from one0)]
      obtain ⟨w, g1, g2, g3⟩ := L_sk ht h1 k n (p + 1) (upF 3 (nI (p + 1)) r) (by omega) (by omega) rfl
      exact ⟨w, g1, g2, fun j hj => by rw [g3 j hj, upF_n hj]⟩
theorem L_gr {T : Nat → Nat → Int32} {tl K : Nat} (ht : tl ≤ 500) (h1 : T 1 0 = nI tl) (hK : K ≤ 4) : ∀ k n p (r : Nat → Nat → Int32), p + k = tl → k < n → r 4 0 = nI p → r 2 0 = nI K → ∃ w, f_R_step_136 T n 1 r = some w ∧ w 4 0 = nI (gr (T 0) K k p) ∧ ∀ j, j ≠ 4 → w j = r j
  | 0, n, p, r, hk, hn, h4, h2 => by
    obtain ⟨n, rfl, _⟩ := q_fu hn
    rw [f_R_step_136, if_neg one0, h1, h4, if_pos (le_t (by omega) (by omega))]
    exact ⟨r, rfl, h4, fun _ _ => rfl⟩
  | k + 1, n, p, r, hk, hn, h4, h2 => by
    obtain ⟨n, rfl, _⟩ := q_fu hn
    have hd := (kd_ch (T 0 p)).2.2.2.2
    rw [f_R_step_136, if_neg one0, h1, h4, if_neg (le_f (by omega) (by omega)), mkAt_ok (by omega) (by omega), q_kd, b1_k, h2, gr, pu_one]
    by_cases q : kd (T 0 p) = K
    · rw [if_pos q, if_pos (by rw [q])]
      obtain ⟨w, g1, g2, g3⟩ := L_gr ht h1 hK k n (p + 1) (upF 4 (nI (p + 1)) r) (by omega) (by omega) rfl h2
      exact ⟨w, g1, g2, fun j hj => by rw [g3 j hj, upF_n hj]⟩
    · rw [if_neg q, if_neg (eq_f q (by omega) (by omega))]
      exact ⟨r, rfl, h4, fun _ _ => rfl⟩
/-- what stands in the class's reader at a token -/
def TR (B : Nat → Int32) (tl p : Nat) (r : Nat → Nat → Int32) : Prop := r 2 0 = nI (tKb B tl (tB B tl p)) ∧ r 3 0 = nI (tB B tl p) ∧ r 4 0 = nI (tEb B tl (tB B tl p))
theorem L_step {T r : Nat → Nat → Int32} {tl p : Nat} (ht : tl ≤ 500) (h1 : T 1 0 = nI tl) (hp : p ≤ tl) (h4 : r 4 0 = nI p) : ∃ w, f_R_step r T = some w ∧ TR (T 0) tl p w ∧ ∀ j, j ≠ 2 → j ≠ 3 → j ≠ 4 → w j = r j := by
  unfold f_R_step
  rw [h4]
  obtain ⟨v, g1, g2, g3⟩ := L_sk ht h1 (tl - p) 600 p (upF 3 (nI p) r) (by omega) (by omega) rfl
  have hb := tB_le (B := T 0) hp
  have e : sk (T 0) (tl - p) p = tB (T 0) tl p := rfl
  rw [e] at g2
  rw [g1]
  unfold f_R_step_55 TR
  generalize tB (T 0) tl p = b at *
  rw [g2, h1]
  have rest : ∀ w : Nat → Nat → Int32, (∀ j, j ≠ 2 → j ≠ 4 → w j = v j) → ∀ j, j ≠ 2 → j ≠ 3 → j ≠ 4 → w j = r j := fun w hw j a b c => by rw [hw j a c, g3 j b, upF_n b]
  by_cases q : b < tl
  · rw [if_pos (lt_t q (by omega)), mkAt_ok (by omega) (by omega), q_kd, b1_k, pu_one]
    have eK : tKb (T 0) tl b = kd (T 0 b) := if_pos q
    obtain ⟨k1, k2, k3, k4, k5⟩ := kd_ch (T 0 b)
    have run : (kd (T 0 b) = 1 ∨ kd (T 0 b) = 2) → ∃ w, f_R_step_136 T 600 1 (upF 4 (nI (b + 1)) (upF 2 (nI (kd (T 0 b))) (upF 4 (nI b) v))) = some w ∧ (w 2 0 = nI (tKb (T 0) tl b) ∧ w 3 0 = nI b ∧ w 4 0 = nI (tEb (T 0) tl b)) ∧ ∀ j, j ≠ 2 → j ≠ 3 → j ≠ 4 → w j = r j := by
      intro hk
      obtain ⟨w, f1, f2, f3⟩ := L_gr (K := kd (T 0 b)) ht h1 k5 (tl - (b + 1)) 600 (b + 1) (upF 4 (nI (b + 1)) (upF 2 (nI (kd (T 0 b))) (upF 4 (nI b) v))) (by omega) (by omega) rfl rfl
      refine ⟨w, f1, ⟨?_, ?_, ?_⟩, rest w (fun j a c => by rw [f3 j c, upF_n c, upF_n a, upF_n c])⟩
      · rw [f3 2 (by decide), eK]; rfl
      · rw [f3 3 (by decide)]; exact g2
      · rw [f2]
        unfold tEb
        rw [eK, if_pos hk, show tl - b = tl - (b + 1) + 1 by omega, gr, if_pos rfl]
    by_cases z1 : kd (T 0 b) = 1
    · rw [if_pos (show nI (kd (T 0 b)) = 1 by rw [z1]; rfl)]
      exact run (Or.inl z1)
    rw [if_neg (show ¬ nI (kd (T 0 b)) = 1 from eq_f (b := 1) z1 (by omega) (by omega))]
    by_cases z2 : kd (T 0 b) = 2
    · rw [if_pos (show nI (kd (T 0 b)) = 2 by rw [z2]; rfl)]
      exact run (Or.inr z2)
    rw [if_neg (show ¬ nI (kd (T 0 b)) = 2 from eq_f (b := 2) z2 (by omega) (by omega)), f_R_step_136, if_pos rfl]
    refine ⟨_, rfl, ⟨?_, g2, ?_⟩, rest _ (fun j a c => by rw [upF_n c, upF_n a, upF_n c])⟩
    · rw [eK]; rfl
    · unfold tEb
      rw [eK, if_neg (by omega), if_neg (by omega)]; rfl
  · rw [if_neg (lt_f (by omega) (by omega))]
    have eK : tKb (T 0) tl b = 0 := if_neg q
    refine ⟨_, rfl, ⟨?_, g2, ?_⟩, rest _ (fun j a c => by rw [upF_n a, upF_n c])⟩
    · rw [eK]; rfl
    · unfold tEb
      rw [eK, if_neg (by omega), if_pos rfl]; rfl
theorem q_dig {c : Int32} (h : kd c = 2) : ∃ m, m ≤ 9 ∧ c = nI (48 + m) ∧ dg c = m := by
  obtain ⟨h1, h2⟩ := (kd_ch c).2.1.mp h
  rcases q_rngAB c (a := 48) (b := 57) (by omega) (by omega) with q | ⟨_, q⟩ | ⟨j, a, b, rfl⟩
  · exact absurd q h1
  · exact absurd q h2
  · refine ⟨j - 48, by omega, by rw [show 48 + (j - 48) = j by omega], ?_⟩
    unfold dg
    rw [pu_cl (by omega)]
def wm (B : Nat → Int32) (w b : Nat) : Nat → Nat → Bool
  | 0, _ => true
  | k + 1, i => if mkChr w (nI i) = B (b + i) then wm B w b k (i + 1) else false
def isW (B : Nat → Int32) (tl p w : Nat) : Bool := decide (tKb B tl (tB B tl p) = 1) && (decide (tEb B tl (tB B tl p) - tB B tl p = mk_len.getD w 0) && wm B w (tB B tl p) (mk_len.getD w 0) 0)
theorem q_len : ∀ w, w < 13 → mk_len.getD w 0 ≤ 7 ∧ 1 ≤ mk_len.getD w 0 := by decide +kernel
theorem gS_ok {α : Type} {w i : Nat} {k : Option α} (h : i < mk_len.getD w 0) (hl : mk_len.getD w 0 ≤ 7) : gS w (nI i) k = k := by
  unfold gS
  rw [if_neg]
  rintro (q | q)
  · exact nI_pos (by omega) q
  · rw [nI_clamp (by omega)] at q; omega
theorem L_w28 {T r : Nat → Nat → Int32} {w b : Nat} (hl : mk_len.getD w 0 ≤ 7) (hb : b + mk_len.getD w 0 ≤ 500) (h3 : r 3 0 = nI b) : ∀ k n i, i + k = mk_len.getD w 0 → k < n → f_R_isWord_28 r T w n (nI i) = some (if wm (T 0) w b k i then 1 else 0)
  | 0, n, i, hk, hn => by
    obtain ⟨n, rfl, _⟩ := q_fu hn
    rw [f_R_isWord_28, if_pos (show mkLen w ≤ nI i from le_t (by omega) (by omega)), wm]; rfl
  | k + 1, n, i, hk, hn => by
    obtain ⟨n, rfl, _⟩ := q_fu hn
    rw [f_R_isWord_28, if_neg (show ¬ mkLen w ≤ nI i from le_f (by omega) (by omega)), gS_ok (by omega) hl, h3, pu_add, mkAt_ok (by omega) (by omega), wm, pu_one]
    by_cases q : mkChr w (nI i) = T 0 (b + i)
    · rw [if_pos q, if_pos q]; exact L_w28 hl hb h3 k n (i + 1) (by omega) (by omega)
    · rw [if_neg q, if_neg q]; rfl
theorem L_wR {T r : Nat → Nat → Int32} {tl p w : Nat} (ht : tl ≤ 500) (hp : p ≤ tl) (hw : w < 13) (hR : TR (T 0) tl p r) : f_R_isWord r T w = some (if isW (T 0) tl p w then 1 else 0) := by
  obtain ⟨h2, h3, h4⟩ := hR
  have hb := tB_le (B := T 0) hp
  have he := tEb_le (B := T 0) hb.2
  have hK := tKb_le (T 0) tl (tB (T 0) tl p)
  obtain ⟨hl, _⟩ := q_len w hw
  unfold f_R_isWord isW
  generalize hbb : tB (T 0) tl p = b at *
  generalize hkk : tKb (T 0) tl b = K at *
  generalize hee : tEb (T 0) tl b = e at *
  rw [h2, h3, h4, pu_sub he.1]
  by_cases z : K = 1
  · rw [if_pos (show nI K = 1 by rw [z]; rfl)]
    by_cases y : e - b = mk_len.getD w 0
    · rw [if_pos (show mkLen w = nI (e - b) by rw [y]; rfl)]
      have := L_w28 (T := T) (r := r) hl (show b + mk_len.getD w 0 ≤ 500 by omega) h3 (mk_len.getD w 0) 600 0 (by omega) (by omega)
      have this' : f_R_isWord_28 r T w 600 0 = _ := this
      rw [this', decide_eq_true z, decide_eq_true y, Bool.true_and, Bool.true_and]
    · rw [if_neg (show ¬ mkLen w = nI (e - b) from eq_f (fun q => y q.symm) (by omega) (by omega)), decide_eq_false y, Bool.false_and, Bool.and_false]
      rfl
  · rw [if_neg (show ¬ nI K = 1 from eq_f (b := 1) z (by omega) (by omega))]
    simp [z]
theorem isW_len {B : Nat → Int32} {tl p w : Nat} (h : isW B tl p w = true) : tEb B tl (tB B tl p) - tB B tl p = mk_len.getD w 0 := by
  unfold isW at h
  simp only [Bool.and_eq_true, decide_eq_true_eq] at h
  exact h.2.1
theorem isW_ne {B : Nat → Int32} {tl p w v : Nat} (h : isW B tl p w = true) (hn : mk_len.getD w 0 ≠ mk_len.getD v 0) : isW B tl p v = false := by
  cases hv : isW B tl p v
  · rfl
  · exact absurd ((isW_len h).symm.trans (isW_len hv)) hn
theorem isW_lt {B : Nat → Int32} {tl p w : Nat} (h : isW B tl p w = true) : tKb B tl (tB B tl p) ≠ 0 := by
  unfold isW at h
  simp only [Bool.and_eq_true, decide_eq_true_eq] at h
  omega
def nx (B : Nat → Int32) (tl p : Nat) : Nat := tEb B tl (tB B tl p)
theorem nx_le {B : Nat → Int32} {tl p : Nat} (h : p ≤ tl) : p ≤ nx B tl p ∧ nx B tl p ≤ tl := by
  have hb := tB_le (B := B) h
  have he := tEb_le (B := B) hb.2
  unfold nx
  omega
theorem nx_lt {B : Nat → Int32} {tl p : Nat} (h : p ≤ tl) (hk : tKb B tl (tB B tl p) ≠ 0) : p < nx B tl p := by
  have hb := tB_le (B := B) h
  have he := (tEb_le (B := B) hb.2).2.2 hk
  unfold nx
  omega
theorem vrel (B : Nat → Int32) : ∀ k a b p, ((a = b ∧ a < 99999) ∨ (99999 ≤ a ∧ b = 99999)) → ((vr B 1000000 k a p = vr B 99999 k b p ∧ vr B 1000000 k a p < 99999) ∨ (99999 ≤ vr B 1000000 k a p ∧ vr B 99999 k b p = 99999))
  | 0, a, b, p, h => h
  | k + 1, a, b, p, h => by
    rw [vr, vr]
    refine vrel B k _ _ (p + 1) ?_
    omega
theorem vr_le (B : Nat → Int32) (M : Nat) : ∀ k v p, v ≤ M → vr B M k v p ≤ M
  | 0, v, p, h => h
  | k + 1, v, p, h => vr_le B M k _ (p + 1) (Nat.min_le_left _ _)
theorem L_nR28 {T : Nat → Nat → Int32} {e : Nat} (lo hi : Int32) (he : e ≤ 500) : ∀ k n p v (r : Nat → Nat → Int32), p + k = e → k < n → (∀ j, p ≤ j → j < e → kd (T 0 j) = 2) → r 4 0 = nI e → r 5 0 = nI v → v ≤ 1000000 → ∃ w, f_R_readNumber_28 T lo hi n (nI p) r = (if (w 5 0) < lo then (f_R_readNumber_99 T lo hi w) else if (w 5 0) ≤ hi then some (1, w) else (f_R_readNumber_99 T lo hi w)) ∧ w 5 0 = nI (vr (T 0) 1000000 k v p) ∧ ∀ j, j ≠ 5 → w j = r j
  | 0, n, p, v, r, hk, hn, hd, h4, h5, hv => by
    obtain ⟨n, rfl, _⟩ := q_fu hn
    rw [f_R_readNumber_28, h4, if_pos (le_t (by omega) (by omega))]
    exact ⟨r, rfl, h5, fun _ _ => rfl⟩
  | k + 1, n, p, v, r, hk, hn, hd, h4, h5, hv => by
    obtain ⟨n, rfl, _⟩ := q_fu hn
    obtain ⟨m, hm, e1, e2⟩ := q_dig (hd p (by omega) (by omega))
    have ev : (nI v * (10 : Int32) + T 0 p) - 48 = nI (10 * v + m) := by
      rw [e1, show nI v * (10 : Int32) = nI (v * 10) from pk_mul v 10, pu_add, show nI (v * 10 + (48 + m)) - 48 = nI (v * 10 + (48 + m) - 48) from pu_sub (b := 48) (by omega)]
      congr 1; omega
    rw [f_R_readNumber_28, h4, if_neg (le_f (by omega) (by omega)), h5, mkAt_ok (by omega) (by omega), ev, pu_one, vr, e2]
    by_cases z : 10 * v + m ≤ 1000000
    · rw [if_pos (show nI (10 * v + m) ≤ 1000000 from le_t (b := 1000000) z (by omega)), Nat.min_eq_right z]
      obtain ⟨w, g1, g2, g3⟩ := L_nR28 (T := T) lo hi he k n (p + 1) (10 * v + m) (upF 5 (nI (10 * v + m)) r) (by omega) (by omega) (fun j a b => hd j (by omega) b) h4 rfl z
      exact ⟨w, g1, g2, fun j hj => by rw [g3 j hj, upF_n hj]⟩
    · rw [if_neg (show ¬ nI (10 * v + m) ≤ 1000000 from le_f (b := 1000000) (by omega) (by omega)), Nat.min_eq_left (by omega)]
      obtain ⟨w, g1, g2, g3⟩ := L_nR28 (T := T) lo hi he k n (p + 1) 1000000 (upF 5 1000000 (upF 5 (nI (10 * v + m)) r)) (by omega) (by omega) (fun j a b => hd j (by omega) b) h4 rfl (by omega)
      exact ⟨w, g1, g2, fun j hj => by rw [g3 j hj, upF_n hj, upF_n hj]⟩
theorem tE_dig {B : Nat → Int32} {tl b : Nat} (h : tKb B tl b = 2) : ∀ j, b ≤ j → j < tEb B tl b → kd (B j) = 2 := by
  intro j h1 h2
  unfold tEb at h2
  rw [h, if_pos (Or.inr rfl)] at h2
  exact gr_in B 2 _ _ j h1 h2
theorem L_readNumber {T r : Nat → Nat → Int32} {tl p lo hi : Nat} (ht : tl ≤ 500) (h1 : T 1 0 = nI tl) (hp : p ≤ tl) (h4 : r 4 0 = nI p) (hlo : lo ≤ 200) (hhi : hi ≤ 200) : ((tKb (T 0) tl (tB (T 0) tl p) = 2 ∧ lo ≤ tVb (T 0) tl (tB (T 0) tl p) ∧ tVb (T 0) tl (tB (T 0) tl p) ≤ hi) → ∃ w, f_R_readNumber r T (nI lo) (nI hi) = some (1, w) ∧ w 5 0 = nI (tVb (T 0) tl (tB (T 0) tl p)) ∧ w 4 0 = nI (nx (T 0) tl p) ∧ w 6 = r 6 ∧ w 7 = r 7 ∧ w 3 0 = nI (tB (T 0) tl p)) ∧ (¬ (tKb (T 0) tl (tB (T 0) tl p) = 2 ∧ lo ≤ tVb (T 0) tl (tB (T 0) tl p) ∧ tVb (T 0) tl (tB (T 0) tl p) ≤ hi) → ∃ w, f_R_readNumber r T (nI lo) (nI hi) = some (0, w) ∧ w 6 0 = (if tKb (T 0) tl (tB (T 0) tl p) = 2 then 2 else 1) ∧ w 7 0 = nI (tB (T 0) tl p)) := by
  obtain ⟨v, g1, ⟨g2, g3, g4⟩, g5⟩ := L_step ht h1 hp h4
  have hb := tB_le (B := T 0) hp
  have he := tEb_le (B := T 0) hb.2
  have hK := tKb_le (T 0) tl (tB (T 0) tl p)
  unfold f_R_readNumber nx
  rw [g1, b1_k, g2, g3]
  generalize tB (T 0) tl p = b at *
  by_cases z : tKb (T 0) tl b = 2
  · obtain ⟨w, f1, f2, f3⟩ := L_nR28 (T := T) (e := tEb (T 0) tl b) (nI lo) (nI hi) (by omega) (tEb (T 0) tl b - b) 600 b 0 (upF 5 0 v) (by omega) (by omega) (tE_dig z) g4 rfl (by omega)
    have hr := vrel (T 0) (tEb (T 0) tl b - b) 0 0 b (Or.inl ⟨rfl, by omega⟩)
    have hv1 := vr_le (T 0) 1000000 (tEb (T 0) tl b - b) 0 b (by omega)
    have eV : tVb (T 0) tl b = vr (T 0) 99999 (tEb (T 0) tl b - b) 0 b := by unfold tVb; rw [if_pos z]
    rw [eV, if_pos z, if_pos (show nI (tKb (T 0) tl b) = 2 by rw [z]; rfl), f1, f2]
    generalize vr (T 0) 1000000 (tEb (T 0) tl b - b) 0 b = x at *
    generalize vr (T 0) 99999 (tEb (T 0) tl b - b) 0 b = y at *
    have no : ∀ w : Nat → Nat → Int32, w 3 = v 3 → ∃ u, f_R_readNumber_99 T (nI lo) (nI hi) w = some (0, u) ∧ u 6 0 = 2 ∧ u 7 0 = nI b := by
      intro w hw
      unfold f_R_readNumber_99 f_R_refuse
      rw [b2_k, if_pos rfl]
      refine ⟨_, rfl, rfl, ?_⟩
      show w 3 0 = nI b
      rw [hw]; exact g3
    constructor
    · rintro ⟨_, c1, c2⟩
      rw [if_neg (lt_f (by omega) (by omega)), if_pos (le_t (by omega) (by omega))]
      refine ⟨w, rfl, by rw [f2]; congr 1; omega, ?_, ?_, ?_, by rw [f3 3 (by decide), upF_n (by decide)]; exact g3⟩
      · rw [f3 4 (by decide)]; exact g4
      · rw [f3 6 (by decide), upF_n (by decide), g5 6 (by decide) (by decide) (by decide)]
      · rw [f3 7 (by decide), upF_n (by decide), g5 7 (by decide) (by decide) (by decide)]
    · intro c
      by_cases c1 : x < lo
      · rw [if_pos (lt_t c1 (by omega))]
        exact no w (by rw [f3 3 (by decide), upF_n (by decide)])
      · rw [if_neg (lt_f (by omega) (by omega)), if_neg (le_f (by omega) (by omega))]
        exact no w (by rw [f3 3 (by decide), upF_n (by decide)])
  · rw [if_neg (show ¬ nI (tKb (T 0) tl b) = 2 from eq_f (b := 2) z (by omega) (by omega)), if_neg z]
    refine ⟨fun c => absurd c.1 z, fun _ => ?_⟩
    unfold f_R_refuse
    rw [b2_k, gZ0]
    exact ⟨_, rfl, rfl, g3⟩
theorem L_readWord {T r : Nat → Nat → Int32} {tl p w : Nat} (ht : tl ≤ 500) (h1 : T 1 0 = nI tl) (hp : p ≤ tl) (h4 : r 4 0 = nI p) (hw : w < 13) : (isW (T 0) tl p w = true → ∃ u, f_R_readWord r T w = some (1, u) ∧ u 4 0 = nI (nx (T 0) tl p) ∧ u 6 = r 6 ∧ u 7 = r 7) ∧ (isW (T 0) tl p w = false → ∃ u, f_R_readWord r T w = some (0, u) ∧ u 6 0 = 1 ∧ u 7 0 = nI (tB (T 0) tl p)) := by
  obtain ⟨v, g1, g2, g5⟩ := L_step ht h1 hp h4
  unfold f_R_readWord f_R_refuse
  rw [g1, b1_k, L_wR ht hp hw g2, b1_k]
  constructor
  · intro h
    rw [h, if_neg (show ¬ (if true = true then (1 : Int32) else 0) = 0 from one0)]
    exact ⟨v, rfl, g2.2.2, g5 6 (by decide) (by decide) (by decide), g5 7 (by decide) (by decide) (by decide)⟩
  · intro h
    rw [h, if_pos (show (if false = true then (1 : Int32) else 0) = 0 from rfl), b2_k, if_pos rfl]
    exact ⟨_, rfl, rfl, g2.2.1⟩
theorem L_readSign {T r : Nat → Nat → Int32} {tl p : Nat} (ht : tl ≤ 500) (h1 : T 1 0 = nI tl) (hp : p ≤ tl) (h4 : r 4 0 = nI p) : (tKb (T 0) tl (tB (T 0) tl p) = 3 → ∃ u, f_R_readSign r T = some (1, u) ∧ u 4 0 = nI (nx (T 0) tl p) ∧ u 6 = r 6 ∧ u 7 = r 7) ∧ (tKb (T 0) tl (tB (T 0) tl p) ≠ 3 → ∃ u, f_R_readSign r T = some (0, u) ∧ u 6 0 = 1 ∧ u 7 0 = nI (tB (T 0) tl p)) := by
  obtain ⟨v, g1, g2, g5⟩ := L_step ht h1 hp h4
  have hK := tKb_le (T 0) tl (tB (T 0) tl p)
  unfold f_R_readSign f_R_refuse
  rw [g1, b1_k, g2.1]
  constructor
  · intro h
    rw [if_pos (show nI (tKb (T 0) tl (tB (T 0) tl p)) = 3 by rw [h]; rfl)]
    exact ⟨v, rfl, g2.2.2, g5 6 (by decide) (by decide) (by decide), g5 7 (by decide) (by decide) (by decide)⟩
  · intro h
    rw [if_neg (show ¬ nI (tKb (T 0) tl (tB (T 0) tl p)) = 3 from eq_f (b := 3) h (by omega) (by omega)), b2_k, if_pos rfl]
    exact ⟨_, rfl, rfl, g2.2.1⟩
theorem L_b50 {d : Nat → Nat} {D : Nat → Nat → Int32} (hB : mk_BD d) (hC : mk_CP D d) : ∀ k n i (u : Nat → Nat → Int32), i + k = d 5 → k < n → u 5 0 = nI (d 4) → u 6 0 = nI i → (∀ j, j < d 4 → u 7 j = nI (d (7 + j)) ∧ u 8 j = nI (d (17 + j)) ∧ u 9 j = nI (d (27 + j))) → (∀ j, j < i → u 10 j = nI (d (37 + j)) ∧ u 11 j = nI (d (47 + j))) → ∃ w, f_P_become_50 D n (nI i) u = some w ∧ mk_CP w d
  | 0, n, i, u, hk, hn, h5, h6, h7, h10 => by
    have hd5 : d 5 ≤ 10 := hB.2.2.2.2.2.1
    obtain ⟨n, rfl, _⟩ := q_fu hn
    obtain rfl : i = d 5 := by omega
    obtain ⟨c0, c1, c2, c3, c4, c5, c6, c7, c8⟩ := hC
    rw [f_P_become_50, c6, if_pos (le_t (Nat.le_refl _) (by omega)), c0, c1, c2, c3, c4]
    exact ⟨_, rfl, rfl, rfl, rfl, rfl, rfl, h5, h6, h7, h10⟩
  | k + 1, n, i, u, hk, hn, h5, h6, h7, h10 => by
    have hd5 : d 5 ≤ 10 := hB.2.2.2.2.2.1
    obtain ⟨n, rfl, _⟩ := q_fu hn
    have hC' := hC
    obtain ⟨c0, c1, c2, c3, c4, c5, c6, c7, c8⟩ := hC'
    unfold f_P_become_50 f_P_addNoise
    rw [c6, if_neg (le_f (by omega) (by omega)), mkAt_ok (by omega) (by omega), mkAt_ok (by omega) (by omega), h6, mkPut_ok (by omega) (by omega), mkPut_ok (by omega) (by omega), (c8 i (by omega)).1, (c8 i (by omega)).2, b1_k, pu_one]
    refine L_b50 hB hC k n (i + 1) _ (by omega) (by omega) h5 rfl h7 (fun j hj => ?_)
    show upd (u 10) i _ j = _ ∧ upd (u 11) i _ j = _
    by_cases q : j = i
    · subst q; rw [upd_s, upd_s]; exact ⟨rfl, rfl⟩
    · rw [upd_n q, upd_n q]; exact h10 j (by omega)
theorem L_b6 {d : Nat → Nat} {D : Nat → Nat → Int32} (hB : mk_BD d) (hC : mk_CP D d) : ∀ k n i (u : Nat → Nat → Int32), i + k = d 4 → k < n → u 5 0 = nI i → u 6 0 = nI 0 → (∀ j, j < i → u 7 j = nI (d (7 + j)) ∧ u 8 j = nI (d (17 + j)) ∧ u 9 j = nI (d (27 + j))) → ∃ w, f_P_become_6 D n (nI i) u = some w ∧ mk_CP w d
  | 0, n, i, u, hk, hn, h5, h6, h7 => by
    have hd4 : d 4 ≤ 10 := hB.2.2.2.2.1
    have hd5 : d 5 ≤ 10 := hB.2.2.2.2.2.1
    obtain ⟨n, rfl, _⟩ := q_fu hn
    obtain rfl : i = d 4 := by omega
    rw [f_P_become_6, hC.2.2.2.2.2.1, if_pos (le_t (Nat.le_refl _) (by omega))]
    exact L_b50 hB hC (d 5) 600 0 u (by omega) (by omega) h5 h6 h7 (fun j hj => by omega)
  | k + 1, n, i, u, hk, hn, h5, h6, h7 => by
    have hd4 : d 4 ≤ 10 := hB.2.2.2.2.1
    obtain ⟨n, rfl, _⟩ := q_fu hn
    have hC' := hC
    obtain ⟨c0, c1, c2, c3, c4, c5, c6, c7, c8⟩ := hC'
    unfold f_P_become_6 f_P_addSender
    rw [c5, if_neg (le_f (by omega) (by omega)), mkAt_ok (by omega) (by omega), mkAt_ok (by omega) (by omega), mkAt_ok (by omega) (by omega), h5, mkPut_ok (by omega) (by omega), mkPut_ok (by omega) (by omega), mkPut_ok (by omega) (by omega), (c7 i (by omega)).1, (c7 i (by omega)).2.1, (c7 i (by omega)).2.2, b1_k, pu_one]
    refine L_b6 hB hC k n (i + 1) _ (by omega) (by omega) rfl h6 (fun j hj => ?_)
    show upd (u 7) i _ j = _ ∧ upd (u 8) i _ j = _ ∧ upd (u 9) i _ j = _
    by_cases q : j = i
    · subst q; rw [upd_s, upd_s, upd_s]; exact ⟨rfl, rfl, rfl⟩
    · rw [upd_n q, upd_n q, upd_n q]; exact h7 j (by omega)
theorem L_become {d : Nat → Nat} {u D : Nat → Nat → Int32} (hB : mk_BD d) (hC : mk_CP D d) : ∃ w, f_P_become u D = some w ∧ mk_CP w d := by
  have hd4 : d 4 ≤ 10 := hB.2.2.2.2.1
  unfold f_P_become f_P_clear
  rw [b1_k]
  exact L_b6 hB hC (d 4) 600 0 _ (by omega) (by omega) rfl rfl (fun j hj => by omega)
