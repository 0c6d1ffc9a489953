/-! pure: the tokens, on both sides -/
def kd28 (c : Int32) : Nat := if c = 59 then 3 else 4
def kd14 (c : Int32) : Nat := if c < 48 then kd28 c else if (57 : Int32) < c then kd28 c else 2
def kd (c : Int32) : Nat := if c < 97 then kd14 c else if (122 : Int32) < c then kd14 c else 1
theorem q_kd (c : Int32) : f_R_kindOf c = some (nI (kd c)) := by
  unfold f_R_kindOf f_R_kindOf_14 f_R_kindOf_28 kd kd14 kd28
  repeat' split
  all_goals rfl
theorem kd_ch (c : Int32) : (kd c = 1 ↔ ¬ c < 97 ∧ ¬ (122 : Int32) < c) ∧ (kd c = 2 ↔ ¬ c < 48 ∧ ¬ (57 : Int32) < c) ∧ (kd c = 3 ↔ c = 59) ∧ 1 ≤ kd c ∧ kd c ≤ 4 := by
  unfold kd kd14 kd28
  simp only [Int32.lt_iff_toInt_lt, ← Int32.toInt_inj]
  rw [show (97 : Int32).toInt = 97 from rfl, show (122 : Int32).toInt = 122 from rfl, show (48 : Int32).toInt = 48 from rfl, show (57 : Int32).toInt = 57 from rfl, show (59 : Int32).toInt = 59 from rfl]
  generalize c.toInt = i
  refine ⟨?_, ?_, ?_, ?_, ?_⟩
  all_goals repeat' split
  all_goals omega
def blk (c : Int32) : Bool := decide (c = 32) || decide (c = 10)
theorem q_blk (c : Int32) : f_R_isBlank c = some (if blk c then 1 else 0) := by
  unfold f_R_isBlank blk
  by_cases h : c = 32
  · rw [if_pos h]; simp [h]
  · rw [if_neg h]
    by_cases h2 : c = 10
    · rw [if_pos h2]; simp [h2]
    · rw [if_neg h2]; simp [h, h2]
def sk (B : Nat → Int32) : Nat → Nat → Nat
  | 0, p => p
  | k + 1, p => if blk (B p) then sk B k (p + 1) else p
def gr (B : Nat → Int32) (K : Nat) : Nat → Nat → Nat
  | 0, p => p
  | k + 1, p => if kd (B p) = K then gr B K k (p + 1) else p
def dg (c : Int32) : Nat := c.toNatClampNeg - 48
def vr (B : Nat → Int32) (M : Nat) : Nat → Nat → Nat → Nat
  | 0, v, _ => v
  | k + 1, v, p => vr B M k (min M (10 * v + dg (B p))) (p + 1)
def tKb (B : Nat → Int32) (tl b : Nat) : Nat := if b < tl then kd (B b) else 0
def tEb (B : Nat → Int32) (tl b : Nat) : Nat := if tKb B tl b = 1 ∨ tKb B tl b = 2 then gr B (tKb B tl b) (tl - b) b else if tKb B tl b = 0 then b else b + 1
def tVb (B : Nat → Int32) (tl b : Nat) : Nat := if tKb B tl b = 2 then vr B 99999 (tEb B tl b - b) 0 b else 0
def tB (B : Nat → Int32) (tl p : Nat) : Nat := sk B (tl - p) p
theorem sk_le (B : Nat → Int32) : ∀ k p, p ≤ sk B k p ∧ sk B k p ≤ p + k
  | 0, p => ⟨Nat.le_refl _, Nat.le_refl _⟩
  | k + 1, p => by
    have := sk_le B k (p + 1)
    rw [sk]
    split
    · omega
    · omega
theorem gr_le (B : Nat → Int32) (K : Nat) : ∀ k p, p ≤ gr B K k p ∧ gr B K k p ≤ p + k
  | 0, p => ⟨Nat.le_refl _, Nat.le_refl _⟩
  | k + 1, p => by
    have := gr_le B K k (p + 1)
    rw [gr]
    split
    · omega
    · omega
theorem gr_in (B : Nat → Int32) (K : Nat) : ∀ k p j, p ≤ j → j < gr B K k p → kd (B j) = K
  | 0, p, j, h1, h2 => by
    rw [gr] at h2; omega
  | k + 1, p, j, h1, h2 => by
    rw [gr] at h2
    by_cases q : kd (B p) = K
    · rw [if_pos q] at h2
      by_cases z : j = p
      · subst z; exact q
      · exact gr_in B K k (p + 1) j (by omega) h2
    · rw [if_neg q] at h2; omega
theorem tB_le {B : Nat → Int32} {tl p : Nat} (h : p ≤ tl) : p ≤ tB B tl p ∧ tB B tl p ≤ tl := by
  have := sk_le B (tl - p) p
  unfold tB
  omega
theorem tKb_le (B : Nat → Int32) (tl b : Nat) : tKb B tl b ≤ 4 := by
  unfold tKb
  split
  · exact (kd_ch _).2.2.2.2
  · omega
theorem tKb_lt {B : Nat → Int32} {tl b : Nat} (h : tKb B tl b ≠ 0) : b < tl := by
  unfold tKb at h
  split at h
  · assumption
  · exact absurd rfl h
theorem tKb_0 {B : Nat → Int32} {tl b : Nat} (h : b < tl) : tKb B tl b ≠ 0 := by
  unfold tKb
  rw [if_pos h]
  have := (kd_ch (B b)).2.2.2.1
  omega
theorem tEb_le {B : Nat → Int32} {tl b : Nat} (hb : b ≤ tl) : b ≤ tEb B tl b ∧ tEb B tl b ≤ tl ∧ (tKb B tl b ≠ 0 → b < tEb B tl b) := by
  have g := gr_le B (tKb B tl b) (tl - b) b
  unfold tEb
  split
  · rename_i h
    have hlt : b < tl := tKb_lt (B := B) (by omega)
    refine ⟨by omega, by omega, fun _ => ?_⟩
    obtain ⟨k, hk⟩ : ∃ k, tl - b = k + 1 := ⟨tl - b - 1, by omega⟩
    rw [hk, gr]
    have e : kd (B b) = tKb B tl b := by unfold tKb; rw [if_pos hlt]
    rw [if_pos e]
    have := gr_le B (tKb B tl b) k (b + 1)
    omega
  · split
    · rename_i h0; exact ⟨Nat.le_refl _, hb, fun h => absurd h0 h⟩
    · rename_i h0
      have := tKb_lt h0
      exact ⟨by omega, by omega, fun _ => by omega⟩
/-- the class's step -/
theorem L_sk {T : Nat → Nat → Int32} {tl : Nat} (ht : tl ≤ 500) (h1 : T 1 0 = nI tl) : ∀ k n p (r : Nat → Nat → Int32), p + k = tl → k < n → r 3 0 = nI p → ∃ w, f_R_step_8 T n r = f_R_step_55 T w ∧ w 3 0 = nI (sk (T 0) k p) ∧ ∀ j, j ≠ 3 → w j = r j
  | 0, n, p, r, hk, hn, h3 => by
    obtain ⟨n, rfl, _⟩ := q_fu hn
    rw [f_R_step_8, h1, h3, if_pos (le_t (by omega) (by omega))]
    exact ⟨r, rfl, h3, fun _ _ => rfl⟩
  | k + 1, n, p, r, hk, hn, h3 => by
    obtain ⟨n, rfl, _⟩ := q_fu hn
    rw [f_R_step_8, h1, h3, if_neg (le_f (by omega) (by omega)), mkAt_ok (by omega) (by omega), q_blk, b1_k, sk, pu_one]
    cases hb : blk (T 0 p)
    · rw [if_pos (show (if false = true then (1 : Int32) else 0) = 0 from rfl)]
      exact ⟨r, rfl, h3, fun _ _ => rfl⟩
    · rw [if_neg (show ¬ (if true = true then (1 : Int32) else 0) = 0 from one0)]
      obtain ⟨w, g1, g2, g3⟩ := L_sk ht h1 k n (p + 1) (upF 3 (nI (p + 1)) r) (by omega) (by omega) rfl
      exact ⟨w, g1, g2, fun j hj => by rw [g3 j hj, upF_n hj]⟩
theorem L_gr {T : Nat → Nat → Int32} {tl K : Nat} (ht : tl ≤ 500) (h1 : T 1 0 = nI tl) (hK : K ≤ 4) : ∀ k n p (r : Nat → Nat → Int32), p + k = tl → k < n → r 4 0 = nI p → r 2 0 = nI K → ∃ w, f_R_step_136 T n 1 r = some w ∧ w 4 0 = nI (gr (T 0) K k p) ∧ ∀ j, j ≠ 4 → w j = r j
  | 0, n, p, r, hk, hn, h4, h2 => by
    obtain ⟨n, rfl, _⟩ := q_fu hn
    rw [f_R_step_136, if_neg one0, h1, h4, if_pos (le_t (by omega) (by omega))]
    exact ⟨r, rfl, h4, fun _ _ => rfl⟩
  | k + 1, n, p, r, hk, hn, h4, h2 => by
    obtain ⟨n, rfl, _⟩ := q_fu hn
    have hd := (kd_ch (T 0 p)).2.2.2.2
    rw [f_R_step_136, if_neg one0, h1, h4, if_neg (le_f (by omega) (by omega)), mkAt_ok (by omega) (by omega), q_kd, b1_k, h2, gr, pu_one]
    by_cases q : kd (T 0 p) = K
    · rw [if_pos q, if_pos (by rw [q])]
      obtain ⟨w, g1, g2, g3⟩ := L_gr ht h1 hK k n (p + 1) (upF 4 (nI (p + 1)) r) (by omega) (by omega) rfl h2
      exact ⟨w, g1, g2, fun j hj => by rw [g3 j hj, upF_n hj]⟩
    · rw [if_neg q, if_neg (eq_f q (by omega) (by omega))]
      exact ⟨r, rfl, h4, fun _ _ => rfl⟩
/-- what stands in the class's reader at a token -/
def TR (B : Nat → Int32) (tl p : Nat) (r : Nat → Nat → Int32) : Prop := r 2 0 = nI (tKb B tl (tB B tl p)) ∧ r 3 0 = nI (tB B tl p) ∧ r 4 0 = nI (tEb B tl (tB B tl p))
theorem L_step {T r : Nat → Nat → Int32} {tl p : Nat} (ht : tl ≤ 500) (h1 : T 1 0 = nI tl) (hp : p ≤ tl) (h4 : r 4 0 = nI p) : ∃ w, f_R_step r T = some w ∧ TR (T 0) tl p w ∧ ∀ j, j ≠ 2 → j ≠ 3 → j ≠ 4 → w j = r j := by
  unfold f_R_step
  rw [h4]
  obtain ⟨v, g1, g2, g3⟩ := L_sk ht h1 (tl - p) 600 p (upF 3 (nI p) r) (by omega) (by omega) rfl
  have hb := tB_le (B := T 0) hp
  have e : sk (T 0) (tl - p) p = tB (T 0) tl p := rfl
  rw [e] at g2
  rw [g1]
  unfold f_R_step_55 TR
  generalize tB (T 0) tl p = b at *
  rw [g2, h1]
  have rest : ∀ w : Nat → Nat → Int32, (∀ j, j ≠ 2 → j ≠ 4 → w j = v j) → ∀ j, j ≠ 2 → j ≠ 3 → j ≠ 4 → w j = r j := fun w hw j a b c => by rw [hw j a c, g3 j b, upF_n b]
  by_cases q : b < tl
  · rw [if_pos (lt_t q (by omega)), mkAt_ok (by omega) (by omega), q_kd, b1_k, pu_one]
    have eK : tKb (T 0) tl b = kd (T 0 b) := if_pos q
    obtain ⟨k1, k2, k3, k4, k5⟩ := kd_ch (T 0 b)
    have run : (kd (T 0 b) = 1 ∨ kd (T 0 b) = 2) → ∃ w, f_R_step_136 T 600 1 (upF 4 (nI (b + 1)) (upF 2 (nI (kd (T 0 b))) (upF 4 (nI b) v))) = some w ∧ (w 2 0 = nI (tKb (T 0) tl b) ∧ w 3 0 = nI b ∧ w 4 0 = nI (tEb (T 0) tl b)) ∧ ∀ j, j ≠ 2 → j ≠ 3 → j ≠ 4 → w j = r j := by
      intro hk
      obtain ⟨w, f1, f2, f3⟩ := L_gr (K := kd (T 0 b)) ht h1 k5 (tl - (b + 1)) 600 (b + 1) (upF 4 (nI (b + 1)) (upF 2 (nI (kd (T 0 b))) (upF 4 (nI b) v))) (by omega) (by omega) rfl rfl
      refine ⟨w, f1, ⟨?_, ?_, ?_⟩, rest w (fun j a c => by rw [f3 j c, upF_n c, upF_n a, upF_n c])⟩
      · rw [f3 2 (by decide), eK]; rfl
      · rw [f3 3 (by decide)]; exact g2
      · rw [f2]
        unfold tEb
        rw [eK, if_pos hk, show tl - b = tl - (b + 1) + 1 by omega, gr, if_pos rfl]
    by_cases z1 : kd (T 0 b) = 1
    · rw [if_pos (show nI (kd (T 0 b)) = 1 by rw [z1]; rfl)]
      exact run (Or.inl z1)
    rw [if_neg (show ¬ nI (kd (T 0 b)) = 1 from eq_f (b := 1) z1 (by omega) (by omega))]
    by_cases z2 : kd (T 0 b) = 2
    · rw [if_pos (show nI (kd (T 0 b)) = 2 by rw [z2]; rfl)]
      exact run (Or.inr z2)
    rw [if_neg (show ¬ nI (kd (T 0 b)) = 2 from eq_f (b := 2) z2 (by omega) (by omega)), f_R_step_136, if_pos rfl]
    refine ⟨_, rfl, ⟨?_, g2, ?_⟩, rest _ (fun j a c => by rw [upF_n c, upF_n a, upF_n c])⟩
    · rw [eK]; rfl
    · unfold tEb
      rw [eK, if_neg (by omega), if_neg (by omega)]; rfl
  · rw [if_neg (lt_f (by omega) (by omega))]
    have eK : tKb (T 0) tl b = 0 := if_neg q
    refine ⟨_, rfl, ⟨?_, g2, ?_⟩, rest _ (fun j a c => by rw [upF_n a, upF_n c])⟩
    · rw [eK]; rfl
    · unfold tEb
      rw [eK, if_neg (by omega), if_pos rfl]; rfl
