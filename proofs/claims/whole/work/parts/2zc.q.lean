/-! chances: the class's whole numbers, the reference's fractions -/
def sm (f : Nat → Nat) : Nat → Nat
  | 0 => 0
  | n + 1 => sm f n + f n
def tW0 : Nat → Nat := tbl_ [0, 8, 0, 0, 0, 0, 0, 0, 0, 0, 0, 0, 0, 0, 8, 0, 0, 0, 0, 0, 0, 0, 0, 0, 0, 0, 0, 0, 0, 256, 0, 8192, 0, 262144, 0, 8388608, 0, 268435456, 0, 0, 0, 0, 0, 0, 12288, 0, 589824, 0, 22020096, 0, 754974720, 0]
def tP0 : Nat → Nat := tbl_ [0, 1, 0, 0, 0, 0, 0, 0, 0, 0, 0, 0, 0, 0, 1, 0, 0, 0, 0, 0, 0, 0, 0, 0, 0, 0, 0, 0, 0, 1, 0, 1, 0, 1, 0, 1, 0, 1, 0, 0, 0, 0, 0, 0, 3, 0, 9, 0, 21, 0, 45, 0]
def tQ0 : Nat → Nat := tbl_ [1, 1, 1, 1, 1, 1, 1, 1, 1, 1, 1, 1, 1, 1, 1, 1, 1, 1, 1, 1, 1, 1, 1, 1, 1, 1, 1, 1, 1, 2, 1, 4, 1, 8, 1, 16, 1, 32, 1, 1, 1, 1, 1, 1, 8, 1, 32, 1, 128, 1, 512, 1]
def tW1 : Nat → Nat := tbl_ [0, 8, 0, 0, 0, 0, 0, 0, 0, 0, 0, 0, 0, 0, 8, 0, 0, 0, 0, 0, 0, 0, 0, 0, 0, 0, 0, 0, 0, 256, 512, 5120, 18432, 118784, 532480, 2965504, 14450688, 76349440, 383909888, 0, 0, 0, 0, 0, 12288, 36864, 380928, 1560576, 10309632, 48353280, 273174528, 1353633792]
def tP1 : Nat → Nat := tbl_ [0, 1, 0, 0, 0, 0, 0, 0, 0, 0, 0, 0, 0, 0, 1, 0, 0, 0, 0, 0, 0, 0, 0, 0, 0, 0, 0, 0, 0, 1, 1, 5, 9, 29, 65, 181, 441, 1165, 2929, 0, 0, 0, 0, 0, 3, 9, 93, 381, 2517, 11805, 66693, 330477]
def tQ1 : Nat → Nat := tbl_ [1, 1, 1, 1, 1, 1, 1, 1, 1, 1, 1, 1, 1, 1, 1, 1, 1, 1, 1, 1, 1, 1, 1, 1, 1, 1, 1, 1, 1, 2, 8, 32, 128, 512, 2048, 8192, 32768, 131072, 524288, 1, 1, 1, 1, 1, 8, 64, 512, 4096, 32768, 262144, 2097152, 16777216]
def bw (W : Nat → Nat) (one two s : Nat) : Nat := sm (fun t => W (13 * one + (t + 1)) * W (13 * two + (s - (t + 1)))) (s - 1)
def gSp (W : Nat → Nat) (l n s k : Nat) : Nat := if k = 0 ∧ l = 1 then ch n k * W (13 * n + (s - 1)) else ch n k * bw W k (n - k) (s - 1)
def e_sw (W : Nat → Nat) (l n s : Nat) : Nat := sm (gSp W l n s) (n + 1) * 2 ^ (3 - n)
def e_c35 (l m t : Nat) (P Q : Nat → Nat) (k e : Nat) : Nat → Nat → Nat → Nat → Option (Nat × Nat)
  | 0, _, _, _ => none
  | n + 1, s, q, i => if t + e ≤ i then some (s, q) else if t - 1 + e - i < 1 then e_c35 l m t P Q k e n s q (i + 1) else if t - 1 + e - i < t then b2 (e_is (P (13 * k + i)) (Q (13 * k + i))) (fun u v => b2 (e_ti u v (P (13 * (m - k) + (t - 1 + e - i))) (Q (13 * (m - k) + (t - 1 + e - i)))) (fun u v => b2 (e_ti u v (ch m k) (2 ^ m)) (fun u v => b2 (e_ad u v s q) (fun s q => e_c35 l m t P Q k e n s q (i + 1))))) else e_c35 l m t P Q k e n s q (i + 1)
def e_c9 (l m t : Nat) (P Q : Nat → Nat) : Nat → Nat → Nat → Nat → Option (Nat × Nat)
  | 0, _, _, _ => none
  | n + 1, s, q, k => if m < k then e_is s q else b2 (e_c35 l m t P Q k (if l = 1 ∧ k = 0 then 1 else 0) 600 s q 1) (fun s q => e_c9 l m t P Q n s q (k + 1))
/-- what the tables must hold -/
def mk_H (l : Nat) (W P Q : Nat → Nat) : Prop := (∀ n, n < 4 → W (13 * n) = 0) ∧ (∀ n, n < 2 → ∀ t, t < 13 → 1 ≤ t → W (13 * n + t) = if t = 1 then 8 else 0) ∧ (∀ n, n < 4 → 2 ≤ n → ∀ t, t < 13 → 1 ≤ t → W (13 * n + t) = e_sw W l n t) ∧ (∀ n, n < 4 → ∀ t, t < 13 → 1 ≤ t → e_is (W (13 * n + t)) (8 ^ t) = some (P (13 * n + t), Q (13 * n + t))) ∧ (∀ n, n < 2 → ∀ t, t < 13 → e_is (if t = 1 then 1 else 0) 1 = some (P (13 * n + t), Q (13 * n + t))) ∧ (∀ n, n < 4 → 2 ≤ n → ∀ t, t < 13 → e_c9 l n t P Q 600 0 1 0 = some (P (13 * n + t), Q (13 * n + t)))
theorem tabH_0 : mk_H 0 tW0 tP0 tQ0 := ⟨by decide +kernel, by decide +kernel, by decide +kernel, by decide +kernel, by decide +kernel, by decide +kernel⟩
theorem tabH_1 : mk_H 1 tW1 tP1 tQ1 := ⟨by decide +kernel, by decide +kernel, by decide +kernel, by decide +kernel, by decide +kernel, by decide +kernel⟩
theorem T_chance {l : Nat} (hl : l ≤ 1) : ∃ W P Q, mk_H l W P Q := by
  have : l = 0 ∨ l = 1 := by omega
  rcases this with rfl | rfl
  · exact ⟨_, _, _, tabH_0⟩
  · exact ⟨_, _, _, tabH_1⟩
