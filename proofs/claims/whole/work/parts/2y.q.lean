/-! pure: fractions of longs on both sides -/
def fo {α : Type} (n : Nat) (k : Nat → α) : α := match n with | 0 => k 0 | m + 1 => k (m + 1)
theorem fo_eq {α : Type} (n : Nat) (k : Nat → α) : fo n k = k n := by cases n <;> rfl
def eu : Nat → Nat → Nat → Option Nat
  | 0, _, _ => none
  | n + 1, a, b => if b = 0 then some a else eu n b (a % b)
def gc_ (a b : Nat) : Option Nat := if a < 2 ^ 63 then (if b < 2 ^ 63 then b1 (eu 100 a b) (fun g => if g = 0 then none else some g) else none) else none
def e_is (a b : Nat) : Option (Nat × Nat) := fo a (fun a => fo b (fun b => b1 (gc_ a b) (fun g => fo (a / g) (fun p => fo (b / g) (fun q => some (p, q))))))
def e_ad (A B a b : Nat) : Option (Nat × Nat) := b1 (gc_ B b) (fun c => e_is (A * (b / c) + a * (B / c)) (B / c * b))
def e_ti (A B a b : Nat) : Option (Nat × Nat) := b1 (gc_ a B) (fun x => b1 (gc_ A b) (fun y => e_is (A / y * (a / x)) (B / x * (b / y))))
theorem eu_lt {M : Nat} : ∀ n a b g, eu n a b = some g → a < M → b < M → g < M
  | 0, _, _, _, h, _, _ => nomatch h
  | n + 1, a, b, g, h, ha, hb => by
    rw [eu] at h
    by_cases q : b = 0
    · rw [if_pos q] at h; injection h with h; omega
    · rw [if_neg q] at h
      exact eu_lt n b (a % b) g h hb (Nat.lt_trans (Nat.mod_lt _ (by omega)) hb)
theorem q_l0 {b : Nat} (h : b < 2 ^ 63) (h0 : b ≠ 0) : ¬ lN b = 0 := fun q => h0 ((pk_lEQ h (by decide)).mp (show lN b = lN 0 from q))
theorem q_cX : ∀ n a b g, eu n a b = some g → a < 2 ^ 63 → b < 2 ^ 63 → f_X_common n (lN a) (lN b) = some (lN g)
  | 0, _, _, _, h, _, _ => nomatch h
  | n + 1, a, b, g, h, ha, hb => by
    rw [eu] at h
    rw [f_X_common]
    by_cases q : b = 0
    · rw [if_pos q] at h; injection h with h
      subst h; subst q
      rw [if_pos (show lN 0 = 0 from rfl)]
    · rw [if_neg q] at h
      rw [if_neg (q_l0 hb q), pk_lRem ha (by omega) hb]
      exact q_cX n b (a % b) g h hb (Nat.lt_trans (Nat.mod_lt _ (by omega)) hb)
theorem gNL_ok {α : Type} {b : Nat} {k : Option α} (h : b < 2 ^ 63) (h0 : b ≠ 0) : gNL (lN b) k = k := by
  unfold gNL
  rw [if_neg (q_l0 h h0)]
theorem q_cM (p q : Int64) : ∀ n m i a b g, eu n a b = some g → a < 2 ^ 63 → b < 2 ^ 63 → n + i ≤ 100 → n ≤ m → f_M_common_9 p q m (lN a) (lN b) (nI i) = some (lN g)
  | 0, _, _, _, _, _, h, _, _, _, _ => nomatch h
  | n + 1, m, i, a, b, g, h, ha, hb, hi, hm => by
    obtain ⟨m, rfl, hm'⟩ := q_fu (show n < m by omega)
    rw [eu] at h
    rw [f_M_common_9, if_neg (show ¬ (100 : Int32) ≤ nI i from le_f (a := 100) (by omega) (by omega))]
    by_cases q : b = 0
    · rw [if_pos q] at h; injection h with h
      subst h; subst q
      rw [if_pos ((lg_cmp_eq _ _).mpr (show lN 0 = 0 from rfl))]
    · rw [if_neg q] at h
      rw [if_neg (fun z => q_l0 hb q ((lg_cmp_eq _ _).mp z)), gNL_ok hb q, pk_lRem ha (by omega) hb, pu_one]
      exact q_cM _ _ n m (i + 1) b (a % b) g h hb (Nat.lt_trans (Nat.mod_lt _ (by omega)) hb) (by omega) (by omega)
theorem gc_X {a b g : Nat} (h : gc_ a b = some g) : a < 2 ^ 63 ∧ b < 2 ^ 63 ∧ 0 < g ∧ g < 2 ^ 63 ∧ f_X_common 100 (lN a) (lN b) = some (lN g) ∧ f_M_common (lN a) (lN b) = some (lN g) := by
  unfold gc_ at h
  by_cases ha : a < 2 ^ 63
  · rw [if_pos ha] at h
    by_cases hb : b < 2 ^ 63
    · rw [if_pos hb] at h
      obtain ⟨g', e1, e2⟩ := b1_some h
      by_cases q : g' = 0
      · rw [if_pos q] at e2; exact nomatch e2
      · rw [if_neg q] at e2
        injection e2 with e2
        subst e2
        exact ⟨ha, hb, by omega, eu_lt _ _ _ _ e1 ha hb, q_cX _ _ _ _ e1 ha hb, q_cM _ _ _ 600 0 _ _ _ e1 ha hb (by omega) (by omega)⟩
    · rw [if_neg hb] at h; exact nomatch h
  · rw [if_neg ha] at h; exact nomatch h
theorem q_abs {a : Nat} (h : a < 2 ^ 63) : (if (-(lN a)) < lN a then lN a else (-(lN a))) = lN a := by
  by_cases q : a = 0
  · subst q; decide
  · rw [if_pos]
    rw [Int64.lt_iff_toInt_lt, Int64.toInt_neg, pk_lT h, Int.bmod]
    split <;> omega
theorem e_is_eq (a b : Nat) : e_is a b = b1 (gc_ a b) (fun g => some (a / g, b / g)) := by
  unfold e_is
  rw [fo_eq, fo_eq]
  congr 1
  funext g
  rw [fo_eq, fo_eq]
theorem e_is_some {a b p q : Nat} (h : e_is a b = some (p, q)) : ∃ g, gc_ a b = some g ∧ p = a / g ∧ q = b / g := by
  rw [e_is_eq] at h
  obtain ⟨g, e1, e2⟩ := b1_some h
  injection e2 with e2
  injection e2 with e3 e4
  exact ⟨g, e1, e3.symm, e4.symm⟩
theorem L_is {a b p q : Nat} (h : e_is a b = some (p, q)) (u : Nat → Nat → Int64) : f_X_is_ u (lN a) (lN b) = some (upF 42 (lN q) (upF 41 (lN p) u)) := by
  obtain ⟨g, e, rfl, rfl⟩ := e_is_some h
  obtain ⟨ha, hb, g0, hg, e1, _⟩ := gc_X e
  unfold f_X_is_
  rw [q_abs ha, e1, b1_k, gNL_ok hg (by omega), pk_lDiv hb g0 hg, pk_lDiv ha g0 hg]
theorem L_ad {A B a b p q : Nat} (h : e_ad A B a b = some (p, q)) (u : Nat → Nat → Int64) (h1 : u 41 0 = lN A) (h2 : u 42 0 = lN B) : f_X_adds u (lN a) (lN b) = some (upF 42 (lN q) (upF 41 (lN p) u)) := by
  unfold e_ad at h
  obtain ⟨c, e, e'⟩ := b1_some h
  obtain ⟨hB, hb, g0, hg, e1, _⟩ := gc_X e
  unfold f_X_adds
  rw [h1, h2, e1, b1_k, gNL_ok hg (by omega), pk_lDiv hb g0 hg, pk_lDiv hB g0 hg, lN_mul, lN_mul, lN_mul, lN_add, L_is e', b1_k]
theorem L_ti {A B a b p q : Nat} (h : e_ti A B a b = some (p, q)) (u : Nat → Nat → Int64) (h1 : u 41 0 = lN A) (h2 : u 42 0 = lN B) : f_X_times u (lN a) (lN b) = some (upF 42 (lN q) (upF 41 (lN p) u)) := by
  unfold e_ti at h
  obtain ⟨x, e, h⟩ := b1_some h
  obtain ⟨y, f, e'⟩ := b1_some h
  obtain ⟨ha, hB, g0, hg, e1, _⟩ := gc_X e
  obtain ⟨hA, hb, k0, hk, f1, _⟩ := gc_X f
  unfold f_X_times
  rw [h1, h2, q_abs ha, e1, b1_k, q_abs hA, f1, b1_k, gNL_ok hk (by omega), gNL_ok hg (by omega), pk_lDiv hA k0 hk, pk_lDiv ha g0 hg, pk_lDiv hB g0 hg, pk_lDiv hb k0 hk, lN_mul, lN_mul, L_is e', b1_k]
theorem q_lle {g : Nat} (h0 : 0 < g) (hg : g < 2 ^ 63) : ¬ lg_cmp (lN g) 0 ≤ 0 := by
  rw [lg_cmp_le]
  intro q
  have := (pk_lLE hg (by decide)).mp (show lN g ≤ lN 0 from q)
  omega
theorem L_set {a b p q : Nat} (h : e_is a b = some (p, q)) (u : Nat → Nat → Int64) : f_M_set u (lN a) (lN b) = some (upF 4 (lN q) (upF 3 (lN p) u)) := by
  obtain ⟨g, e, rfl, rfl⟩ := e_is_some h
  obtain ⟨ha, hb, g0, hg, _, e1⟩ := gc_X e
  unfold f_M_set f_M_set_23 f_M_set_42
  rw [e1, b1_k, if_neg (q_lle g0 hg), gNL_ok hg (by omega), if_neg (q_lle g0 hg), gNL_ok hg (by omega), pk_lDiv hb g0 hg, pk_lDiv ha g0 hg]
theorem L_pl {A B a b p q : Nat} (h : e_ad A B a b = some (p, q)) (u : Nat → Nat → Int64) (h1 : u 3 0 = lN A) (h2 : u 4 0 = lN B) : f_M_plus u (lN a) (lN b) = some (upF 4 (lN q) (upF 3 (lN p) u)) := by
  unfold e_ad at h
  obtain ⟨c, e, e'⟩ := b1_some h
  obtain ⟨hB, hb, g0, hg, _, e1⟩ := gc_X e
  unfold f_M_plus
  rw [h1, h2, e1, b1_k, if_neg (q_lle g0 hg), gNL_ok hg (by omega), pk_lDiv hb g0 hg, pk_lDiv hB g0 hg, lN_mul, lN_mul, lN_mul, lN_add, L_set e', b1_k]
/-! powers, choices -/
def ch : Nat → Nat → Nat
  | _, 0 => 1
  | 0, _ + 1 => 0
  | n + 1, k + 1 => ch n k + ch n (k + 1)
theorem q_ch : ∀ m, m < 9 → ∀ k, k < 9 → k ≤ m → f_X_choose (nI m) (nI k) = some (lN (ch m k)) ∧ f_M_choose (nI m) (nI k) = some (lN (ch m k)) := by decide +kernel
theorem q_powX {a n : Nat} (hn : n < 500) : ∀ k f i, i + k = n → k < f → f_X_power_5 (lN a) (nI n) f (lN (a ^ i)) (nI i) = some (lN (a ^ n))
  | 0, f, i, hk, hf => by
    obtain ⟨f, rfl, _⟩ := q_fu hf
    obtain rfl : i = n := by omega
    rw [f_X_power_5, if_pos (le_t (Nat.le_refl _) (by omega))]
  | k + 1, f, i, hk, hf => by
    obtain ⟨f, rfl, _⟩ := q_fu hf
    rw [f_X_power_5, if_neg (le_f (by omega) (by omega)), pu_one, lN_mul, ← Nat.pow_succ]
    exact q_powX hn k f (i + 1) (by omega) (by omega)
theorem q_powM {a n : Nat} (hn : n < 500) : ∀ k f i, i + k = n → k < f → f_M_power_5 (lN a) (nI n) f (lN (a ^ i)) (nI i) = some (lN (a ^ n))
  | 0, f, i, hk, hf => by
    obtain ⟨f, rfl, _⟩ := q_fu hf
    obtain rfl : i = n := by omega
    rw [f_M_power_5, if_pos (le_t (Nat.le_refl _) (by omega))]
  | k + 1, f, i, hk, hf => by
    obtain ⟨f, rfl, _⟩ := q_fu hf
    rw [f_M_power_5, if_neg (le_f (by omega) (by omega)), pu_one, lN_mul, ← Nat.pow_succ]
    exact q_powM hn k f (i + 1) (by omega) (by omega)
theorem L_powX (a : Nat) {n : Nat} (hn : n < 500) : f_X_power (lN a) (nI n) = some (lN (a ^ n)) := q_powX hn n 600 0 (by omega) (by omega)
theorem L_powM (a : Nat) {n : Nat} (hn : n < 500) : f_M_power (lN a) (nI n) = some (lN (a ^ n)) := q_powM hn n 600 0 (by omega) (by omega)
theorem mkAtL_ok {n a : Nat} {f : Nat → Int64} (h : a < n) (hn : n < 2 ^ 31) : mkAtL n f (nI a) = f a := by
  unfold mkAtL
  rw [if_pos (nI_pos' (by omega)), if_pos (nI_lt h hn), nI_clamp (by omega)]
theorem mkPutL_ok {n a : Nat} {f : Nat → Int64} {v : Int64} (h : a < n) (hn : n < 2 ^ 31) : mkPutL n f (nI a) v = vp_updL f a v := by
  unfold mkPutL
  rw [if_pos (nI_pos' (by omega)), if_pos (nI_lt h hn), nI_clamp (by omega)]
theorem updL_s {f : Nat → Int64} {k : Nat} {x : Int64} : vp_updL f k x k = x := pk_uLs
theorem updL_n {f : Nat → Int64} {k j : Nat} {x : Int64} (h : j ≠ k) : vp_updL f k x j = f j := pk_uLn h
/-! means: the class's -/
def e_m53 (m a b : Nat) (A B : Nat → Nat) : Nat → Nat → Nat → Nat → Option (Nat × Nat)
  | 0, _, _, _ => none
  | n + 1, k, s, t => if m ≤ k then e_is s (t * (b ^ m - (b - a) ^ m - a ^ m)) else b2 (e_ad s t (ch m k * a ^ k * (b - a) ^ (m - k) * A k) (B k)) (fun s t => b2 (e_ad s t (ch m k * a ^ k * (b - a) ^ (m - k) * A (m - k)) (B (m - k))) (fun s t => e_m53 m a b A B n (k + 1) s t))
def e_m (l m a b : Nat) (A B : Nat → Nat) : Option (Nat × Nat) := b2 (e_is (b ^ m + a ^ m + (if l = 1 then 0 else (b - a) ^ m)) 1) (fun s t => e_m53 m a b A B 600 1 s t)
theorem L_m53 {m a b : Nat} {A B : Nat → Nat} {p q : Nat} (p1 : Int32) (hm : m < 9) (hab : a ≤ b) (hb5 : b < 100) (hs1 : (b - a) ^ m ≤ b ^ m) (hs2 : a ^ m ≤ b ^ m - (b - a) ^ m) : ∀ n k s t (u : Nat → Nat → Int64), e_m53 m a b A B n k s t = some (p, q) → 1 ≤ k → k ≤ m → u 3 0 = lN s → u 4 0 = lN t → (∀ i, i < m → u 0 i = lN (A i) ∧ u 1 i = lN (B i)) → ∃ w, f_M_reckonSplit_53 p1 (nI m) (nI a) (nI b) n (lN (b ^ m)) (lN ((b - a) ^ m)) (lN (a ^ m)) (nI k) u = some w ∧ w 3 0 = lN p ∧ w 4 0 = lN q ∧ w 0 = u 0 ∧ w 1 = u 1
  | 0, _, _, _, _, h, _, _, _, _, _ => nomatch h
  | n + 1, k, s, t, u, h, hk1, hkm, h3, h4, hA => by
    rw [e_m53] at h
    rw [f_M_reckonSplit_53]
    by_cases z : m ≤ k
    · rw [if_pos z] at h
      rw [if_pos (le_t z (by omega)), h3, h4, lN_sub hs1, lN_sub hs2, lN_mul, L_set h, b1_k]
      exact ⟨_, rfl, rfl, rfl, rfl, rfl⟩
    · rw [if_neg z] at h
      obtain ⟨s1, t1, e1, h⟩ := b2_some h
      obtain ⟨s2, t2, e2, h⟩ := b2_some h
      obtain ⟨a1, a2⟩ := hA k (by omega)
      obtain ⟨a3, a4⟩ := hA (m - k) (by omega)
      rw [if_neg (le_f (by omega) (by omega)), (q_ch m hm k (by omega) (by omega)).2, b1_k, nI_l (n := a) (by omega), L_powM a (by omega), b1_k, pu_sub hab, nI_l (n := b - a) (by omega), pu_sub (show k ≤ m by omega), L_powM (b - a) (by omega), b1_k, mkAtL_ok (by omega) (by omega), mkAtL_ok (by omega) (by omega), a1, a2, lN_mul, lN_mul, lN_mul, L_pl e1 u h3 h4, b1_k, mkAtL_ok (by omega) (by omega), mkAtL_ok (by omega) (by omega)]
      rw [show upF 4 (lN t1) (upF 3 (lN s1) u) 0 = u 0 from rfl, show upF 4 (lN t1) (upF 3 (lN s1) u) 1 = u 1 from rfl, a3, a4, lN_mul, L_pl e2 _ rfl rfl, b1_k, pu_one]
      exact L_m53 p1 hm hab hb5 hs1 hs2 n (k + 1) s2 t2 _ h (by omega) (by omega) rfl rfl hA
