/-! what the law reckons for itself, slot by slot (z25.py) -/
/-- what is heard of b senders in slot t, with the noises from the i-th on -/
def hvN (d : Nat → Nat) (t b : Nat) : Nat → Nat → Nat
  | 0, _ => min 2 b
  | k + 1, i => if d (37 + i) = t then d (47 + i) else hvN d t b k (i + 1)
def cnM (M : Nat → Nat → Bool) (t : Nat) : Nat → Nat
  | 0 => 0
  | i + 1 => cnM M t i + if M t i then 1 else 0
def lsM (M : Nat → Nat → Bool) (t : Nat) : Nat → Int32
  | 0 => -1
  | i + 1 => if M t i then nI i else lsM M t i
def hdM (d : Nat → Nat) (M : Nat → Nat → Bool) (t : Nat) : Nat := hvN d t (cnM M t (d 4)) (d 5) 0
def onM (d : Nat → Nat) (M : Nat → Nat → Bool) (t : Nat) : Bool := decide (cnM M t (d 4) = 1 ∧ hdM d M t = 1)
def gnM (d : Nat → Nat) (M : Nat → Nat → Bool) : Nat → Nat → Int32
  | 0 => fun _ => -1
  | t + 1 => if onM d M t then upd (gnM d M t) (lsM M t (d 4)).toNatClampNeg (nI t) else gnM d M t
theorem cnR {M N : Nat → Nat → Bool} {t u : Nat} : ∀ n, (∀ j, j < n → M t j = N u j) → cnM M t n = cnM N u n
  | 0, _ => rfl
  | i + 1, h => by unfold cnM; rw [cnR i (fun j hj => h j (by omega)), h i (by omega)]
theorem lsR {M N : Nat → Nat → Bool} {t u : Nat} : ∀ n, (∀ j, j < n → M t j = N u j) → lsM M t n = lsM N u n
  | 0, _ => rfl
  | i + 1, h => by unfold lsM; rw [lsR i (fun j hj => h j (by omega)), h i (by omega)]
theorem hdR {d : Nat → Nat} {M N : Nat → Nat → Bool} {t : Nat} (h : ∀ j, j < d 4 → M t j = N t j) : hdM d M t = hdM d N t := by unfold hdM; rw [cnR (d 4) h]
theorem onR {d : Nat → Nat} {M N : Nat → Nat → Bool} {t : Nat} (h : ∀ j, j < d 4 → M t j = N t j) : onM d M t = onM d N t := by unfold onM; rw [cnR (d 4) h, hdR h]
theorem gnR {d : Nat → Nat} {M N : Nat → Nat → Bool} : ∀ t, (∀ u, u < t → ∀ j, j < d 4 → M u j = N u j) → gnM d M t = gnM d N t
  | 0, _ => rfl
  | t + 1, h => by
    unfold gnM
    rw [gnR t (fun u hu => h u (by omega)), onR (h t (by omega)), lsR (d 4) (h t (by omega))]
def bM (f : Nat → Int32) : Nat → Nat → Bool := fun u i => decide ((f u >>> (nI i &&& 31)) &&& 1 = 1)
theorem bM_s {f : Nat → Int32} {t i : Nat} {M : Nat → Bool} (hi : i < 10) : bM (upd f t (mz M)) t i = M i := by
  unfold bM
  rw [upd_s]
  cases h : M i
  · exact decide_eq_false (mz_b1F hi h)
  · exact decide_eq_true (mz_b1T hi h)
theorem bM_n {f : Nat → Int32} {t u i : Nat} {v : Int32} (h : u ≠ t) : bM (upd f t v) u i = bM f u i := by
  unfold bM
  rw [upd_n h]
theorem cn_pc {B : Nat → Nat → Bool} {M : Nat → Bool} {t : Nat} (h : ∀ i, i < 10 → B t i = M i) : ∀ n, n ≤ 10 → cnM B t n = pc (ms M 10) n
  | 0, _ => rfl
  | i + 1, hi => by
    unfold cnM pc
    rw [cn_pc h i (by omega), h i (by omega), ms_bit]
    simp [show i < 10 by omega]
theorem cn_end {B : Nat → Nat → Bool} {t a : Nat} (h : ∀ i, i < 10 → B t i = true → i < a) : ∀ k, a + k ≤ 10 → cnM B t (a + k) = cnM B t a
  | 0, _ => rfl
  | k + 1, hk => by
    rw [show a + (k + 1) = (a + k) + 1 from rfl, cnM, cn_end h k (by omega)]
    cases e : B t (a + k)
    · rfl
    · have := h (a + k) (by omega) e
      omega
theorem ls_one {B : Nat → Nat → Bool} {t i0 : Nat} : ∀ n, i0 < n → (∀ i, i < n → B t i = (i == i0)) → lsM B t n = nI i0
  | 0, h, _ => absurd h (Nat.not_lt_zero _)
  | n + 1, h, hB => by
    unfold lsM
    rw [hB n (by omega)]
    by_cases e : n = i0
    · subst e; simp
    · rw [if_neg (by simp [e])]
      exact ls_one n (by omega) (fun i hi => hB i (by omega))
/-- the history of a run with nothing left out: who may have sent, what was heard, who got through -/
def hZ (d : Nat → Nat) (t : Nat) (f29 f30 f31 f32 : Nat → Int32) : Prop := (∀ u, u < t → (∀ i, i < 10 → bM f30 u i = true → i < d 4 ∧ d (7 + i) ≤ u ∧ gnM d (bM f30) u i = -1) ∧ f31 u = nI (hdM d (bM f30) u) ∧ f32 u = (if onM d (bM f30) u then lsM (bM f30) u (d 4) else -1)) ∧ ∀ i, i < d 4 → f29 i = gnM d (bM f30) t i
theorem hZ_step {d : Nat → Nat} {t r : Nat} {M : Nat → Bool} {f29 f30 f31 f32 g29 : Nat → Int32} {v : Int32} (h4 : d 4 ≤ 10) (h : hZ d t f29 f30 f31 f32) (hMb : ∀ i, i < 10 → M i = true → i < d 4 ∧ d (7 + i) ≤ t ∧ f29 i = -1) (hr : r = hvN d t (pc (ms M 10) 10) (d 5) 0)
    (hg : (pc (ms M 10) 10 = 1 ∧ r = 1 ∧ ∃ i0, i0 < d 4 ∧ (∀ i, i < 10 → M i = (i == i0)) ∧ g29 = upd f29 i0 (nI t) ∧ v = nI i0) ∨ (¬ (pc (ms M 10) 10 = 1 ∧ r = 1) ∧ g29 = f29 ∧ v = -1)) :
    hZ d (t + 1) g29 (upd f30 t (mz M)) (upd f31 t (nI r)) (upd f32 t v) := by
  obtain ⟨h1, h2⟩ := h
  have eu : ∀ u, u < t → ∀ j, j < d 4 → bM (upd f30 t (mz M)) u j = bM f30 u j := fun u hu j _ => bM_n (by omega)
  have et : ∀ i, i < 10 → bM (upd f30 t (mz M)) t i = M i := fun i hi => bM_s hi
  have ecn : cnM (bM (upd f30 t (mz M))) t (d 4) = pc (ms M 10) 10 := by
    rw [← cn_pc et 10 (Nat.le_refl _)]
    have := cn_end (B := bM (upd f30 t (mz M))) (t := t) (a := d 4) (fun i hi z => (hMb i hi (by rw [← et i hi]; exact z)).1) (10 - d 4) (by omega)
    rw [show d 4 + (10 - d 4) = 10 by omega] at this
    exact this.symm
  have ehd : hdM d (bM (upd f30 t (mz M))) t = r := by unfold hdM; rw [ecn, hr]
  have egn : gnM d (bM (upd f30 t (mz M))) t = gnM d (bM f30) t := gnR t eu
  refine ⟨fun u hu => ?_, fun i hi => ?_⟩
  · rcases Nat.lt_or_ge u t with q | q
    · obtain ⟨a1, a2, a3⟩ := h1 u q
      refine ⟨fun i hi z => ?_, ?_, ?_⟩
      · rw [gnR u (fun w hw => eu w (by omega))]
        exact a1 i hi (by rw [← bM_n (f := f30) (t := t) (v := mz M) (show u ≠ t by omega)]; exact z)
      · rw [upd_n (by omega), a2, hdR (eu u q)]
      · rw [upd_n (by omega), a3, onR (eu u q), lsR (d 4) (eu u q)]
    · obtain rfl : u = t := by omega
      refine ⟨fun i hi z => ?_, ?_, ?_⟩
      · rw [et i hi] at z
        obtain ⟨b1, b2, b3⟩ := hMb i hi z
        refine ⟨b1, b2, ?_⟩
        rw [egn, ← h2 i b1]
        exact b3
      · rw [upd_s, ehd]
      · rw [upd_s]
        rcases hg with ⟨g1, g2, i0, g3, g4, -, g6⟩ | ⟨g1, -, g3⟩
        · have eo : onM d (bM (upd f30 u (mz M))) u = true := by unfold onM; rw [ecn, ehd]; exact decide_eq_true ⟨g1, g2⟩
          rw [eo, if_pos rfl, ls_one (d 4) g3 (fun i hi => by rw [et i (by omega), g4 i (by omega)]), g6]
        · have eo : onM d (bM (upd f30 u (mz M))) u = false := by unfold onM; rw [ecn, ehd]; exact decide_eq_false g1
          rw [eo, if_neg (by decide), g3]
  · unfold gnM
    rw [egn]
    rcases hg with ⟨g1, g2, i0, g3, g4, g5, -⟩ | ⟨g1, g2, -⟩
    · have eo : onM d (bM (upd f30 t (mz M))) t = true := by unfold onM; rw [ecn, ehd]; exact decide_eq_true ⟨g1, g2⟩
      rw [eo, if_pos rfl, ls_one (d 4) g3 (fun i hi => by rw [et i (by omega), g4 i (by omega)]), g5, nI_clamp (by omega)]
      by_cases e : i = i0
      · subst e; rw [upd_s, upd_s]
      · rw [upd_n e, upd_n e]; exact h2 i hi
    · have eo : onM d (bM (upd f30 t (mz M))) t = false := by unfold onM; rw [ecn, ehd]; exact decide_eq_false g1
      rw [eo, if_neg (by decide), g2]
      exact h2 i hi
