/-! by counters: the law's own hand (z25.py) -/
def mC (d : Nat → Nat) (t : Nat) (s : (Nat → Nat) × (Nat → Nat) × (Nat → Bool)) (i : Nat) : Bool := !s.2.2 i && (decide (d (7 + i) ≤ t) && decide (s.1 i = 0))
def hC (d : Nat → Nat) (t : Nat) (s : (Nat → Nat) × (Nat → Nat) × (Nat → Bool)) : Nat := hvN d t (cnM (fun _ => mC d t s) t (d 4)) (d 5) 0
def acv (d : Nat → Nat) (t : Nat) (s : (Nat → Nat) × (Nat → Nat) × (Nat → Bool)) (i : Nat) : Bool := !s.2.2 i && decide (d (7 + i) ≤ t)
def ctS (d : Nat → Nat) (t : Nat) (s : (Nat → Nat) × (Nat → Nat) × (Nat → Bool)) : (Nat → Nat) × (Nat → Nat) × (Nat → Bool) :=
  (fun i => if acv d t s i then (if 0 < s.1 i then (if hC d t s = 2 then s.1 i + 1 else s.1 i - 1) else if hC d t s = 2 then (if tb d i (s.2.1 i) then 1 else 0) else s.1 i) else s.1 i,
   fun i => if acv d t s i then (if 0 < s.1 i then s.2.1 i else if hC d t s = 2 then s.2.1 i + 1 else s.2.1 i) else s.2.1 i,
   fun i => if acv d t s i then (if 0 < s.1 i then s.2.2 i else if hC d t s = 2 then s.2.2 i else decide (hC d t s = 1 ∧ cnM (fun _ => mC d t s) t (d 4) = 1)) else s.2.2 i)
def ct (d : Nat → Nat) : Nat → (Nat → Nat) × (Nat → Nat) × (Nat → Bool)
  | 0 => (fun _ => 0, fun _ => 0, fun _ => false)
  | t + 1 => ctS d t (ct d t)
def MC (d : Nat → Nat) (t i : Nat) : Bool := mC d t (ct d t) i
def dpC (d : Nat → Nat) (t : Nat) : Nat → Nat
  | 0 => 0
  | i + 1 => if acv d t (ct d t) i && !(ct d (t + 1)).2.2 i then (if dpC d t i < (ct d (t + 1)).1 i + 1 then (ct d (t + 1)).1 i + 1 else dpC d t i) else dpC d t i
theorem ct_le (d : Nat → Nat) (i : Nat) : ∀ t, (ct d t).1 i ≤ t + 1 ∧ (ct d t).2.1 i ≤ t
  | 0 => ⟨Nat.zero_le _, Nat.le_refl _⟩
  | t + 1 => by
    obtain ⟨h1, h2⟩ := ct_le d i t
    show (ctS d t (ct d t)).1 i ≤ _ ∧ (ctS d t (ct d t)).2.1 i ≤ _
    unfold ctS
    constructor
    · show (if acv d t (ct d t) i then _ else _) ≤ _
      split
      · split
        · split <;> omega
        · split
          · split <;> omega
          · omega
      · omega
    · show (if acv d t (ct d t) i then _ else _) ≤ _
      split
      · split
        · omega
        · split <;> omega
      · omega
theorem dpC_le (d : Nat → Nat) (t : Nat) : ∀ i, dpC d t i ≤ t + 3
  | 0 => Nat.zero_le _
  | i + 1 => by
    have h1 := dpC_le d t i
    have h2 := (ct_le d i (t + 1)).1
    unfold dpC
    split
    · split <;> omega
    · omega
theorem ct_1 (d : Nat → Nat) (t i : Nat) : (ct d (t + 1)).1 i = if acv d t (ct d t) i then (if 0 < (ct d t).1 i then (if hC d t (ct d t) = 2 then (ct d t).1 i + 1 else (ct d t).1 i - 1) else if hC d t (ct d t) = 2 then (if tb d i ((ct d t).2.1 i) then 1 else 0) else (ct d t).1 i) else (ct d t).1 i := rfl
theorem ct_2 (d : Nat → Nat) (t i : Nat) : (ct d (t + 1)).2.1 i = if acv d t (ct d t) i then (if 0 < (ct d t).1 i then (ct d t).2.1 i else if hC d t (ct d t) = 2 then (ct d t).2.1 i + 1 else (ct d t).2.1 i) else (ct d t).2.1 i := rfl
theorem ct_3 (d : Nat → Nat) (t i : Nat) : (ct d (t + 1)).2.2 i = if acv d t (ct d t) i then (if 0 < (ct d t).1 i then (ct d t).2.2 i else if hC d t (ct d t) = 2 then (ct d t).2.2 i else decide (hC d t (ct d t) = 1 ∧ cnM (fun _ => mC d t (ct d t)) t (d 4) = 1)) else (ct d t).2.2 i := rfl
def hK2 (d : Nat → Nat) (t : Nat) (y c : Nat → Nat → Int32) (f29 f30 : Nat → Int32) : Prop := (∀ i, i < d 4 → ((ct d t).2.2 i = true ↔ ¬ f29 i = -1)) ∧ (∀ i, i < d 4 → f29 i = -1 → y 2 i = nI ((ct d t).1 i)) ∧ (∀ i, i < d 4 → c 7 i = nI ((ct d t).2.1 i)) ∧ (∀ v, v < t → c 3 v = nI (dpC d v (d 4)) ∧ ∀ i, i < d 4 → bM f30 v i = MC d v i) ∧ (∀ v, v < 200 → c 4 v = 0) ∧ c 13 0 = 0
theorem K2_step {d : Nat → Nat} {t r : Nat} {M P D : Nat → Bool} {k tk : Nat → Nat} {y c vY vC : Nat → Nat → Int32} {f29 f30 g29 : Nat → Int32} (h4 : d 4 ≤ 10) (ht : t < 200) (h : hK2 d t y c f29 f30) (hP : ∀ i, P i = prs d f29 (-1) (t + 1) i) (hM : ∀ i, M i = (P i && decide (k i = 0))) (hk : ∀ i, i < d 4 → f29 i = -1 → k i ≤ t ∧ y 2 i = nI (k i)) (htk : ∀ i, i < d 4 → tk i ≤ t ∧ c 7 i = nI (tk i))
    (hr : r = hvN d t (pc (ms M 10) 10) (d 5) 0) (hD : ∀ i, D i = (M i && decide (pc (ms M 10) 10 = 1 ∧ r = 1))) (hg : ∀ i, i < d 4 → g29 i = if D i then nI t else f29 i) (e2 : ∀ i, i < 10 → (P i && !D i) = true → vY 2 i = nI (ncc d M r k tk i)) (e2' : ∀ i, (P i && !D i) = false → vY 2 i = y 2 i)
    (e7 : ∀ i, i < d 4 → vC 7 i = nI (kk (tkm M (fun i => P i && !D i) r) tk 10 i)) (e3 : vC 3 = upd (c 3) t (nI (mxc (fun i => P i && !D i) (ncc d M r k tk) 10))) (e4 : vC 4 = c 4) (e13 : vC 13 = c 13) : hK2 d (t + 1) vY vC g29 (upd f30 t (mz M)) := by
  obtain ⟨K1, K2, K3, K4, K5, K6⟩ := h
  have hk' : ∀ i, i < d 4 → f29 i = -1 → k i = (ct d t).1 i := fun i hi z => by
    obtain ⟨a, b⟩ := hk i hi z
    have hb := (ct_le d i t).1
    exact pu_inj (by omega) (by omega) (b.symm.trans (K2 i hi z))
  have htk' : ∀ i, i < d 4 → tk i = (ct d t).2.1 i := fun i hi => by
    obtain ⟨a, b⟩ := htk i hi
    have hb := (ct_le d i t).2
    exact pu_inj (by omega) (by omega) (b.symm.trans (K3 i hi))
  have hPi : ∀ i, i < d 4 → (P i = true ↔ d (7 + i) ≤ t ∧ f29 i = -1) := fun i hi => by
    rw [hP i, prs_iff]
    constructor
    · rintro ⟨-, -, a, b⟩; exact ⟨by omega, b⟩
    · rintro ⟨a, b⟩; exact ⟨hi, pu_nm1 (by omega), by omega, b⟩
  have hPd : ∀ i, P i = true → i < d 4 := fun i z => by rw [hP i, prs_iff] at z; exact z.1
  have hgo : ∀ i, i < d 4 → ((ct d t).2.2 i = false ↔ f29 i = -1) := fun i hi => by
    have := K1 i hi
    cases e : (ct d t).2.2 i
    · rw [e] at this
      constructor
      · intro _
        by_cases z : f29 i = -1
        · exact z
        · exact absurd (this.mpr z) (by decide)
      · intro _; rfl
    · rw [e] at this
      constructor
      · intro z; cases z
      · intro z; exact absurd z (this.mp rfl)
  have hPa : ∀ i, i < d 4 → P i = acv d t (ct d t) i := fun i hi => by
    unfold acv
    by_cases z : P i = true
    · obtain ⟨a, b⟩ := (hPi i hi).mp z
      rw [z, (hgo i hi).mpr b, decide_eq_true a]; rfl
    · have z' : P i = false := by cases e : P i with | false => rfl | true => exact absurd e z
      rw [z']
      by_cases a : d (7 + i) ≤ t
      · have b : ¬ f29 i = -1 := fun b => z ((hPi i hi).mpr ⟨a, b⟩)
        rw [(K1 i hi).mpr b]; rfl
      · rw [decide_eq_false a, Bool.and_false]
  have hMm : ∀ i, i < d 4 → M i = mC d t (ct d t) i := fun i hi => by
    have e : mC d t (ct d t) i = (acv d t (ct d t) i && decide ((ct d t).1 i = 0)) := by unfold mC acv; rw [Bool.and_assoc]
    rw [hM i, e, ← hPa i hi]
    cases z : P i
    · rfl
    · rw [hk' i hi ((hPi i hi).mp z).2]
  have hMd : ∀ i, M i = true → i < d 4 := fun i z => by
    rw [hM i] at z
    cases e : P i
    · rw [e] at z; cases z
    · exact hPd i e
  have ecn : pc (ms M 10) 10 = cnM (fun _ => mC d t (ct d t)) t (d 4) := by
    rw [← cn_pc (B := fun _ => M) (t := t) (fun i _ => rfl) 10 (Nat.le_refl _)]
    have := cn_end (B := fun _ => M) (t := t) (a := d 4) (fun i _ z => hMd i z) (10 - d 4) (by omega)
    rw [show d 4 + (10 - d 4) = 10 by omega] at this
    rw [this]
    exact cnR (d 4) (fun j hj => hMm j hj)
  have er : r = hC d t (ct d t) := by unfold hC; rw [hr, ecn]
  have hDt : ∀ i, i < d 4 → D i = true → acv d t (ct d t) i = true ∧ (ct d t).1 i = 0 ∧ hC d t (ct d t) = 1 ∧ cnM (fun _ => mC d t (ct d t)) t (d 4) = 1 := fun i hi z => by
    rw [hD i] at z
    cases eM : M i
    · rw [eM] at z; cases z
    · rw [eM] at z
      have z2 := of_decide_eq_true (show decide _ = true from z)
      have eM' := eM
      rw [hM i] at eM'
      cases eP : P i
      · rw [eP] at eM'; cases eM'
      · rw [eP] at eM'
        have z3 : k i = 0 := of_decide_eq_true (show decide _ = true from eM')
        exact ⟨by rw [← hPa i hi]; exact eP, by rw [← hk' i hi ((hPi i hi).mp eP).2]; exact z3, by rw [← er]; exact z2.2, by rw [← ecn]; exact z2.1⟩
  have hDf : ∀ i, i < d 4 → D i = false → ¬ (acv d t (ct d t) i = true ∧ (ct d t).1 i = 0 ∧ hC d t (ct d t) = 1 ∧ cnM (fun _ => mC d t (ct d t)) t (d 4) = 1) := fun i hi z => by
    rintro ⟨a1, a2, a3, a4⟩
    rw [← hPa i hi] at a1
    have : M i = true := by rw [hM i, a1, hk' i hi ((hPi i hi).mp a1).2, a2]; rfl
    rw [hD i, this, decide_eq_true ⟨by rw [ecn]; exact a4, by rw [er]; exact a3⟩] at z
    cases z
  have hgn : ∀ i, i < d 4 → ((ct d (t + 1)).2.2 i = ((ct d t).2.2 i || D i)) := fun i hi => by
    rw [ct_3]
    cases ea : acv d t (ct d t) i
    · have : D i = false := by
        cases e : D i
        · rfl
        · have := (hDt i hi e).1; rw [ea] at this; cases this
      rw [this, Bool.or_false]; rfl
    · have eg : (ct d t).2.2 i = false := (hgo i hi).mpr ((hPi i hi).mp (by rw [hPa i hi]; exact ea)).2
      rw [if_pos rfl, eg, Bool.false_or]
      by_cases z0 : 0 < (ct d t).1 i
      · rw [if_pos z0]
        cases e : D i
        · rfl
        · have := (hDt i hi e).2.1; omega
      · rw [if_neg z0]
        by_cases z2 : hC d t (ct d t) = 2
        · rw [if_pos z2]
          cases e : D i
          · rfl
          · have := (hDt i hi e).2.2.1; omega
        · rw [if_neg z2]
          cases e : D i
          · refine decide_eq_false (fun z => hDf i hi e ⟨ea, by omega, z.1, z.2⟩)
          · exact decide_eq_true (hDt i hi e).2.2
  have hQ : ∀ i, i < d 4 → (P i && !D i) = (acv d t (ct d t) i && !(ct d (t + 1)).2.2 i) := fun i hi => by
    rw [hPa i hi, hgn i hi]
    cases ea : acv d t (ct d t) i
    · rfl
    · have eg : (ct d t).2.2 i = false := (hgo i hi).mpr ((hPi i hi).mp (by rw [hPa i hi]; exact ea)).2
      rw [eg]; rfl
  have hnc : ∀ i, i < d 4 → (P i && !D i) = true → ncc d M r k tk i = (ct d (t + 1)).1 i := fun i hi z => by
    have eP : P i = true := by cases e : P i with | false => (rw [e] at z; cases z) | true => rfl
    have eD : D i = false := by cases e : D i with | false => rfl | true => (rw [e, eP] at z; cases z)
    have ea : acv d t (ct d t) i = true := by rw [← hPa i hi]; exact eP
    have ek := hk' i hi ((hPi i hi).mp eP).2
    have eM : M i = decide ((ct d t).1 i = 0) := by rw [hM i, eP, ek]; rfl
    unfold ncc
    rw [ct_1, if_pos ea, eM, ek, htk' i hi, er]
    by_cases z0 : (ct d t).1 i = 0
    · rw [decide_eq_true z0, if_pos rfl, if_neg (show ¬ 0 < (ct d t).1 i by omega), z0]
    · rw [decide_eq_false z0, if_neg (by decide), if_pos (show 0 < (ct d t).1 i by omega)]
  refine ⟨fun i hi => ?_, fun i hi z => ?_, fun i hi => ?_, fun v hv => ?_, fun v hv => ?_, ?_⟩
  · rw [hgn i hi, hg i hi]
    cases e : D i
    · rw [Bool.or_false, if_neg (by decide)]; exact K1 i hi
    · rw [Bool.or_true, if_pos rfl]
      exact ⟨fun _ => pu_nm1 (by omega), fun _ => rfl⟩
  · rw [hg i hi] at z
    cases e : D i
    · rw [e, if_neg (by decide)] at z
      cases eP : P i
      · rw [e2' i (by rw [eP]; rfl), K2 i hi z, ct_1, if_neg (by rw [← hPa i hi, eP]; decide)]
      · rw [e2 i (by omega) (by rw [eP, e]; rfl), hnc i hi (by rw [eP, e]; rfl)]
    · rw [e, if_pos rfl] at z
      exact absurd z (pu_nm1 (by omega))
  · rw [e7 i hi]
    unfold kk pf
    rw [decide_eq_true (show i < 10 by omega), Bool.true_and, htk' i hi, ct_2]
    unfold tkm
    show nI ((ct d t).2.1 i + if ((P i && !D i) && (M i && decide (r = 2))) = true then 1 else 0) = _
    cases eP : P i
    · rw [if_neg (show ¬ acv d t (ct d t) i = true by rw [← hPa i hi, eP]; decide)]
      rw [if_neg (by simp)]; rfl
    · have ea : acv d t (ct d t) i = true := by rw [← hPa i hi]; exact eP
      have ek := hk' i hi ((hPi i hi).mp eP).2
      have eM : M i = decide ((ct d t).1 i = 0) := by rw [hM i, eP, ek]; rfl
      rw [if_pos ea, eM, ← er]
      by_cases z0 : (ct d t).1 i = 0
      · rw [if_neg (show ¬ 0 < (ct d t).1 i by omega)]
        by_cases z2 : r = 2
        · have eD : D i = false := by
            cases e : D i
            · rfl
            · have := (hDt i hi e).2.2.1; omega
          rw [eD, decide_eq_true z0, decide_eq_true z2, if_pos z2]; rfl
        · rw [decide_eq_false z2, if_neg z2, if_neg (by simp)]; rfl
      · rw [if_pos (show 0 < (ct d t).1 i by omega), decide_eq_false z0, if_neg (by simp)]; rfl
  · rcases Nat.lt_or_ge v t with q | q
    · rw [e3, upd_n (by omega)]
      refine ⟨(K4 v q).1, fun i hi => ?_⟩
      rw [bM_n (by omega)]; exact (K4 v q).2 i hi
    · obtain rfl : v = t := by omega
      refine ⟨?_, fun i hi => ?_⟩
      · rw [e3, upd_s]
        congr 1
        rw [← mxc_end (i := d 4) h4 (fun j hj _ => by
          cases eP : P j
          · rfl
          · have := hPd j eP; omega)]
        have : ∀ n, n ≤ d 4 → mxc (fun i => P i && !D i) (ncc d M r k tk) n = dpC d v n := by
          intro n
          induction n with
          | zero => intro _; rfl
          | succ n ih =>
            intro hn
            rw [mxc, dpC, ih (by omega), ← hQ n (by omega)]
            cases eQ : (P n && !D n)
            · rfl
            · rw [if_pos rfl, if_pos rfl, hnc n (by omega) eQ]
              by_cases z : dpC d v n ≤ (ct d (v + 1)).1 n
              · rw [if_pos z, if_pos (by omega)]
              · rw [if_neg z, if_neg (by omega)]
        exact this (d 4) (Nat.le_refl _)
      · rw [bM_s (by omega)]; exact hMm i hi
  · rw [e4]; exact K5 v hv
  · rw [e13]; exact K6
