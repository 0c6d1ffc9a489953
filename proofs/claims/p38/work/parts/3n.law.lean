/-! a run of a law on a plan, whatever stood before: by, rule, undo -/
noncomputable def XR (d : Nat → Nat) (l : Nat) : Nat → Nat → Int32 := (f_X_runsBy (fun _ j => nI (d j)) (nI l) (-1) (-1)).getD (fun _ _ => 0)
noncomputable def Mr (d : Nat → Nat) (l : Nat) : Nat → Nat → Bool := bM (XR d l 30)
noncomputable def byV (d : Nat → Nat) (l k : Nat) : Int32 := if k = 0 then (if alM d (Mr d l) (d 1) = d 4 then dnM (gnM d (Mr d l) (d 1)) (d 4) else -1) else if k = 1 then nI (alM d (Mr d l) (d 1)) else if k = 2 then nI (clM d (Mr d l) (d 1)) else skM (XR d l 34) (d 1)
/-- where the run of law l stands -/
def NowR (d : Nat → Nat) (l : Nat) (c : Nat → Nat → Int32) : Prop := hFin d c (XR d l) ∧ (l = 2 → ∃ y, hK2 d (d 1) y c (XR d l 29) (XR d l 30))
section RUNS
variable {d : Nat → Nat} {uR uT uD uY uP uS uC uO uA : Nat → Nat → Int32} {uQ l : Nat}
theorem run_of {u y s c : Nat → Nat → Int32} (hB : mk_BD d) (hC : mk_CQ u d) (hl : l ≤ 3) : ∃ wY wS wC, f_Y_run y u s c (nI l) (-1) (-1) = some (wC 9 0, wY, wS, wC) ∧ NowR d l wC := by
  obtain ⟨wY, wS, wC, wX, h1, h2, h3, h4, h5⟩ := q_run (y := y) (s := s) (c := c) (x := fun _ j => nI (d j)) (l := l) (-1) hB hC (fun j => rfl) hl
  have e : XR d l = wX := by unfold XR; rw [h2]; rfl
  refine ⟨wY, wS, wC, h1, by rw [e]; exact h3, fun z => ⟨wY, by rw [e]; exact h5 z rfl⟩⟩
theorem mk_CQ_0 {u : Nat → Nat → Int32} (h : mk_CQ u d) (v : Int32) : mk_CQ (upF 0 v u) d := ⟨trivial, h.2⟩
theorem SoF_now (hB : mk_BD d) (hC : mk_CQ uP d) (h0 : 0 < d 1) (h : NowR d l uC) : SoF d uP uC (Mr d l) (XR d l 33) (XR d l 34) := SoF_of hB hC h0 h.1
theorem SoC_now (hB : mk_BD d) (hC : mk_CQ uP d) (h0 : 0 < d 1) (h : NowR d 2 uC) : SoC d uP uC := by
  obtain ⟨y, hy⟩ := h.2 rfl
  exact SoC_of hB hC h0 h.1 hy
theorem nine_of (hB : mk_BD d) (hC : mk_CQ uP d) (h0 : 0 < d 1) (h : NowR d l uC) : uC 9 0 = nI (alM d (Mr d l) (d 1)) := by
  have := (SoF_now hB hC h0 h).2.2.2.2.2.2.1
  unfold f_Z_all at this
  have hst := q_stands hB hC
  rw [if_pos h0] at hst
  rw [hst, b1_k, if_neg (by decide)] at this
  injection this
theorem isLaw_ok (hl : l ≤ 3) : f_Z_isLaw (nI l) = some 1 := by
  unfold f_Z_isLaw
  rw [if_neg (lt_f0 (by omega)), if_neg (show ¬ (3 : Int32) < nI l from lt_f (a := 3) hl (by omega))]
theorem by_of (hB : mk_BD d) (hC : mk_CQ uP d) (h0 : 0 < d 1) (hl : l ≤ 3) {k : Nat} (hk : k ≤ 3) : ∃ wY wS wO, f_Z_by uQ uY uP uS uO (nI l) (nI k) = some (byV d l k, 1, wY, wS, wO) := by
  obtain ⟨wY, wS, wO, h1, h2⟩ := run_of (y := uY) (s := uS) (c := uO) hB hC hl
  refine ⟨wY, wS, wO, ?_⟩
  have hst := q_stands hB hC
  rw [if_pos h0] at hst
  have hF := SoF_now (uP := uP) hB hC h0 h2
  have h9 := nine_of (uP := uP) hB hC h0 h2
  obtain ⟨-, -, fD, fC, fS, -⟩ := hF.2.2.2.2.2.2
  unfold f_Z_done at fD
  unfold f_Z_collided at fC
  unfold f_Z_skips at fS
  rw [hst, b1_k, if_neg (by decide)] at fD fC fS
  unfold f_Z_by
  rw [isLaw_ok hl, b1_k, if_neg (by decide), if_neg (lt_f0 (by omega)), if_neg (show ¬ (3 : Int32) < nI k from lt_f (a := 3) hk (by omega)), hst, b1_k, if_neg (by decide), h1, b4_k]
  unfold byV
  rcases (show k = 0 ∨ k = 1 ∨ k = 2 ∨ k = 3 by omega) with rfl | rfl | rfl | rfl
  · rw [if_pos (show nI 0 = 0 from rfl), if_pos rfl]
    cases e : f_C_lastSlot wO (uP 5 0) with
    | none => rw [e] at fD; cases fD
    | some r => rw [e, b1_k] at fD; injection fD with fD; rw [b1_k, fD]
  · rw [if_neg (show ¬ nI 1 = 0 by decide), if_pos (show nI 1 = 1 from rfl), if_neg (by decide), if_pos rfl, h9]
  · rw [if_neg (show ¬ nI 2 = 0 by decide), if_neg (show ¬ nI 2 = 1 by decide), if_pos (show nI 2 = 2 from rfl), if_neg (by decide), if_neg (by decide), if_pos rfl]
    cases e : f_C_collisions wO (uP 1 0) with
    | none => rw [e] at fC; cases fC
    | some r => rw [e, b1_k] at fC; injection fC with fC; rw [b1_k, fC]
  · rw [if_neg (show ¬ nI 3 = 0 by decide), if_neg (show ¬ nI 3 = 1 by decide), if_neg (show ¬ nI 3 = 2 by decide), if_neg (by decide), if_neg (by decide), if_neg (by decide)]
    cases e : f_C_skipsMade wO (uP 1 0) with
    | none => rw [e] at fS; cases fS
    | some r => rw [e, b1_k] at fS; injection fS with fS; rw [b1_k, fS]
/-- told: the law that stood -/
def Told (d : Nat → Nat) (uA : Nat → Nat → Int32) : Prop := uA 2 0 = 1 ∧ uA 0 0 = 2 ∧ uA 1 0 = nI (d 0)
theorem rule_of (hB : mk_BD d) (hC : mk_CP uP d) (h0 : 0 < d 1) (hl : l ≤ 3) (hne : l ≠ d 0) (hA : uA 2 0 = 0) : ∃ wY wS wC wA, f_Z_rule uQ uY uP uS uC uA (nI l) = some (byV d l 1, 0, wY, upF 0 (nI l) uP, wS, wC, wA) ∧ NowR d l wC ∧ Told d wA := by
  obtain ⟨wY, wS, wC, h1, h2⟩ := run_of (u := upF 0 (nI l) uP) (y := uY) (s := uS) (c := uC) hB (mk_CQ_0 hC.Q (nI l)) hl
  have hst := q_stands hB hC.Q
  rw [if_pos h0] at hst
  have h9 := nine_of (uP := uP) hB hC.Q h0 h2
  have hd0 : d 0 ≤ 3 := hB.1
  refine ⟨wY, wS, wC, upF 2 ((uA 2 0) + 1) (upR 1 (mkPut 20 (uA 1) (uA 2 0) (uP 0 0)) (upR 0 (mkPut 20 (uA 0) (uA 2 0) 2) uA)), ?_, h2, ?_⟩
  · unfold f_Z_rule
    rw [hst, b1_k, if_neg (by decide), isLaw_ok hl, b1_k, if_neg (by decide), if_neg (fun z => hne (pu_inj (by omega) (by omega) (by rw [← hC.1]; exact z.symm))), hA, if_pos (by decide)]
    unfold f_A_note
    rw [b1_k, h1, b4_k, h9, hA]
    rfl
  · refine ⟨?_, ?_, ?_⟩
    · show (uA 2 0) + 1 = 1
      rw [hA]; rfl
    · show mkPut 20 (uA 0) (uA 2 0) 2 0 = 2
      rw [hA]
      rw [show (0 : Int32) = nI 0 from rfl, mkPut_ok (by omega) (by omega), upd_s]
    · show mkPut 20 (uA 1) (uA 2 0) (uP 0 0) 0 = nI (d 0)
      rw [hA, show (0 : Int32) = nI 0 from rfl, mkPut_ok (by omega) (by omega), upd_s]
      exact hC.1
theorem rule_same (hB : mk_BD d) (hC : mk_CP uP d) (h0 : 0 < d 1) : f_Z_rule uQ uY uP uS uC uA (nI (d 0)) = some (-5, uQ, uY, uP, uS, uC, uA) := by
  have hst := q_stands hB hC.Q
  rw [if_pos h0] at hst
  unfold f_Z_rule
  rw [hst, b1_k, if_neg (by decide), isLaw_ok hB.1, b1_k, if_neg (by decide), if_pos hC.1]
theorem undo_of (hB : mk_BD d) (hC : mk_CP uP d) (h0 : 0 < d 1) (hT : Told d uA) : ∃ wY wP wS wC wA, f_Z_undo uQ uY (upF 0 (nI l) uP) uS uC uA = some (0, 0, wY, wP, wS, wC, wA) ∧ mk_CP wP d ∧ NowR d (d 0) wC ∧ wA 2 0 = 0 := by
  obtain ⟨t2, t0, t1⟩ := hT
  have hC2 : mk_CP (upF 0 (nI (d 0)) (upF 0 (nI l) uP)) d := ⟨rfl, hC.2⟩
  obtain ⟨wY, wS, wC, h1, h2⟩ := run_of (u := upF 0 (nI (d 0)) (upF 0 (nI l) uP)) (y := uY) (s := uS) (c := uC) hB hC2.Q hB.1
  have hst := q_stands hB (mk_CQ_0 hC.Q (nI l))
  rw [if_pos h0] at hst
  refine ⟨wY, _, wS, wC, upF 2 0 uA, ?_, hC2, h2, rfl⟩
  unfold f_Z_undo
  rw [hst, b1_k, if_neg (by decide), t2, if_neg (by decide)]
  unfold f_A_takeBack
  rw [t2, if_neg (by decide), show (1 : Int32) - 1 = nI 0 from rfl, mkAt_ok (by omega) (by omega), mkAt_ok (by omega) (by omega), t0, t1, if_neg (by decide), if_neg (by decide), b2_k]
  have e : f_Y_run uY (upF 0 (nI (d 0)) (upF 0 (nI l) uP)) uS uC ((upF 0 (nI (d 0)) (upF 0 (nI l) uP)) 0 0) (-1) (-1) = some (wC 9 0, wY, wS, wC) := h1
  rw [e, b4_k]
  rfl
end RUNS
