/-! by counters, by hand (law6.py) -/
theorem cnM_eq {M N : Nat → Nat → Bool} {t u : Nat} : ∀ i, (∀ j, j < i → M t j = N u j) → cnM M t i = cnM N u i
  | 0, _ => rfl
  | i + 1, h => by unfold cnM; rw [cnM_eq i (fun j hj => h j (by omega)), h i (by omega)]
theorem cC_eq (d : Nat → Nat) (t : Nat) : cnM (fun _ => mC d t (ct d t)) t (d 4) = cnM (MC d) t (d 4) := cnM_eq _ (fun _ _ => rfl)
theorem hC_eq (d : Nat → Nat) (t : Nat) : hC d t (ct d t) = hdM d (MC d) t := by unfold hC hdM; rw [cC_eq]
theorem xi {n i : Nat} {f : Nat → Int32} {P' P : Nat → Nat} (h : ∀ j, j < n → f j = nI (if j < i then P' j else P j)) (e : P' i = P i) : ∀ j, j < n → f j = nI (if j < i + 1 then P' j else P j) := by
  intro j hj
  rw [h j hj]
  rcases Nat.lt_trichotomy j i with q | q | q
  · rw [if_pos q, if_pos (by omega)]
  · subst q; rw [if_neg (by omega), if_pos (by omega), e]
  · rw [if_neg (by omega), if_neg (by omega)]
theorem xu {n i : Nat} {f : Nat → Int32} {P' P : Nat → Nat} (h : ∀ j, j < n → f j = nI (if j < i then P' j else P j)) {v : Int32} (e : v = nI (P' i)) : ∀ j, j < n → upd f i v j = nI (if j < i + 1 then P' j else P j) := by
  intro j hj
  rcases Nat.lt_trichotomy j i with q | q | q
  · rw [pk_un (by omega), h j hj, if_pos q, if_pos (by omega)]
  · subst q; rw [pk_us, if_pos (by omega), e]
  · rw [pk_un (by omega), h j hj, if_neg (by omega), if_neg (by omega)]
def bI (b : Bool) : Int32 := if b then 1 else 0
theorem yi {n i : Nat} {f : Nat → Int32} {P' P : Nat → Bool} (h : ∀ j, j < n → f j = bI (if j < i then P' j else P j)) (e : P' i = P i) : ∀ j, j < n → f j = bI (if j < i + 1 then P' j else P j) := by
  intro j hj
  rw [h j hj]
  rcases Nat.lt_trichotomy j i with q | q | q
  · rw [if_pos q, if_pos (by omega)]
  · subst q; rw [if_neg (by omega), if_pos (by omega), e]
  · rw [if_neg (by omega), if_neg (by omega)]
theorem yu {n i : Nat} {f : Nat → Int32} {P' P : Nat → Bool} (h : ∀ j, j < n → f j = bI (if j < i then P' j else P j)) {v : Int32} (e : v = bI (P' i)) : ∀ j, j < n → upd f i v j = bI (if j < i + 1 then P' j else P j) := by
  intro j hj
  rcases Nat.lt_trichotomy j i with q | q | q
  · rw [pk_un (by omega), h j hj, if_pos q, if_pos (by omega)]
  · subst q; rw [pk_us, if_pos (by omega), e]
  · rw [pk_un (by omega), h j hj, if_neg (by omega), if_neg (by omega)]
/-- what the class must answer, for the count by hand to hold -/
def SoC (d : Nat → Nat) (uP uC : Nat → Nat → Int32) : Prop :=
  (∀ t, t < d 1 → ∀ i, i < d 4 → f_Z_sends uP uC (nI t) (nI i) = some (if MC d t i then 1 else 0)) ∧
  (∀ t, t < d 1 → f_Z_slot uP uC (nI t) 3 = some (nI (dpC d t (d 4))) ∧ f_Z_slot uP uC (nI t) 4 = some 0) ∧
  (∀ i, i < d 4 → f_Z_taken uP uC (nI i) = some (nI ((ct d (d 1)).2.1 i))) ∧ f_Z_epochs uP uC = some 0
/-- the strings of bits are among the surroundings -/
def zBits (d : Nat → Nat) (fB : Nat → Option Nat) (X : Nat → Nat) (Y : mk_Y) : Prop := ∀ i, i < d 4 → ∃ k, fB i = some (X k) ∧ (Y.1 k).2.1 = d (17 + i) ∧ 1 ≤ d (17 + i) ∧ d (17 + i) ≤ 12 ∧ ∀ j, j < d (17 + i) → (Y.1 k).2.2 j = 48 + (if tb d i j then 1 else 0)
theorem tb_mod (d : Nat → Nat) (i k : Nat) (h : 1 ≤ d (17 + i)) : tb d i (k % d (17 + i)) = tb d i k := by
  unfold tb
  rw [Nat.mod_mod]
set_option maxHeartbeats 4000000 in
set_option maxRecDepth 100000 in
theorem ic_a {p : Program} {l : Launch} {e : Env} {s : State} {m : MethodId} {args : Array Value} {below : List Frame} {meth : Method} {c : Code} {D : va_G} {A : Nat → Prop} {cI cJ cB cZ cS : ClassId} {X : Nat → Nat} {Y : mk_Y} (C : mk_Cx p s m args c cL_isCounted 10 RL D (mk_TY cI cJ cB cZ cS) X Y A) {Q : State → Prop} {aZ aR aT aD aY aP aS aC aO aA aM : Nat → Nat} {uQ : Nat} {uR uT uD uY uP uS uC uO uA : Nat → Nat → Int32} {uM : Nat → Nat → Int64} {z q1 q2 q3 aW aN aK aB xt : Nat} {d : Nat → Nat} {gW gN gK : Nat → Int32} {fB : Nat → Option Nat} (hz : zRows d gW gN gK) (hb : zBits d fB X Y) (hF : SoC d uP uC) {t : Nat} (ht : t < d 1) {kc tc gc : Nat → Int32} (h1 : ∀ j, j < d 4 → kc j = nI ((ct d t).1 j)) (h3 : ∀ j, j < d 4 → gc j = bI ((ct d t).2.2 j)) (K1 : mk_Go p l e ({ frames := 6, cells := 3, slots := 30, locals := 181 }) s m args below meth c D A 10 3 30 Q 127 ([(z, .inr (9, [.int (nI (d 0)), .int (nI (d 1)), .int (nI (d 4)), .int (nI (d 5)), .ref aW, .ref aN, .ref aK, .ref aB, .ref xt])), (aW, .inl (cI, (d 4), .inl gW)), (aN, .inl (cI, (d 5), .inl gN)), (aK, .inl (cI, (d 5), .inl gK)), (aB, .inl (cS, (d 4), .inr (.inr (.inr (.inr fB))))), (q1, .inl (cI, (d 4), .inl kc)), (q2, .inl (cI, (d 4), .inl tc)), (q3, .inl (cZ, (d 4), .inl gc))] ++ (wChan aZ aR aT aD aY aP aC aO aA aM ++ (wReader aR aT aD uR ++ (wTape aT cI uT ++ (wPlan aD cI uD ++ (wPlay aY aP aS (mk_crs aC aO uQ) cI uY ++ (wPlan aP cI uP ++ (wStack aS cI uS ++ (wCourse aC cI uC ++ (wCourse aO cI uO ++ (wActs aA cI uA ++ (wMeans aM cJ uM)))))))))))) [(7, .int (nI (d 4))), (6, .int (nI (cnM (MC d) t (d 4)))), (5, .int (nI t)), (4, .ref q3), (3, .ref q2), (2, .ref q1), (1, .ref z), (0, .ref (aZ 0))] []) : ∀ k i, i + k = d 4 → mk_Go p l e ({ frames := 6, cells := 3, slots := 30, locals := 181 }) s m args below meth c D A 10 3 30 Q 40 ([(z, .inr (9, [.int (nI (d 0)), .int (nI (d 1)), .int (nI (d 4)), .int (nI (d 5)), .ref aW, .ref aN, .ref aK, .ref aB, .ref xt])), (aW, .inl (cI, (d 4), .inl gW)), (aN, .inl (cI, (d 5), .inl gN)), (aK, .inl (cI, (d 5), .inl gK)), (aB, .inl (cS, (d 4), .inr (.inr (.inr (.inr fB))))), (q1, .inl (cI, (d 4), .inl kc)), (q2, .inl (cI, (d 4), .inl tc)), (q3, .inl (cZ, (d 4), .inl gc))] ++ (wChan aZ aR aT aD aY aP aC aO aA aM ++ (wReader aR aT aD uR ++ (wTape aT cI uT ++ (wPlan aD cI uD ++ (wPlay aY aP aS (mk_crs aC aO uQ) cI uY ++ (wPlan aP cI uP ++ (wStack aS cI uS ++ (wCourse aC cI uC ++ (wCourse aO cI uO ++ (wActs aA cI uA ++ (wMeans aM cJ uM)))))))))))) [(7, .int (nI i)), (6, .int (nI (cnM (MC d) t i))), (5, .int (nI t)), (4, .ref q3), (3, .ref q2), (2, .ref q1), (1, .ref z), (0, .ref (aZ 0))] [] := by
  obtain ⟨hz1, hz4, hz5, -, -⟩ := id hz
  intro k
  induction k with
  | zero =>
    intro i hk
    have hi : i = d 4 := by omega
    refine mk_iload C 0 dL_isCounted_40 rfl ?_
    refine mk_aload_n C 6 dL_isCounted_42 rfl ?_
    refine mk_getN C 0 rfl 2 (by decide) (List.mem_of_getElem? (i := 2) rfl) (v := .int (nI (d 4))) rfl dL_isCounted_43 ?_
    refine mk_icmp_ge C 127 dL_isCounted_46 (by decide) (fun _ => ?_) (fun h9 => absurd (nI_le (by omega) (by omega)) h9)
    subst hi
    exact mk_lvsub [0, 1, 2, 3, 4, 5, 6, 7] rfl K1
  | succ k ih =>
    intro i hk
    have hi4 : i < d 4 := by omega
    have hs := hF.1 t ht i hi4
    have hcn := cnM_le (MC d) t i
    have hd7 := (hz.2.2.2.1 i hi4).2
    have hki := (ct_le d i t).1
    have k81_0 : MC d t i = false → mk_Go p l e ({ frames := 6, cells := 3, slots := 30, locals := 181 }) s m args below meth c D A 10 3 30 Q 81 ([(z, .inr (9, [.int (nI (d 0)), .int (nI (d 1)), .int (nI (d 4)), .int (nI (d 5)), .ref aW, .ref aN, .ref aK, .ref aB, .ref xt])), (aW, .inl (cI, (d 4), .inl gW)), (aN, .inl (cI, (d 5), .inl gN)), (aK, .inl (cI, (d 5), .inl gK)), (aB, .inl (cS, (d 4), .inr (.inr (.inr (.inr fB))))), (q1, .inl (cI, (d 4), .inl kc)), (q2, .inl (cI, (d 4), .inl tc)), (q3, .inl (cZ, (d 4), .inl gc))] ++ (wChan aZ aR aT aD aY aP aC aO aA aM ++ (wReader aR aT aD uR ++ (wTape aT cI uT ++ (wPlan aD cI uD ++ (wPlay aY aP aS (mk_crs aC aO uQ) cI uY ++ (wPlan aP cI uP ++ (wStack aS cI uS ++ (wCourse aC cI uC ++ (wCourse aO cI uO ++ (wActs aA cI uA ++ (wMeans aM cJ uM)))))))))))) [(7, .int (nI i)), (6, .int (nI (cnM (MC d) t i))), (5, .int (nI t)), (4, .ref q3), (3, .ref q2), (2, .ref q1), (1, .ref z), (0, .ref (aZ 0))] [.int 0] := by
      intro hm
      rw [hm] at hs
      refine mk_istore C (lv' := [(8, .int 0), (7, .int (nI i)), (6, .int (nI (cnM (MC d) t i))), (5, .int (nI t)), (4, .ref q3), (3, .ref q2), (2, .ref q1), (1, .ref z), (0, .ref (aZ 0))]) dL_isCounted_81 (by decide) rfl ?_
      refine mk_aload_n C 8 dL_isCounted_83 rfl ?_
      refine mk_iload C 3 dL_isCounted_84 rfl ?_
      refine mk_iload C 1 dL_isCounted_86 rfl ?_
      refine mk_callXi C (c_Z_sends l D cI cJ cB cZ cS X Y aZ aR aT aD aY aP aS aC aO aA aM uQ uR uT uD uY uP uS uC uO uA uM (nI t) (nI i) 0 (hs)) mw_973 mw_974 mw_975 mw_1 mw_976 mkq_X8_sends rfl ⟨Nat.le_of_ble_eq_true rfl, Nat.le_of_ble_eq_true rfl⟩ ⟨Nat.le_of_ble_eq_true rfl, Nat.le_of_ble_eq_true rfl⟩ 8 rfl rfl rfl (mk_Fr.last [(z, .inr (9, [.int (nI (d 0)), .int (nI (d 1)), .int (nI (d 4)), .int (nI (d 5)), .ref aW, .ref aN, .ref aK, .ref aB, .ref xt])), (aW, .inl (cI, (d 4), .inl gW)), (aN, .inl (cI, (d 5), .inl gN)), (aK, .inl (cI, (d 5), .inl gK)), (aB, .inl (cS, (d 4), .inr (.inr (.inr (.inr fB))))), (q1, .inl (cI, (d 4), .inl kc)), (q2, .inl (cI, (d 4), .inl tc)), (q3, .inl (cZ, (d 4), .inl gc))] (wChan aZ aR aT aD aY aP aC aO aA aM ++ (wReader aR aT aD uR ++ (wTape aT cI uT ++ (wPlan aD cI uD ++ (wPlay aY aP aS (mk_crs aC aO uQ) cI uY ++ (wPlan aP cI uP ++ (wStack aS cI uS ++ (wCourse aC cI uC ++ (wCourse aO cI uO ++ (wActs aA cI uA ++ (wMeans aM cJ uM))))))))))) (wChan aZ aR aT aD aY aP aC aO aA aM ++ (wReader aR aT aD uR ++ (wTape aT cI uT ++ (wPlan aD cI uD ++ (wPlay aY aP aS (mk_crs aC aO uQ) cI uY ++ (wPlan aP cI uP ++ (wStack aS cI uS ++ (wCourse aC cI uC ++ (wCourse aO cI uO ++ (wActs aA cI uA ++ (wMeans aM cJ uM)))))))))))) (Nat.le_of_ble_eq_true rfl) dL_isCounted_88 rfl ?_
      refine mk_iload C 0 dL_isCounted_91 rfl ?_
      refine mk_if_eq C 100 dL_isCounted_93 (by decide) (fun _ => ?_) (fun h9 => absurd (rfl) h9)
      refine mk_iconst C (v := 0) dL_isCounted_100 (by decide) ?_
      refine mk_icmp_eq C 106 dL_isCounted_101 (by decide) (fun _ => ?_) (fun h9 => absurd (rfl) h9)
      refine mk_iload C 2 dL_isCounted_106 rfl ?_
      refine mk_iload C 0 dL_isCounted_108 rfl ?_
      refine mk_if_eq C 117 dL_isCounted_110 (by decide) (fun _ => ?_) (fun h9 => absurd (rfl) h9)
      refine mk_iconst C (v := 0) dL_isCounted_117 (by decide) ?_
      refine mk_iadd C dL_isCounted_118 ?_
      refine mk_topi (y := nI (cnM (MC d) t (i + 1))) (by rw [cnM, hm]; exact nI_add _ 0) ?_
      refine mk_istore C (lv' := [(6, .int (nI (cnM (MC d) t (i + 1)))), (8, .int 0), (7, .int (nI i)), (5, .int (nI t)), (4, .ref q3), (3, .ref q2), (2, .ref q1), (1, .ref z), (0, .ref (aZ 0))]) dL_isCounted_119 (by decide) rfl ?_
      refine mk_iinc C 2 (v := nI (i + 1)) (lv' := [(7, .int (nI (i + 1))), (6, .int (nI (cnM (MC d) t (i + 1)))), (8, .int 0), (5, .int (nI t)), (4, .ref q3), (3, .ref q2), (2, .ref q1), (1, .ref z), (0, .ref (aZ 0))]) dL_isCounted_121 rfl (nI_1 i) (by decide) rfl ?_
      refine mk_goto C 40 dL_isCounted_124 (by decide) ?_
      exact mk_lvsub [0, 1, 3, 4, 5, 6, 7, 8] rfl (ih (i + 1) (by omega))
    have k81_1 : MC d t i = true → mk_Go p l e ({ frames := 6, cells := 3, slots := 30, locals := 181 }) s m args below meth c D A 10 3 30 Q 81 ([(z, .inr (9, [.int (nI (d 0)), .int (nI (d 1)), .int (nI (d 4)), .int (nI (d 5)), .ref aW, .ref aN, .ref aK, .ref aB, .ref xt])), (aW, .inl (cI, (d 4), .inl gW)), (aN, .inl (cI, (d 5), .inl gN)), (aK, .inl (cI, (d 5), .inl gK)), (aB, .inl (cS, (d 4), .inr (.inr (.inr (.inr fB))))), (q1, .inl (cI, (d 4), .inl kc)), (q2, .inl (cI, (d 4), .inl tc)), (q3, .inl (cZ, (d 4), .inl gc))] ++ (wChan aZ aR aT aD aY aP aC aO aA aM ++ (wReader aR aT aD uR ++ (wTape aT cI uT ++ (wPlan aD cI uD ++ (wPlay aY aP aS (mk_crs aC aO uQ) cI uY ++ (wPlan aP cI uP ++ (wStack aS cI uS ++ (wCourse aC cI uC ++ (wCourse aO cI uO ++ (wActs aA cI uA ++ (wMeans aM cJ uM)))))))))))) [(7, .int (nI i)), (6, .int (nI (cnM (MC d) t i))), (5, .int (nI t)), (4, .ref q3), (3, .ref q2), (2, .ref q1), (1, .ref z), (0, .ref (aZ 0))] [.int 1] := by
      intro hm
      rw [hm] at hs
      refine mk_istore C (lv' := [(8, .int 1), (7, .int (nI i)), (6, .int (nI (cnM (MC d) t i))), (5, .int (nI t)), (4, .ref q3), (3, .ref q2), (2, .ref q1), (1, .ref z), (0, .ref (aZ 0))]) dL_isCounted_81 (by decide) rfl ?_
      refine mk_aload_n C 8 dL_isCounted_83 rfl ?_
      refine mk_iload C 3 dL_isCounted_84 rfl ?_
      refine mk_iload C 1 dL_isCounted_86 rfl ?_
      refine mk_callXi C (c_Z_sends l D cI cJ cB cZ cS X Y aZ aR aT aD aY aP aS aC aO aA aM uQ uR uT uD uY uP uS uC uO uA uM (nI t) (nI i) 1 (hs)) mw_973 mw_974 mw_975 mw_1 mw_976 mkq_X8_sends rfl ⟨Nat.le_of_ble_eq_true rfl, Nat.le_of_ble_eq_true rfl⟩ ⟨Nat.le_of_ble_eq_true rfl, Nat.le_of_ble_eq_true rfl⟩ 8 rfl rfl rfl (mk_Fr.last [(z, .inr (9, [.int (nI (d 0)), .int (nI (d 1)), .int (nI (d 4)), .int (nI (d 5)), .ref aW, .ref aN, .ref aK, .ref aB, .ref xt])), (aW, .inl (cI, (d 4), .inl gW)), (aN, .inl (cI, (d 5), .inl gN)), (aK, .inl (cI, (d 5), .inl gK)), (aB, .inl (cS, (d 4), .inr (.inr (.inr (.inr fB))))), (q1, .inl (cI, (d 4), .inl kc)), (q2, .inl (cI, (d 4), .inl tc)), (q3, .inl (cZ, (d 4), .inl gc))] (wChan aZ aR aT aD aY aP aC aO aA aM ++ (wReader aR aT aD uR ++ (wTape aT cI uT ++ (wPlan aD cI uD ++ (wPlay aY aP aS (mk_crs aC aO uQ) cI uY ++ (wPlan aP cI uP ++ (wStack aS cI uS ++ (wCourse aC cI uC ++ (wCourse aO cI uO ++ (wActs aA cI uA ++ (wMeans aM cJ uM))))))))))) (wChan aZ aR aT aD aY aP aC aO aA aM ++ (wReader aR aT aD uR ++ (wTape aT cI uT ++ (wPlan aD cI uD ++ (wPlay aY aP aS (mk_crs aC aO uQ) cI uY ++ (wPlan aP cI uP ++ (wStack aS cI uS ++ (wCourse aC cI uC ++ (wCourse aO cI uO ++ (wActs aA cI uA ++ (wMeans aM cJ uM)))))))))))) (Nat.le_of_ble_eq_true rfl) dL_isCounted_88 rfl ?_
      refine mk_iload C 0 dL_isCounted_91 rfl ?_
      refine mk_if_eq C 100 dL_isCounted_93 (by decide) (fun h9 => absurd h9 (by decide)) (fun _ => ?_)
      refine mk_iconst C (v := 1) dL_isCounted_96 (by decide) ?_
      refine mk_goto C 101 dL_isCounted_97 (by decide) ?_
      refine mk_icmp_eq C 106 dL_isCounted_101 (by decide) (fun _ => ?_) (fun h9 => absurd (rfl) h9)
      refine mk_iload C 2 dL_isCounted_106 rfl ?_
      refine mk_iload C 0 dL_isCounted_108 rfl ?_
      refine mk_if_eq C 117 dL_isCounted_110 (by decide) (fun h9 => absurd h9 (by decide)) (fun _ => ?_)
      refine mk_iconst C (v := 1) dL_isCounted_113 (by decide) ?_
      refine mk_goto C 118 dL_isCounted_114 (by decide) ?_
      refine mk_iadd C dL_isCounted_118 ?_
      refine mk_topi (y := nI (cnM (MC d) t (i + 1))) (by rw [cnM, hm]; exact nI_add _ 1) ?_
      refine mk_istore C (lv' := [(6, .int (nI (cnM (MC d) t (i + 1)))), (8, .int 1), (7, .int (nI i)), (5, .int (nI t)), (4, .ref q3), (3, .ref q2), (2, .ref q1), (1, .ref z), (0, .ref (aZ 0))]) dL_isCounted_119 (by decide) rfl ?_
      refine mk_iinc C 2 (v := nI (i + 1)) (lv' := [(7, .int (nI (i + 1))), (6, .int (nI (cnM (MC d) t (i + 1)))), (8, .int 1), (5, .int (nI t)), (4, .ref q3), (3, .ref q2), (2, .ref q1), (1, .ref z), (0, .ref (aZ 0))]) dL_isCounted_121 rfl (nI_1 i) (by decide) rfl ?_
      refine mk_goto C 40 dL_isCounted_124 (by decide) ?_
      exact mk_lvsub [0, 1, 3, 4, 5, 6, 7, 8] rfl (ih (i + 1) (by omega))
    refine mk_iload C 0 dL_isCounted_40 rfl ?_
    refine mk_aload_n C 6 dL_isCounted_42 rfl ?_
    refine mk_getN C 0 rfl 2 (by decide) (List.mem_of_getElem? (i := 2) rfl) (v := .int (nI (d 4))) rfl dL_isCounted_43 ?_
    refine mk_icmp_ge C 127 dL_isCounted_46 (by decide) (fun h9 => absurd h9 (jk_nle (by omega) (by omega))) (fun _ => ?_)
    refine mk_aload C 3 dL_isCounted_49 rfl ?_
    refine mk_iload C 0 dL_isCounted_51 rfl ?_
    refine mk_zald C 7 3 (f := gc) rfl rfl (vp_in_nI (by omega) (by omega)) (j := i) (nI_clamp (by omega)) dL_isCounted_53 ?_
    refine mk_topi (y := (bI ((ct d t).2.2 i))) (h3 i hi4) ?_
    refine mk_if_ne C 80 dL_isCounted_54 (by decide) (fun hc => ?_) (fun hc => ?_)
    · have hm : MC d t i = false := by unfold MC mC; have hg : (ct d t).2.2 i = true := by { cases hg : (ct d t).2.2 i with | false => (rw [hg] at hc; exact absurd rfl hc) | true => rfl }; rw [hg]; rfl
      refine mk_iconst C (v := 0) dL_isCounted_80 (by decide) ?_
      exact mk_lvsub [0, 1, 2, 3, 4, 5, 6, 7] rfl (k81_0 hm)
    · have hg : (ct d t).2.2 i = false := by cases hg : (ct d t).2.2 i with | true => (rw [hg] at hc; exact absurd hc (by decide)) | false => rfl
      refine mk_aload_n C 6 dL_isCounted_57 rfl ?_
      refine mk_getN C 0 rfl 4 (by decide) (List.mem_of_getElem? (i := 4) rfl) (v := .ref aW) rfl dL_isCounted_58 ?_
      refine mk_iload C 0 dL_isCounted_61 rfl ?_
      refine mk_iald C 1 0 (f := gW) rfl rfl (vp_in_nI (by omega) (by omega)) (j := i) (nI_clamp (by omega)) dL_isCounted_63 ?_
      refine mk_topi (y := nI (d (7 + i))) ((hz.2.2.2.1 i hi4).1) ?_
      refine mk_iload C 2 dL_isCounted_64 rfl ?_
      refine mk_icmp_gt C 80 dL_isCounted_66 (by decide) (fun hc2 => ?_) (fun hc2 => ?_)
      · have hm : MC d t i = false := by unfold MC mC; rw [decide_eq_false (show ¬ d (7 + i) ≤ t from fun y => nI_nlt y (by omega) hc2)]; rw [hg]; rfl
        refine mk_iconst C (v := 0) dL_isCounted_80 (by decide) ?_
        exact mk_lvsub [0, 1, 2, 3, 4, 5, 6, 7] rfl (k81_0 hm)
      · have h7 : d (7 + i) ≤ t := Nat.le_of_not_lt (fun y => hc2 (nI_lt y (by omega)))
        refine mk_aload_n C 5 dL_isCounted_69 rfl ?_
        refine mk_iload C 0 dL_isCounted_70 rfl ?_
        refine mk_iald C 5 0 (f := kc) rfl rfl (vp_in_nI (by omega) (by omega)) (j := i) (nI_clamp (by omega)) dL_isCounted_72 ?_
        refine mk_topi (y := nI ((ct d t).1 i)) (h1 i hi4) ?_
        refine mk_if_ne C 80 dL_isCounted_73 (by decide) (fun hc3 => ?_) (fun hc3 => ?_)
        · have hm : MC d t i = false := by unfold MC mC; rw [decide_eq_false (show ¬ (ct d t).1 i = 0 from fun y => hc3 (by rw [y]; rfl)), hg, decide_eq_true h7]; rfl
          refine mk_iconst C (v := 0) dL_isCounted_80 (by decide) ?_
          exact mk_lvsub [0, 1, 2, 3, 4, 5, 6, 7] rfl (k81_0 hm)
        · have hm : MC d t i = true := by unfold MC mC; rw [decide_eq_true (show (ct d t).1 i = 0 from (nI_eq (by omega) (by decide)).mp hc3), hg, decide_eq_true h7]; rfl
          refine mk_iconst C (v := 1) dL_isCounted_76 (by decide) ?_
          refine mk_goto C 81 dL_isCounted_77 (by decide) ?_
          exact mk_lvsub [0, 1, 2, 3, 4, 5, 6, 7] rfl (k81_1 hm)
