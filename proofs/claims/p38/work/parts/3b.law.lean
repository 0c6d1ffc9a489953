theorem mkq_X8_sends : mk_nm yX8_sends 2 := by decide +kernel
/-! what the law reckons for itself, slot by slot (law3.py) -/
def alM (d : Nat → Nat) (M : Nat → Nat → Bool) : Nat → Nat
  | 0 => 0
  | t + 1 => alM d M t + if onM d M t then 1 else 0
def trM (M : Nat → Nat → Bool) : Nat → Nat → Nat
  | 0, _ => 0
  | t + 1, i => trM M t i + if M t i then 1 else 0
def hsM (d : Nat → Nat) (M : Nat → Nat → Bool) : Nat → Nat → Nat
  | 0, _ => 0
  | t + 1, k => hsM d M t k + if hdM d M t = k then 1 else 0
def clM (d : Nat → Nat) (M : Nat → Nat → Bool) : Nat → Nat
  | 0 => 0
  | t + 1 => clM d M t + if 1 < cnM M t (d 4) then 1 else 0
def skM (r4 : Nat → Int32) : Nat → Int32
  | 0 => 0
  | t + 1 => skM r4 t + r4 t
def dpM (r3 : Nat → Int32) : Nat → Int32
  | 0 => 0
  | t + 1 => if dpM r3 t < r3 t then r3 t else dpM r3 t
def dnM (g : Nat → Int32) : Nat → Int32
  | 0 => -1
  | i + 1 => if dnM g i < g i then g i else dnM g i
theorem cnM_le (M : Nat → Nat → Bool) (t : Nat) : ∀ i, cnM M t i ≤ i
  | 0 => Nat.le_refl _
  | i + 1 => by
    have := cnM_le M t i
    unfold cnM
    split <;> omega
theorem trM_le (M : Nat → Nat → Bool) (i : Nat) : ∀ t, trM M t i ≤ t
  | 0 => Nat.le_refl _
  | t + 1 => by
    have := trM_le M i t
    unfold trM
    split <;> omega
theorem alM_le (d : Nat → Nat) (M : Nat → Nat → Bool) : ∀ t, alM d M t ≤ t
  | 0 => Nat.le_refl _
  | t + 1 => by
    have := alM_le d M t
    unfold alM
    split <;> omega
theorem hsM_le (d : Nat → Nat) (M : Nat → Nat → Bool) (k : Nat) : ∀ t, hsM d M t k ≤ t
  | 0 => Nat.le_refl _
  | t + 1 => by
    have := hsM_le d M k t
    unfold hsM
    split <;> omega
theorem clM_le (d : Nat → Nat) (M : Nat → Nat → Bool) : ∀ t, clM d M t ≤ t
  | 0 => Nat.le_refl _
  | t + 1 => by
    have := clM_le d M t
    unfold clM
    split <;> omega
/-- what the class must answer, for the law's check to hold -/
def SoF (d : Nat → Nat) (uP uC : Nat → Nat → Int32) (M : Nat → Nat → Bool) (r3 r4 : Nat → Int32) : Prop :=
  (∀ t, t < d 1 → ∀ i, i < d 4 → f_Z_sends uP uC (nI t) (nI i) = some (if M t i then 1 else 0)) ∧
  (∀ t, t < d 1 → ∀ i, i < d 4 → M t i = true → d (7 + i) ≤ t ∧ gnM d M t i = -1) ∧
  (∀ t, t < d 1 → f_Z_slot uP uC (nI t) 0 = some (nI (cnM M t (d 4))) ∧ f_Z_slot uP uC (nI t) 1 = some (nI (hdM d M t)) ∧ f_Z_slot uP uC (nI t) 2 = some (if onM d M t then lsM M t (d 4) else -1) ∧ f_Z_slot uP uC (nI t) 3 = some (r3 t) ∧ f_Z_slot uP uC (nI t) 4 = some (r4 t)) ∧
  (∀ t, t < d 1 → onM d M t = true → f_Z_order uP uC (nI (alM d M t)) = some (lsM M t (d 4)) ∧ ∃ i, i < d 4 ∧ lsM M t (d 4) = nI i) ∧
  (∀ i, i < d 4 → f_Z_delivered uP uC (nI i) = some (gnM d M (d 1) i) ∧ f_Z_tries uP uC (nI i) = some (nI (trM M (d 1) i))) ∧
  (f_Z_heard uP uC 0 = some (nI (hsM d M (d 1) 0)) ∧ f_Z_heard uP uC 1 = some (nI (hsM d M (d 1) 1)) ∧ f_Z_heard uP uC 2 = some (nI (hsM d M (d 1) 2))) ∧
  (f_Z_all uP uC = some (nI (alM d M (d 1))) ∧ f_Z_order uP uC (nI (alM d M (d 1))) = some (-1) ∧ f_Z_done uP uC = some (if alM d M (d 1) = d 4 then dnM (gnM d M (d 1)) (d 4) else -1) ∧ f_Z_collided uP uC = some (nI (clM d M (d 1))) ∧ f_Z_skips uP uC = some (skM r4 (d 1)) ∧ f_Z_deepest uP uC = some (dpM r3 (d 1)))
set_option maxHeartbeats 4000000 in
set_option maxRecDepth 100000 in
theorem so_in {p : Program} {l : Launch} {e : Env} {s : State} {m : MethodId} {args : Array Value} {below : List Frame} {meth : Method} {c : Code} {D : va_G} {A : Nat → Prop} {cI cJ cB cZ cS : ClassId} {X : Nat → Nat} {Y : mk_Y} (C : mk_Cx p s m args c cL_isSo 14 RL D (mk_TY cI cJ cB cZ cS) X Y A) {Q : State → Prop} {aZ aR aT aD aY aP aS aC aO aA aM : Nat → Nat} {uQ : Nat} {uR uT uD uY uP uS uC uO uA : Nat → Nat → Int32} {uM : Nat → Nat → Int64} {z q1 q2 q3 aW aN aK aB xt : Nat} {d : Nat → Nat} {gW gN gK : Nat → Int32} {fB : Nat → Option Nat} (hz : zRows d gW gN gK) {M : Nat → Nat → Bool} {r3 r4 : Nat → Int32} (hF : SoF d uP uC M r3 r4) {t : Nat} (ht : t < d 1) {gv hh : Nat → Int32} (hgv : ∀ j, j < d 4 → gv j = gnM d M t j) {x8 x7 x6 x5 : Int32} (K : ∀ tr, (∀ j, j < d 4 → tr j = nI (trM M (t + 1) j)) → mk_Go p l e ({ frames := 3, cells := 3, slots := 30, locals := 66 }) s m args below meth c D A 14 3 30 Q 164 ([(z, .inr (9, [.int (nI (d 0)), .int (nI (d 1)), .int (nI (d 4)), .int (nI (d 5)), .ref aW, .ref aN, .ref aK, .ref aB, .ref xt])), (aW, .inl (cI, (d 4), .inl gW)), (aN, .inl (cI, (d 5), .inl gN)), (aK, .inl (cI, (d 5), .inl gK)), (aB, .inl (cS, (d 4), .inr (.inr (.inr (.inr fB))))), (q1, .inl (cI, (d 4), .inl tr)), (q2, .inl (cI, (d 4), .inl gv)), (q3, .inl (cI, 3, .inl hh))] ++ (wChan aZ aR aT aD aY aP aC aO aA aM ++ (wReader aR aT aD uR ++ (wTape aT cI uT ++ (wPlan aD cI uD ++ (wPlay aY aP aS (mk_crs aC aO uQ) cI uY ++ (wPlan aP cI uP ++ (wStack aS cI uS ++ (wCourse aC cI uC ++ (wCourse aO cI uO ++ (wActs aA cI uA ++ (wMeans aM cJ uM)))))))))))) [(12, .int (nI (d 4))), (11, .int (lsM M t (d 4))), (10, .int (nI (cnM M t (d 4)))), (9, .int (nI t)), (8, .int x8), (7, .int x7), (6, .int x6), (5, .int x5), (4, .ref q3), (3, .ref q2), (2, .ref q1), (1, .ref z), (0, .ref (aZ 0))] []) : ∀ k i tr, i + k = d 4 → (∀ j, j < d 4 → tr j = nI (if j < i then trM M (t + 1) j else trM M t j)) → mk_Go p l e ({ frames := 3, cells := 3, slots := 30, locals := 66 }) s m args below meth c D A 14 3 30 Q 75 ([(z, .inr (9, [.int (nI (d 0)), .int (nI (d 1)), .int (nI (d 4)), .int (nI (d 5)), .ref aW, .ref aN, .ref aK, .ref aB, .ref xt])), (aW, .inl (cI, (d 4), .inl gW)), (aN, .inl (cI, (d 5), .inl gN)), (aK, .inl (cI, (d 5), .inl gK)), (aB, .inl (cS, (d 4), .inr (.inr (.inr (.inr fB))))), (q1, .inl (cI, (d 4), .inl tr)), (q2, .inl (cI, (d 4), .inl gv)), (q3, .inl (cI, 3, .inl hh))] ++ (wChan aZ aR aT aD aY aP aC aO aA aM ++ (wReader aR aT aD uR ++ (wTape aT cI uT ++ (wPlan aD cI uD ++ (wPlay aY aP aS (mk_crs aC aO uQ) cI uY ++ (wPlan aP cI uP ++ (wStack aS cI uS ++ (wCourse aC cI uC ++ (wCourse aO cI uO ++ (wActs aA cI uA ++ (wMeans aM cJ uM)))))))))))) [(12, .int (nI i)), (11, .int (lsM M t i)), (10, .int (nI (cnM M t i))), (9, .int (nI t)), (8, .int x8), (7, .int x7), (6, .int x6), (5, .int x5), (4, .ref q3), (3, .ref q2), (2, .ref q1), (1, .ref z), (0, .ref (aZ 0))] [] := by
  obtain ⟨hz1, hz4, hz5, -, -⟩ := id hz
  intro k
  induction k with
  | zero =>
    intro i tr hi hti
    have hi : i = d 4 := by omega
    refine mk_iload C 0 dL_isSo_75 rfl ?_
    refine mk_aload_n C 11 dL_isSo_77 rfl ?_
    refine mk_getN C 0 rfl 2 (by decide) (List.mem_of_getElem? (i := 2) rfl) (v := .int (nI (d 4))) rfl dL_isSo_78 ?_
    refine mk_icmp_ge C 164 dL_isSo_81 (by decide) (fun _ => ?_) (fun h9 => absurd (nI_le (by omega) (by omega)) h9)
    subst hi
    exact mk_lvsub [0, 1, 2, 3, 4, 5, 6, 7, 8, 9, 10, 11, 12] rfl (K tr (fun j hj => by rw [hti j hj, trM, if_pos hj]))
  | succ k ih =>
    intro i tr hi hti
    have hi4 : i < d 4 := by omega
    have hs := hF.1 t ht i hi4
    have hc8 := cnM_le M t i
    have ht8 := trM_le M i t
    refine mk_iload C 0 dL_isSo_75 rfl ?_
    refine mk_aload_n C 11 dL_isSo_77 rfl ?_
    refine mk_getN C 0 rfl 2 (by decide) (List.mem_of_getElem? (i := 2) rfl) (v := .int (nI (d 4))) rfl dL_isSo_78 ?_
    refine mk_icmp_ge C 164 dL_isSo_81 (by decide) (fun h9 => absurd h9 (jk_nle (by omega) (by omega))) (fun _ => ?_)
    cases hM : M t i with
    | false =>
      rw [hM] at hs
      refine mk_aload_n C 12 dL_isSo_84 rfl ?_
      refine mk_iload C 3 dL_isSo_85 rfl ?_
      refine mk_iload C 0 dL_isSo_87 rfl ?_
      refine mk_callXi C (c_Z_sends l D cI cJ cB cZ cS X Y aZ aR aT aD aY aP aS aC aO aA aM uQ uR uT uD uY uP uS uC uO uA uM (nI t) (nI i) 0 (hs)) mw_973 mw_974 mw_975 mw_1 mw_976 mkq_X8_sends rfl ⟨Nat.le_of_ble_eq_true rfl, Nat.le_of_ble_eq_true rfl⟩ ⟨Nat.le_of_ble_eq_true rfl, Nat.le_of_ble_eq_true rfl⟩ 8 rfl rfl rfl (mk_Fr.last [(z, .inr (9, [.int (nI (d 0)), .int (nI (d 1)), .int (nI (d 4)), .int (nI (d 5)), .ref aW, .ref aN, .ref aK, .ref aB, .ref xt])), (aW, .inl (cI, (d 4), .inl gW)), (aN, .inl (cI, (d 5), .inl gN)), (aK, .inl (cI, (d 5), .inl gK)), (aB, .inl (cS, (d 4), .inr (.inr (.inr (.inr fB))))), (q1, .inl (cI, (d 4), .inl tr)), (q2, .inl (cI, (d 4), .inl gv)), (q3, .inl (cI, 3, .inl hh))] (wChan aZ aR aT aD aY aP aC aO aA aM ++ (wReader aR aT aD uR ++ (wTape aT cI uT ++ (wPlan aD cI uD ++ (wPlay aY aP aS (mk_crs aC aO uQ) cI uY ++ (wPlan aP cI uP ++ (wStack aS cI uS ++ (wCourse aC cI uC ++ (wCourse aO cI uO ++ (wActs aA cI uA ++ (wMeans aM cJ uM))))))))))) (wChan aZ aR aT aD aY aP aC aO aA aM ++ (wReader aR aT aD uR ++ (wTape aT cI uT ++ (wPlan aD cI uD ++ (wPlay aY aP aS (mk_crs aC aO uQ) cI uY ++ (wPlan aP cI uP ++ (wStack aS cI uS ++ (wCourse aC cI uC ++ (wCourse aO cI uO ++ (wActs aA cI uA ++ (wMeans aM cJ uM)))))))))))) (Nat.le_of_ble_eq_true rfl) dL_isSo_89 rfl ?_
      refine mk_istore C (lv' := [(13, .int 0), (12, .int (nI i)), (11, .int (lsM M t i)), (10, .int (nI (cnM M t i))), (9, .int (nI t)), (8, .int x8), (7, .int x7), (6, .int x6), (5, .int x5), (4, .ref q3), (3, .ref q2), (2, .ref q1), (1, .ref z), (0, .ref (aZ 0))]) dL_isSo_92 (by decide) rfl ?_
      refine mk_iload C 0 dL_isSo_94 rfl ?_
      refine mk_if_lt C 130 dL_isSo_96 (by decide) (fun h9 => absurd h9 (by decide)) (fun _ => ?_)
      refine mk_iload C 0 dL_isSo_99 rfl ?_
      refine mk_iconst C (v := 1) dL_isSo_101 (by decide) ?_
      refine mk_icmp_gt C 130 dL_isSo_102 (by decide) (fun h9 => absurd h9 (by decide)) (fun _ => ?_)
      refine mk_iload C 0 dL_isSo_105 rfl ?_
      refine mk_iconst C (v := 1) dL_isSo_107 (by decide) ?_
      refine mk_icmp_ne C 132 dL_isSo_108 (by decide) (fun _ => ?_) (fun h9 => absurd h9 (by decide))
      refine mk_aload_n C 11 dL_isSo_132 rfl ?_
      refine mk_iload C 1 dL_isSo_133 rfl ?_
      refine mk_dup2 C dL_isSo_135 rfl rfl ?_
      refine mk_iald C 5 0 (f := tr) rfl rfl (vp_in_nI (by omega) (by omega)) (j := i) (nI_clamp (by omega)) dL_isSo_136 ?_
      refine mk_iload C 0 dL_isSo_137 rfl ?_
      refine mk_iadd C dL_isSo_139 ?_
      refine mk_iast C 5 0 (f := tr) rfl rfl (vp_in_nI (by omega) (by omega)) (j := i) (nI_clamp (by omega)) (ws' := ([(z, .inr (9, [.int (nI (d 0)), .int (nI (d 1)), .int (nI (d 4)), .int (nI (d 5)), .ref aW, .ref aN, .ref aK, .ref aB, .ref xt])), (aW, .inl (cI, (d 4), .inl gW)), (aN, .inl (cI, (d 5), .inl gN)), (aK, .inl (cI, (d 5), .inl gK)), (aB, .inl (cS, (d 4), .inr (.inr (.inr (.inr fB))))), (q1, .inl (cI, (d 4), .inl (upd tr i ((tr i) + 0)))), (q2, .inl (cI, (d 4), .inl gv)), (q3, .inl (cI, 3, .inl hh))] ++ (wChan aZ aR aT aD aY aP aC aO aA aM ++ (wReader aR aT aD uR ++ (wTape aT cI uT ++ (wPlan aD cI uD ++ (wPlay aY aP aS (mk_crs aC aO uQ) cI uY ++ (wPlan aP cI uP ++ (wStack aS cI uS ++ (wCourse aC cI uC ++ (wCourse aO cI uO ++ (wActs aA cI uA ++ (wMeans aM cJ uM))))))))))))) rfl dL_isSo_140 ?_
      refine mk_iload C 3 dL_isSo_141 rfl ?_
      refine mk_iload C 0 dL_isSo_143 rfl ?_
      refine mk_iadd C dL_isSo_145 ?_
      refine mk_topi (y := nI (cnM M t (i + 1))) (by rw [cnM, hM]; exact nI_add _ 0) ?_
      refine mk_istore C (lv' := [(10, .int (nI (cnM M t (i + 1)))), (13, .int 0), (12, .int (nI i)), (11, .int (lsM M t i)), (9, .int (nI t)), (8, .int x8), (7, .int x7), (6, .int x6), (5, .int x5), (4, .ref q3), (3, .ref q2), (2, .ref q1), (1, .ref z), (0, .ref (aZ 0))]) dL_isSo_146 (by decide) rfl ?_
      refine mk_iload C 1 dL_isSo_148 rfl ?_
      refine mk_iconst C (v := 1) dL_isSo_150 (by decide) ?_
      refine mk_icmp_ne C 158 dL_isSo_151 (by decide) (fun _ => ?_) (fun h9 => absurd h9 (by decide))
      refine mk_iinc C 2 (v := nI (i + 1)) (lv' := [(12, .int (nI (i + 1))), (10, .int (nI (cnM M t (i + 1)))), (13, .int 0), (11, .int (lsM M t i)), (9, .int (nI t)), (8, .int x8), (7, .int x7), (6, .int x6), (5, .int x5), (4, .ref q3), (3, .ref q2), (2, .ref q1), (1, .ref z), (0, .ref (aZ 0))]) dL_isSo_158 rfl (nI_1 i) (by decide) rfl ?_
      refine mk_goto C 75 dL_isSo_161 (by decide) ?_
      have e11 : lsM M t i = lsM M t (i + 1) := by rw [lsM, hM]; rfl
      rw [e11]
      refine mk_lvsub [0, 3, 1, 4, 5, 6, 7, 8, 9, 10, 11, 12, 13] rfl (ih (i + 1) (upd tr i ((tr i) + 0)) (by omega) (fun j hj => ?_))
      by_cases q : j = i
      · subst q
        rw [pk_us, hti j hj, if_neg (by omega), if_pos (by omega), trM, hM]
        exact nI_add _ 0
      · rw [pk_un q, hti j hj]
        by_cases q2 : j < i
        · rw [if_pos q2, if_pos (by omega)]
        · rw [if_neg q2, if_neg (by omega)]
    | true =>
      rw [hM] at hs
      refine mk_aload_n C 12 dL_isSo_84 rfl ?_
      refine mk_iload C 3 dL_isSo_85 rfl ?_
      refine mk_iload C 0 dL_isSo_87 rfl ?_
      refine mk_callXi C (c_Z_sends l D cI cJ cB cZ cS X Y aZ aR aT aD aY aP aS aC aO aA aM uQ uR uT uD uY uP uS uC uO uA uM (nI t) (nI i) 1 (hs)) mw_973 mw_974 mw_975 mw_1 mw_976 mkq_X8_sends rfl ⟨Nat.le_of_ble_eq_true rfl, Nat.le_of_ble_eq_true rfl⟩ ⟨Nat.le_of_ble_eq_true rfl, Nat.le_of_ble_eq_true rfl⟩ 8 rfl rfl rfl (mk_Fr.last [(z, .inr (9, [.int (nI (d 0)), .int (nI (d 1)), .int (nI (d 4)), .int (nI (d 5)), .ref aW, .ref aN, .ref aK, .ref aB, .ref xt])), (aW, .inl (cI, (d 4), .inl gW)), (aN, .inl (cI, (d 5), .inl gN)), (aK, .inl (cI, (d 5), .inl gK)), (aB, .inl (cS, (d 4), .inr (.inr (.inr (.inr fB))))), (q1, .inl (cI, (d 4), .inl tr)), (q2, .inl (cI, (d 4), .inl gv)), (q3, .inl (cI, 3, .inl hh))] (wChan aZ aR aT aD aY aP aC aO aA aM ++ (wReader aR aT aD uR ++ (wTape aT cI uT ++ (wPlan aD cI uD ++ (wPlay aY aP aS (mk_crs aC aO uQ) cI uY ++ (wPlan aP cI uP ++ (wStack aS cI uS ++ (wCourse aC cI uC ++ (wCourse aO cI uO ++ (wActs aA cI uA ++ (wMeans aM cJ uM))))))))))) (wChan aZ aR aT aD aY aP aC aO aA aM ++ (wReader aR aT aD uR ++ (wTape aT cI uT ++ (wPlan aD cI uD ++ (wPlay aY aP aS (mk_crs aC aO uQ) cI uY ++ (wPlan aP cI uP ++ (wStack aS cI uS ++ (wCourse aC cI uC ++ (wCourse aO cI uO ++ (wActs aA cI uA ++ (wMeans aM cJ uM)))))))))))) (Nat.le_of_ble_eq_true rfl) dL_isSo_89 rfl ?_
      refine mk_istore C (lv' := [(13, .int 1), (12, .int (nI i)), (11, .int (lsM M t i)), (10, .int (nI (cnM M t i))), (9, .int (nI t)), (8, .int x8), (7, .int x7), (6, .int x6), (5, .int x5), (4, .ref q3), (3, .ref q2), (2, .ref q1), (1, .ref z), (0, .ref (aZ 0))]) dL_isSo_92 (by decide) rfl ?_
      refine mk_iload C 0 dL_isSo_94 rfl ?_
      refine mk_if_lt C 130 dL_isSo_96 (by decide) (fun h9 => absurd h9 (by decide)) (fun _ => ?_)
      refine mk_iload C 0 dL_isSo_99 rfl ?_
      refine mk_iconst C (v := 1) dL_isSo_101 (by decide) ?_
      refine mk_icmp_gt C 130 dL_isSo_102 (by decide) (fun h9 => absurd h9 (by decide)) (fun _ => ?_)
      refine mk_iload C 0 dL_isSo_105 rfl ?_
      refine mk_iconst C (v := 1) dL_isSo_107 (by decide) ?_
      refine mk_icmp_ne C 132 dL_isSo_108 (by decide) (fun h9 => absurd h9 (fun z => z rfl)) (fun _ => ?_)
      obtain ⟨hd7, hgn⟩ := hF.2.1 t ht i hi4 hM
      refine mk_iload C 4 dL_isSo_111 rfl ?_
      refine mk_aload_n C 12 dL_isSo_113 rfl ?_
      refine mk_getN C 0 rfl 4 (by decide) (List.mem_of_getElem? (i := 4) rfl) (v := .ref aW) rfl dL_isSo_114 ?_
      refine mk_iload C 1 dL_isSo_117 rfl ?_
      refine mk_iald C 1 0 (f := gW) rfl rfl (vp_in_nI (by omega) (by omega)) (j := i) (nI_clamp (by omega)) dL_isSo_119 ?_
      refine mk_topi (y := nI (d (7 + i))) ((hz.2.2.2.1 i hi4).1) ?_
      refine mk_icmp_lt C 130 dL_isSo_120 (by decide) (fun h9 => absurd h9 (nI_nlt hd7 (by omega))) (fun _ => ?_)
      refine mk_aload_n C 10 dL_isSo_123 rfl ?_
      refine mk_iload C 1 dL_isSo_124 rfl ?_
      refine mk_iald C 6 0 (f := gv) rfl rfl (vp_in_nI (by omega) (by omega)) (j := i) (nI_clamp (by omega)) dL_isSo_126 ?_
      refine mk_topi (y := (-1)) (by rw [hgv i hi4]; exact hgn) ?_
      refine mk_if_lt C 132 dL_isSo_127 (by decide) (fun _ => ?_) (fun h9 => absurd (by decide) h9)
      refine mk_aload_n C 11 dL_isSo_132 rfl ?_
      refine mk_iload C 1 dL_isSo_133 rfl ?_
      refine mk_dup2 C dL_isSo_135 rfl rfl ?_
      refine mk_iald C 5 0 (f := tr) rfl rfl (vp_in_nI (by omega) (by omega)) (j := i) (nI_clamp (by omega)) dL_isSo_136 ?_
      refine mk_iload C 0 dL_isSo_137 rfl ?_
      refine mk_iadd C dL_isSo_139 ?_
      refine mk_iast C 5 0 (f := tr) rfl rfl (vp_in_nI (by omega) (by omega)) (j := i) (nI_clamp (by omega)) (ws' := ([(z, .inr (9, [.int (nI (d 0)), .int (nI (d 1)), .int (nI (d 4)), .int (nI (d 5)), .ref aW, .ref aN, .ref aK, .ref aB, .ref xt])), (aW, .inl (cI, (d 4), .inl gW)), (aN, .inl (cI, (d 5), .inl gN)), (aK, .inl (cI, (d 5), .inl gK)), (aB, .inl (cS, (d 4), .inr (.inr (.inr (.inr fB))))), (q1, .inl (cI, (d 4), .inl (upd tr i ((tr i) + 1)))), (q2, .inl (cI, (d 4), .inl gv)), (q3, .inl (cI, 3, .inl hh))] ++ (wChan aZ aR aT aD aY aP aC aO aA aM ++ (wReader aR aT aD uR ++ (wTape aT cI uT ++ (wPlan aD cI uD ++ (wPlay aY aP aS (mk_crs aC aO uQ) cI uY ++ (wPlan aP cI uP ++ (wStack aS cI uS ++ (wCourse aC cI uC ++ (wCourse aO cI uO ++ (wActs aA cI uA ++ (wMeans aM cJ uM))))))))))))) rfl dL_isSo_140 ?_
      refine mk_iload C 3 dL_isSo_141 rfl ?_
      refine mk_iload C 0 dL_isSo_143 rfl ?_
      refine mk_iadd C dL_isSo_145 ?_
      refine mk_topi (y := nI (cnM M t (i + 1))) (by rw [cnM, hM]; exact nI_add _ 1) ?_
      refine mk_istore C (lv' := [(10, .int (nI (cnM M t (i + 1)))), (13, .int 1), (12, .int (nI i)), (11, .int (lsM M t i)), (9, .int (nI t)), (8, .int x8), (7, .int x7), (6, .int x6), (5, .int x5), (4, .ref q3), (3, .ref q2), (2, .ref q1), (1, .ref z), (0, .ref (aZ 0))]) dL_isSo_146 (by decide) rfl ?_
      refine mk_iload C 1 dL_isSo_148 rfl ?_
      refine mk_iconst C (v := 1) dL_isSo_150 (by decide) ?_
      refine mk_icmp_ne C 158 dL_isSo_151 (by decide) (fun h9 => absurd h9 (fun z => z rfl)) (fun _ => ?_)
      refine mk_iload C 2 dL_isSo_154 rfl ?_
      refine mk_istore C (lv' := [(11, .int (nI i)), (10, .int (nI (cnM M t (i + 1)))), (13, .int 1), (12, .int (nI i)), (9, .int (nI t)), (8, .int x8), (7, .int x7), (6, .int x6), (5, .int x5), (4, .ref q3), (3, .ref q2), (2, .ref q1), (1, .ref z), (0, .ref (aZ 0))]) dL_isSo_156 (by decide) rfl ?_
      refine mk_iinc C 3 (v := nI (i + 1)) (lv' := [(12, .int (nI (i + 1))), (11, .int (nI i)), (10, .int (nI (cnM M t (i + 1)))), (13, .int 1), (9, .int (nI t)), (8, .int x8), (7, .int x7), (6, .int x6), (5, .int x5), (4, .ref q3), (3, .ref q2), (2, .ref q1), (1, .ref z), (0, .ref (aZ 0))]) dL_isSo_158 rfl (nI_1 i) (by decide) rfl ?_
      refine mk_goto C 75 dL_isSo_161 (by decide) ?_
      have e11 : nI i = lsM M t (i + 1) := by rw [lsM, hM]; rfl
      rw [e11]
      refine mk_lvsub [0, 1, 2, 4, 5, 6, 7, 8, 9, 10, 11, 12, 13] rfl (ih (i + 1) (upd tr i ((tr i) + 1)) (by omega) (fun j hj => ?_))
      by_cases q : j = i
      · subst q
        rw [pk_us, hti j hj, if_neg (by omega), if_pos (by omega), trM, hM]
        exact nI_add _ 1
      · rw [pk_un q, hti j hj]
        by_cases q2 : j < i
        · rw [if_pos q2, if_pos (by omega)]
        · rw [if_neg q2, if_neg (by omega)]
