theorem mkq_J0_charAt_5068e : mk_nm yJ0_charAt_5068e 1 := by decide +kernel
section MKE
variable {p : Program} {l : Launch} {e : Env} {R : Room} {s : State} {m : MethodId} {args : Array Value} {below : List Frame} {meth : Method} {c : Code} {D : va_G} {A : Nat → Prop} {nL cells slots : Nat} {Q : State → Prop} {pc : Nat} {ws : va_W} {lv : mk_L} {st : List Value} {cc : ByteArray} {own : String} {cI cJ cB cZ cS : ClassId} {X : Nat → Nat} {Y : mk_Y}
/-- a string's own method, at whatever rooms -/
theorem mk_callXe (C : mk_Cx p s m args c cc nL own D (mk_TY cI cJ cB cZ cS) X Y A) {y : MethodName} {cy : ByteArray} {nY index n : Nat} {ret : Option FieldType} {fr lo : Nat} {k : Nat} {As stk : List Value} {r : Int32} (hM : mk_Met l y cy nY ret ({ frames := fr, cells := 0, slots := 0, locals := lo } : Room) D (mk_TY cI cJ cB cZ cS) X Y (.ref (X k) :: As) [] [] (some (.int r)) 0 0) (h1 : Cond.methodLink own index y ∈ mk_WL) (h2 : Cond.instanceMethod y ∈ mk_WL) (h3 : Cond.selects y.cls y y ∈ mk_WL) (h4 : Cond.initialized y.cls ∈ mk_WL) (h5 : Cond.code y cy nY ret ∈ mk_WL) (hn : mk_nm y n) (hAs : As.length = n) (hR : fr + 1 ≤ R.frames ∧ 8 + (nY + 11) + lo ≤ R.locals) (hroom : cells ≤ R.cells ∧ slots ≤ R.slots) (hy : y.cls = "java/lang/String") (hst : (st.map fun v => v.category).sum ≤ 8) (hdg : decode cc pc = .ok (.invokevirtual index, 3)) (hs : stk = As.reverse ++ .ref (X k) :: st) (kk : mk_Go p l e R s m args below meth c D A nL cells slots Q (pc + 3) ws lv (.int r :: st)) : mk_Go p l e R s m args below meth c D A nL cells slots Q pc ws lv stk := by
  refine mk_callEG (wr := ws) (wc := []) C hM.G h1 h2 h3 h4 h5 hn hAs hR ⟨rfl, rfl⟩ hroom hy (by rw [List.append_nil]) hst hdg hs (fun u _ => ?_)
  rw [List.append_nil]
  exact kk
end MKE
theorem bI_48 (b : Bool) : nI (48 + if b then 1 else 0) - 48 = nI (if b then 1 else 0) := by cases b <;> decide +kernel
theorem lw_mx {a b : Nat} (ha : a < 2 ^ 31) (hb : b < 2 ^ 31) : (if nI a < nI b then nI b else nI a) = nI (if a < b then b else a) := by
  by_cases q : a < b
  · rw [if_pos (nI_lt q hb), if_pos q]
  · rw [if_neg (fun z => q ((nI_ltI ha hb).mp z)), if_neg q]
set_option maxHeartbeats 4000000 in
set_option maxRecDepth 100000 in
theorem ic_b {p : Program} {l : Launch} {e : Env} {s : State} {m : MethodId} {args : Array Value} {below : List Frame} {meth : Method} {c : Code} {D : va_G} {A : Nat → Prop} {cI cJ cB cZ cS : ClassId} {X : Nat → Nat} {Y : mk_Y} (C : mk_Cx p s m args c cL_isCounted 10 RL D (mk_TY cI cJ cB cZ cS) X Y A) {Q : State → Prop} {aZ aR aT aD aY aP aS aC aO aA aM : Nat → Nat} {uQ : Nat} {uR uT uD uY uP uS uC uO uA : Nat → Nat → Int32} {uM : Nat → Nat → Int64} {z q1 q2 q3 aW aN aK aB xt : Nat} {d : Nat → Nat} {gW gN gK : Nat → Int32} {fB : Nat → Option Nat} (hz : zRows d gW gN gK) (hb : zBits d fB X Y) (hF : SoC d uP uC) {t : Nat} (ht : t < d 1) (hSp : ∀ k, mk_Sp (Y.1 k)) (K2 : ∀ kc tc gc : Nat → Int32, (∀ j, j < d 4 → kc j = nI ((ct d (t + 1)).1 j)) → (∀ j, j < d 4 → tc j = nI ((ct d (t + 1)).2.1 j)) → (∀ j, j < d 4 → gc j = bI ((ct d (t + 1)).2.2 j)) → mk_Go p l e ({ frames := 6, cells := 3, slots := 30, locals := 181 }) s m args below meth c D A 10 3 30 Q 298 ([(z, .inr (9, [.int (nI (d 0)), .int (nI (d 1)), .int (nI (d 4)), .int (nI (d 5)), .ref aW, .ref aN, .ref aK, .ref aB, .ref xt])), (aW, .inl (cI, (d 4), .inl gW)), (aN, .inl (cI, (d 5), .inl gN)), (aK, .inl (cI, (d 5), .inl gK)), (aB, .inl (cS, (d 4), .inr (.inr (.inr (.inr fB))))), (q1, .inl (cI, (d 4), .inl kc)), (q2, .inl (cI, (d 4), .inl tc)), (q3, .inl (cZ, (d 4), .inl gc))] ++ (wChan aZ aR aT aD aY aP aC aO aA aM ++ (wReader aR aT aD uR ++ (wTape aT cI uT ++ (wPlan aD cI uD ++ (wPlay aY aP aS (mk_crs aC aO uQ) cI uY ++ (wPlan aP cI uP ++ (wStack aS cI uS ++ (wCourse aC cI uC ++ (wCourse aO cI uO ++ (wActs aA cI uA ++ (wMeans aM cJ uM)))))))))))) [(8, .int (nI (dpC d t (d 4)))), (7, .int (nI (hdM d (MC d) t))), (6, .int (nI (cnM (MC d) t (d 4)))), (5, .int (nI t)), (4, .ref q3), (3, .ref q2), (2, .ref q1), (1, .ref z), (0, .ref (aZ 0))] []) : ∀ k i kc tc gc, i + k = d 4 → (∀ j, j < d 4 → kc j = nI (if j < i then (ct d (t + 1)).1 j else (ct d t).1 j)) → (∀ j, j < d 4 → tc j = nI (if j < i then (ct d (t + 1)).2.1 j else (ct d t).2.1 j)) → (∀ j, j < d 4 → gc j = bI (if j < i then (ct d (t + 1)).2.2 j else (ct d t).2.2 j)) → mk_Go p l e ({ frames := 6, cells := 3, slots := 30, locals := 181 }) s m args below meth c D A 10 3 30 Q 143 ([(z, .inr (9, [.int (nI (d 0)), .int (nI (d 1)), .int (nI (d 4)), .int (nI (d 5)), .ref aW, .ref aN, .ref aK, .ref aB, .ref xt])), (aW, .inl (cI, (d 4), .inl gW)), (aN, .inl (cI, (d 5), .inl gN)), (aK, .inl (cI, (d 5), .inl gK)), (aB, .inl (cS, (d 4), .inr (.inr (.inr (.inr fB))))), (q1, .inl (cI, (d 4), .inl kc)), (q2, .inl (cI, (d 4), .inl tc)), (q3, .inl (cZ, (d 4), .inl gc))] ++ (wChan aZ aR aT aD aY aP aC aO aA aM ++ (wReader aR aT aD uR ++ (wTape aT cI uT ++ (wPlan aD cI uD ++ (wPlay aY aP aS (mk_crs aC aO uQ) cI uY ++ (wPlan aP cI uP ++ (wStack aS cI uS ++ (wCourse aC cI uC ++ (wCourse aO cI uO ++ (wActs aA cI uA ++ (wMeans aM cJ uM)))))))))))) [(9, .int (nI i)), (8, .int (nI (dpC d t i))), (7, .int (nI (hdM d (MC d) t))), (6, .int (nI (cnM (MC d) t (d 4)))), (5, .int (nI t)), (4, .ref q3), (3, .ref q2), (2, .ref q1), (1, .ref z), (0, .ref (aZ 0))] [] := by
  obtain ⟨hz1, hz4, hz5, -, -⟩ := id hz
  intro k
  induction k with
  | zero =>
    intro i kc tc gc hk h1 h2 h3
    obtain rfl : i = d 4 := by omega
    refine mk_iload C 0 dL_isCounted_143 rfl ?_
    refine mk_aload_n C 8 dL_isCounted_145 rfl ?_
    refine mk_getN C 0 rfl 2 (by decide) (List.mem_of_getElem? (i := 2) rfl) (v := .int (nI (d 4))) rfl dL_isCounted_146 ?_
    refine mk_icmp_ge C 298 dL_isCounted_149 (by decide) (fun _ => ?_) (fun h9 => absurd (nI_le (by omega) (by omega)) h9)
    exact mk_lvsub [1, 2, 3, 4, 5, 6, 7, 8, 9] rfl (K2 kc tc gc (fun j hj => by rw [h1 j hj, if_pos hj]) (fun j hj => by rw [h2 j hj, if_pos hj]) (fun j hj => by rw [h3 j hj, if_pos hj]))
  | succ k ih =>
    intro i kc tc gc hk h1 h2 h3
    have hi4 : i < d 4 := by omega
    have hd7 := (hz.2.2.2.1 i hi4).2
    have hki := ct_le d i t
    have hki1 := ct_le d i (t + 1)
    have hdp := dpC_le d t i
    have hcn := cnM_le (MC d) t (d 4)
    have hd2 : hdM d (MC d) t ≤ 2 := hvN_le hz t _ (d 5) 0 (by omega)
    have f1 : kc i = nI ((ct d t).1 i) := by rw [h1 i hi4, if_neg (by omega)]
    have f2 : tc i = nI ((ct d t).2.1 i) := by rw [h2 i hi4, if_neg (by omega)]
    have f3 : gc i = bI ((ct d t).2.2 i) := by rw [h3 i hi4, if_neg (by omega)]
    have key : ∀ kc' tc' gc' : Nat → Int32, (∀ j, j < d 4 → kc' j = nI (if j < i + 1 then (ct d (t + 1)).1 j else (ct d t).1 j)) → (∀ j, j < d 4 → tc' j = nI (if j < i + 1 then (ct d (t + 1)).2.1 j else (ct d t).2.1 j)) → (∀ j, j < d 4 → gc' j = bI (if j < i + 1 then (ct d (t + 1)).2.2 j else (ct d t).2.2 j)) → mk_Go p l e ({ frames := 6, cells := 3, slots := 30, locals := 181 }) s m args below meth c D A 10 3 30 Q 292 ([(z, .inr (9, [.int (nI (d 0)), .int (nI (d 1)), .int (nI (d 4)), .int (nI (d 5)), .ref aW, .ref aN, .ref aK, .ref aB, .ref xt])), (aW, .inl (cI, (d 4), .inl gW)), (aN, .inl (cI, (d 5), .inl gN)), (aK, .inl (cI, (d 5), .inl gK)), (aB, .inl (cS, (d 4), .inr (.inr (.inr (.inr fB))))), (q1, .inl (cI, (d 4), .inl kc')), (q2, .inl (cI, (d 4), .inl tc')), (q3, .inl (cZ, (d 4), .inl gc'))] ++ (wChan aZ aR aT aD aY aP aC aO aA aM ++ (wReader aR aT aD uR ++ (wTape aT cI uT ++ (wPlan aD cI uD ++ (wPlay aY aP aS (mk_crs aC aO uQ) cI uY ++ (wPlan aP cI uP ++ (wStack aS cI uS ++ (wCourse aC cI uC ++ (wCourse aO cI uO ++ (wActs aA cI uA ++ (wMeans aM cJ uM)))))))))))) [(9, .int (nI i)), (8, .int (nI (dpC d t (i + 1)))), (7, .int (nI (hdM d (MC d) t))), (6, .int (nI (cnM (MC d) t (d 4)))), (5, .int (nI t)), (4, .ref q3), (3, .ref q2), (2, .ref q1), (1, .ref z), (0, .ref (aZ 0))] [] := by
      intro kc' tc' gc' g1 g2 g3
      refine mk_iinc C 0 (v := nI (i + 1)) (lv' := [(9, .int (nI (i + 1))), (8, .int (nI (dpC d t (i + 1)))), (7, .int (nI (hdM d (MC d) t))), (6, .int (nI (cnM (MC d) t (d 4)))), (5, .int (nI t)), (4, .ref q3), (3, .ref q2), (2, .ref q1), (1, .ref z), (0, .ref (aZ 0))]) dL_isCounted_292 rfl (nI_1 i) (by decide) rfl ?_
      refine mk_goto C 143 dL_isCounted_295 (by decide) ?_
      exact mk_lvsub [0, 1, 2, 3, 4, 5, 6, 7, 8, 9] rfl (ih (i + 1) kc' tc' gc' (by omega) g1 g2 g3)
    have k271 : acv d t (ct d t) i = true → ∀ kc' tc' gc' : Nat → Int32, (∀ j, j < d 4 → kc' j = nI (if j < i + 1 then (ct d (t + 1)).1 j else (ct d t).1 j)) → (∀ j, j < d 4 → tc' j = nI (if j < i + 1 then (ct d (t + 1)).2.1 j else (ct d t).2.1 j)) → (∀ j, j < d 4 → gc' j = bI (if j < i + 1 then (ct d (t + 1)).2.2 j else (ct d t).2.2 j)) → mk_Go p l e ({ frames := 6, cells := 3, slots := 30, locals := 181 }) s m args below meth c D A 10 3 30 Q 271 ([(z, .inr (9, [.int (nI (d 0)), .int (nI (d 1)), .int (nI (d 4)), .int (nI (d 5)), .ref aW, .ref aN, .ref aK, .ref aB, .ref xt])), (aW, .inl (cI, (d 4), .inl gW)), (aN, .inl (cI, (d 5), .inl gN)), (aK, .inl (cI, (d 5), .inl gK)), (aB, .inl (cS, (d 4), .inr (.inr (.inr (.inr fB))))), (q1, .inl (cI, (d 4), .inl kc')), (q2, .inl (cI, (d 4), .inl tc')), (q3, .inl (cZ, (d 4), .inl gc'))] ++ (wChan aZ aR aT aD aY aP aC aO aA aM ++ (wReader aR aT aD uR ++ (wTape aT cI uT ++ (wPlan aD cI uD ++ (wPlay aY aP aS (mk_crs aC aO uQ) cI uY ++ (wPlan aP cI uP ++ (wStack aS cI uS ++ (wCourse aC cI uC ++ (wCourse aO cI uO ++ (wActs aA cI uA ++ (wMeans aM cJ uM)))))))))))) [(9, .int (nI i)), (8, .int (nI (dpC d t i))), (7, .int (nI (hdM d (MC d) t))), (6, .int (nI (cnM (MC d) t (d 4)))), (5, .int (nI t)), (4, .ref q3), (3, .ref q2), (2, .ref q1), (1, .ref z), (0, .ref (aZ 0))] [] := by
      intro ha kc' tc' gc' g1 g2 g3
      have e1 : kc' i = nI ((ct d (t + 1)).1 i) := by rw [g1 i hi4, if_pos (by omega)]
      have e3 : gc' i = bI ((ct d (t + 1)).2.2 i) := by rw [g3 i hi4, if_pos (by omega)]
      refine mk_aload C 5 dL_isCounted_271 rfl ?_
      refine mk_iload C 0 dL_isCounted_273 rfl ?_
      refine mk_zald C 7 3 (f := gc') rfl rfl (vp_in_nI (by omega) (by omega)) (j := i) (nI_clamp (by omega)) dL_isCounted_275 ?_
      refine mk_topi (y := (bI ((ct d (t + 1)).2.2 i))) (e3) ?_
      cases hg : (ct d (t + 1)).2.2 i with
      | true =>
        have ed : dpC d t (i + 1) = dpC d t i := by rw [dpC, ha, hg]; rfl
        refine mk_if_ne C 292 dL_isCounted_276 (by decide) (fun _ => ?_) (fun h9 => absurd h9 (by decide))
        rw [← ed]
        exact mk_lvsub [0, 1, 2, 3, 4, 5, 6, 7, 8, 9] rfl (key kc' tc' gc' g1 g2 g3)
      | false =>
        have ed : dpC d t (i + 1) = if dpC d t i < (ct d (t + 1)).1 i + 1 then (ct d (t + 1)).1 i + 1 else dpC d t i := by rw [dpC, ha, hg]; rfl
        refine mk_if_ne C 292 dL_isCounted_276 (by decide) (fun h9 => absurd h9 (fun z => z rfl)) (fun _ => ?_)
        refine mk_iload C 1 dL_isCounted_279 rfl ?_
        refine mk_aload_n C 7 dL_isCounted_281 rfl ?_
        refine mk_iload C 0 dL_isCounted_282 rfl ?_
        refine mk_iald C 5 0 (f := kc') rfl rfl (vp_in_nI (by omega) (by omega)) (j := i) (nI_clamp (by omega)) dL_isCounted_284 ?_
        refine mk_iconst C (v := 1) dL_isCounted_285 (by decide) ?_
        refine mk_iadd C dL_isCounted_286 ?_
        refine mk_topi (y := nI ((ct d (t + 1)).1 i + 1)) (by rw [e1]; exact nI_add _ 1) ?_
        refine mk_mmax C mw_1000 mw_567 mw_16 mw_568 ⟨Nat.le_of_ble_eq_true rfl, Nat.le_of_ble_eq_true rfl⟩ ⟨Nat.le_of_ble_eq_true rfl, Nat.le_of_ble_eq_true rfl⟩ dL_isCounted_287 ?_
        refine mk_topi (y := nI (dpC d t (i + 1))) (by rw [ed]; exact lw_mx (by omega) (by omega)) ?_
        refine mk_istore C (lv' := [(8, .int (nI (dpC d t (i + 1)))), (9, .int (nI i)), (7, .int (nI (hdM d (MC d) t))), (6, .int (nI (cnM (MC d) t (d 4)))), (5, .int (nI t)), (4, .ref q3), (3, .ref q2), (2, .ref q1), (1, .ref z), (0, .ref (aZ 0))]) dL_isCounted_290 (by decide) rfl ?_
        exact mk_lvsub [1, 0, 2, 3, 4, 5, 6, 7, 8, 9] rfl (key kc' tc' gc' g1 g2 g3)
    refine mk_iload C 0 dL_isCounted_143 rfl ?_
    refine mk_aload_n C 8 dL_isCounted_145 rfl ?_
    refine mk_getN C 0 rfl 2 (by decide) (List.mem_of_getElem? (i := 2) rfl) (v := .int (nI (d 4))) rfl dL_isCounted_146 ?_
    refine mk_icmp_ge C 298 dL_isCounted_149 (by decide) (fun h9 => absurd h9 (jk_nle (by omega) (by omega))) (fun _ => ?_)
    refine mk_aload C 5 dL_isCounted_152 rfl ?_
    refine mk_iload C 0 dL_isCounted_154 rfl ?_
    refine mk_zald C 7 3 (f := gc) rfl rfl (vp_in_nI (by omega) (by omega)) (j := i) (nI_clamp (by omega)) dL_isCounted_156 ?_
    refine mk_topi (y := (bI ((ct d t).2.2 i))) (f3) ?_
    cases hg : (ct d t).2.2 i with
    | true =>
      refine mk_if_ne C 292 dL_isCounted_157 (by decide) (fun _ => ?_) (fun h9 => absurd h9 (by decide))
      have ha : acv d t (ct d t) i = false := by unfold acv; rw [hg]; first | rfl | (rw [Bool.and_false])
      have ed : dpC d t (i + 1) = dpC d t i := by rw [dpC, ha]; rfl
      rw [← ed]
      exact mk_lvsub [0, 1, 2, 3, 4, 5, 6, 7, 8, 9] rfl (key kc tc gc (xi h1 (by rw [ct_1, ha]; rfl)) (xi h2 (by rw [ct_2, ha]; rfl)) (yi h3 (by rw [ct_3, ha]; rfl)))
    | false =>
      refine mk_if_ne C 292 dL_isCounted_157 (by decide) (fun h9 => absurd h9 (fun z => z rfl)) (fun _ => ?_)
      refine mk_aload_n C 8 dL_isCounted_160 rfl ?_
      refine mk_getN C 0 rfl 4 (by decide) (List.mem_of_getElem? (i := 4) rfl) (v := .ref aW) rfl dL_isCounted_161 ?_
      refine mk_iload C 0 dL_isCounted_164 rfl ?_
      refine mk_iald C 1 0 (f := gW) rfl rfl (vp_in_nI (by omega) (by omega)) (j := i) (nI_clamp (by omega)) dL_isCounted_166 ?_
      refine mk_topi (y := nI (d (7 + i))) ((hz.2.2.2.1 i hi4).1) ?_
      refine mk_iload C 4 dL_isCounted_167 rfl ?_
      refine mk_icmp_le C 175 dL_isCounted_169 (by decide) (fun hc => ?_) (fun hc => ?_)
      · have h7 : d (7 + i) ≤ t := (nI_leI (by omega) (by omega)).mp hc
        have ha : acv d t (ct d t) i = true := by unfold acv; rw [decide_eq_true h7, hg]; rfl
        refine mk_aload_n C 7 dL_isCounted_175 rfl ?_
        refine mk_iload C 0 dL_isCounted_176 rfl ?_
        refine mk_iald C 5 0 (f := kc) rfl rfl (vp_in_nI (by omega) (by omega)) (j := i) (nI_clamp (by omega)) dL_isCounted_178 ?_
        refine mk_topi (y := nI ((ct d t).1 i)) (f1) ?_
        refine mk_if_le C 203 dL_isCounted_179 (by decide) (fun hc2 => ?_) (fun hc2 => ?_)
        · have h0 : (ct d t).1 i = 0 := by have := (nI_leI (a := (ct d t).1 i) (b := 0) (by omega) (by decide)).mp hc2; omega
          have hp : ¬ 0 < (ct d t).1 i := by omega
          refine mk_iload C 2 dL_isCounted_203 rfl ?_
          refine mk_iconst C (v := 2) dL_isCounted_205 (by decide) ?_
          refine mk_icmp_ne C 249 dL_isCounted_206 (by decide) (fun hc3 => ?_) (fun hc3 => ?_)
          · have h2e : ¬ hC d t (ct d t) = 2 := by rw [hC_eq]; exact fun y => hc3 (by rw [y]; rfl)
            have en : (ct d (t + 1)).2.2 i = decide (hdM d (MC d) t = 1 ∧ cnM (MC d) t (d 4) = 1) := by rw [ct_3, if_pos ha, if_neg hp, if_neg h2e, hC_eq, cC_eq]
            refine mk_aload C 5 dL_isCounted_249 rfl ?_
            refine mk_iload C 0 dL_isCounted_251 rfl ?_
            refine mk_iload C 2 dL_isCounted_253 rfl ?_
            refine mk_iconst C (v := 1) dL_isCounted_255 (by decide) ?_
            refine mk_icmp_ne C 269 dL_isCounted_256 (by decide) (fun hc4 => ?_) (fun hc4 => ?_)
            · refine mk_iconst C (v := 0) dL_isCounted_269 (by decide) ?_
              have eb : (ct d (t + 1)).2.2 i = false := by rw [en]; exact decide_eq_false (fun y => hc4 (by rw [y.1]; rfl))
              refine mk_zast C 7 3 (f := gc) rfl rfl (vp_in_nI (by omega) (by omega)) (j := i) (nI_clamp (by omega)) (v := 0) (rfl) (ws' := ([(z, .inr (9, [.int (nI (d 0)), .int (nI (d 1)), .int (nI (d 4)), .int (nI (d 5)), .ref aW, .ref aN, .ref aK, .ref aB, .ref xt])), (aW, .inl (cI, (d 4), .inl gW)), (aN, .inl (cI, (d 5), .inl gN)), (aK, .inl (cI, (d 5), .inl gK)), (aB, .inl (cS, (d 4), .inr (.inr (.inr (.inr fB))))), (q1, .inl (cI, (d 4), .inl kc)), (q2, .inl (cI, (d 4), .inl tc)), (q3, .inl (cZ, (d 4), .inl (upd gc i 0)))] ++ (wChan aZ aR aT aD aY aP aC aO aA aM ++ (wReader aR aT aD uR ++ (wTape aT cI uT ++ (wPlan aD cI uD ++ (wPlay aY aP aS (mk_crs aC aO uQ) cI uY ++ (wPlan aP cI uP ++ (wStack aS cI uS ++ (wCourse aC cI uC ++ (wCourse aO cI uO ++ (wActs aA cI uA ++ (wMeans aM cJ uM))))))))))))) rfl dL_isCounted_270 ?_
              exact mk_lvsub [0, 1, 2, 3, 4, 5, 6, 7, 8, 9] rfl (k271 ha kc tc _ (xi h1 (by rw [ct_1, if_pos ha, if_neg hp, if_neg h2e])) (xi h2 (by rw [ct_2, if_pos ha, if_neg hp, if_neg h2e])) (yu h3 (by rw [eb]; rfl)))
            · refine mk_iload C 3 dL_isCounted_259 rfl ?_
              refine mk_iconst C (v := 1) dL_isCounted_261 (by decide) ?_
              refine mk_icmp_ne C 269 dL_isCounted_262 (by decide) (fun hc5 => ?_) (fun hc5 => ?_)
              · refine mk_iconst C (v := 0) dL_isCounted_269 (by decide) ?_
                have eb : (ct d (t + 1)).2.2 i = false := by rw [en]; exact decide_eq_false (fun y => hc5 (by rw [y.2]; rfl))
                refine mk_zast C 7 3 (f := gc) rfl rfl (vp_in_nI (by omega) (by omega)) (j := i) (nI_clamp (by omega)) (v := 0) (rfl) (ws' := ([(z, .inr (9, [.int (nI (d 0)), .int (nI (d 1)), .int (nI (d 4)), .int (nI (d 5)), .ref aW, .ref aN, .ref aK, .ref aB, .ref xt])), (aW, .inl (cI, (d 4), .inl gW)), (aN, .inl (cI, (d 5), .inl gN)), (aK, .inl (cI, (d 5), .inl gK)), (aB, .inl (cS, (d 4), .inr (.inr (.inr (.inr fB))))), (q1, .inl (cI, (d 4), .inl kc)), (q2, .inl (cI, (d 4), .inl tc)), (q3, .inl (cZ, (d 4), .inl (upd gc i 0)))] ++ (wChan aZ aR aT aD aY aP aC aO aA aM ++ (wReader aR aT aD uR ++ (wTape aT cI uT ++ (wPlan aD cI uD ++ (wPlay aY aP aS (mk_crs aC aO uQ) cI uY ++ (wPlan aP cI uP ++ (wStack aS cI uS ++ (wCourse aC cI uC ++ (wCourse aO cI uO ++ (wActs aA cI uA ++ (wMeans aM cJ uM))))))))))))) rfl dL_isCounted_270 ?_
                exact mk_lvsub [0, 1, 2, 3, 4, 5, 6, 7, 8, 9] rfl (k271 ha kc tc _ (xi h1 (by rw [ct_1, if_pos ha, if_neg hp, if_neg h2e])) (xi h2 (by rw [ct_2, if_pos ha, if_neg hp, if_neg h2e])) (yu h3 (by rw [eb]; rfl)))
              · refine mk_iconst C (v := 1) dL_isCounted_265 (by decide) ?_
                refine mk_goto C 270 dL_isCounted_266 (by decide) ?_
                have eb : (ct d (t + 1)).2.2 i = true := by rw [en]; exact decide_eq_true ⟨(nI_eq (by omega) (by decide)).mp hc4, (nI_eq (by omega) (by decide)).mp hc5⟩
                refine mk_zast C 7 3 (f := gc) rfl rfl (vp_in_nI (by omega) (by omega)) (j := i) (nI_clamp (by omega)) (v := 1) (rfl) (ws' := ([(z, .inr (9, [.int (nI (d 0)), .int (nI (d 1)), .int (nI (d 4)), .int (nI (d 5)), .ref aW, .ref aN, .ref aK, .ref aB, .ref xt])), (aW, .inl (cI, (d 4), .inl gW)), (aN, .inl (cI, (d 5), .inl gN)), (aK, .inl (cI, (d 5), .inl gK)), (aB, .inl (cS, (d 4), .inr (.inr (.inr (.inr fB))))), (q1, .inl (cI, (d 4), .inl kc)), (q2, .inl (cI, (d 4), .inl tc)), (q3, .inl (cZ, (d 4), .inl (upd gc i 1)))] ++ (wChan aZ aR aT aD aY aP aC aO aA aM ++ (wReader aR aT aD uR ++ (wTape aT cI uT ++ (wPlan aD cI uD ++ (wPlay aY aP aS (mk_crs aC aO uQ) cI uY ++ (wPlan aP cI uP ++ (wStack aS cI uS ++ (wCourse aC cI uC ++ (wCourse aO cI uO ++ (wActs aA cI uA ++ (wMeans aM cJ uM))))))))))))) rfl dL_isCounted_270 ?_
                exact mk_lvsub [0, 1, 2, 3, 4, 5, 6, 7, 8, 9] rfl (k271 ha kc tc _ (xi h1 (by rw [ct_1, if_pos ha, if_neg hp, if_neg h2e])) (xi h2 (by rw [ct_2, if_pos ha, if_neg hp, if_neg h2e])) (yu h3 (by rw [eb]; rfl)))
          · have h2e : hC d t (ct d t) = 2 := by rw [hC_eq]; exact (nI_eq (by omega) (by decide)).mp hc3
            obtain ⟨k0, k1, k2, k3, k4, k5⟩ := hb i hi4
            have hm := Nat.mod_lt ((ct d t).2.1 i) k3
            refine mk_aload_n C 7 dL_isCounted_209 rfl ?_
            refine mk_iload C 0 dL_isCounted_210 rfl ?_
            refine mk_aload_n C 8 dL_isCounted_212 rfl ?_
            refine mk_getN C 0 rfl 7 (by decide) (List.mem_of_getElem? (i := 5) rfl) (v := .ref aB) rfl dL_isCounted_213 ?_
            refine mk_iload C 0 dL_isCounted_216 rfl ?_
            refine mk_aald C 4 4 rfl rfl (vp_in_nI (by omega) (by omega)) (j := i) (nI_clamp (by omega)) (x := X k0) k1 dL_isCounted_218 ?_
            refine mk_aload_n C 6 dL_isCounted_219 rfl ?_
            refine mk_iload C 0 dL_isCounted_220 rfl ?_
            refine mk_dup2 C dL_isCounted_222 rfl rfl ?_
            refine mk_iald C 6 0 (f := tc) rfl rfl (vp_in_nI (by omega) (by omega)) (j := i) (nI_clamp (by omega)) dL_isCounted_223 ?_
            refine mk_topi (y := nI ((ct d t).2.1 i)) (f2) ?_
            refine mk_dupx2 C dL_isCounted_224 rfl rfl rfl ?_
            refine mk_iconst C (v := 1) dL_isCounted_225 (by decide) ?_
            refine mk_iadd C dL_isCounted_226 ?_
            refine mk_topi (y := nI ((ct d (t + 1)).2.1 i)) (by rw [ct_2, if_pos ha, if_neg hp, if_pos h2e]; exact nI_add _ 1) ?_
            refine mk_iast C 6 0 (f := tc) rfl rfl (vp_in_nI (by omega) (by omega)) (j := i) (nI_clamp (by omega)) (ws' := ([(z, .inr (9, [.int (nI (d 0)), .int (nI (d 1)), .int (nI (d 4)), .int (nI (d 5)), .ref aW, .ref aN, .ref aK, .ref aB, .ref xt])), (aW, .inl (cI, (d 4), .inl gW)), (aN, .inl (cI, (d 5), .inl gN)), (aK, .inl (cI, (d 5), .inl gK)), (aB, .inl (cS, (d 4), .inr (.inr (.inr (.inr fB))))), (q1, .inl (cI, (d 4), .inl kc)), (q2, .inl (cI, (d 4), .inl (upd tc i (nI ((ct d (t + 1)).2.1 i))))), (q3, .inl (cZ, (d 4), .inl gc))] ++ (wChan aZ aR aT aD aY aP aC aO aA aM ++ (wReader aR aT aD uR ++ (wTape aT cI uT ++ (wPlan aD cI uD ++ (wPlay aY aP aS (mk_crs aC aO uQ) cI uY ++ (wPlan aP cI uP ++ (wStack aS cI uS ++ (wCourse aC cI uC ++ (wCourse aO cI uO ++ (wActs aA cI uA ++ (wMeans aM cJ uM))))))))))))) rfl dL_isCounted_227 ?_
            refine mk_aload_n C 8 dL_isCounted_228 rfl ?_
            refine mk_getN C 0 rfl 7 (by decide) (List.mem_of_getElem? (i := 5) rfl) (v := .ref aB) rfl dL_isCounted_229 ?_
            refine mk_iload C 0 dL_isCounted_232 rfl ?_
            refine mk_aald C 4 4 rfl rfl (vp_in_nI (by omega) (by omega)) (j := i) (nI_clamp (by omega)) (x := X k0) k1 dL_isCounted_234 ?_
            refine mk_callXe C (c_slenG l D cI cJ cB cZ cS X Y k0) mw_955 mw_395 mw_396 mw_13 mw_397 mkq_J0_length_8abf5 rfl ⟨Nat.le_of_ble_eq_true rfl, Nat.le_of_ble_eq_true rfl⟩ ⟨Nat.le_of_ble_eq_true rfl, Nat.le_of_ble_eq_true rfl⟩ rfl (Nat.le_of_ble_eq_true rfl) dL_isCounted_235 rfl ?_
            refine mk_topi (y := nI (d (17 + i))) (by rw [k2]) ?_
            refine mk_irem C dL_isCounted_238 (fun y => by have := (nI_eq (a := d (17 + i)) (b := 0) (by omega) (by decide)).mp y; omega) ?_
            refine mk_topi (y := nI ((ct d t).2.1 i % d (17 + i))) (pk_rem (by omega) (by omega) (by omega)) ?_
            refine mk_callXe C (c_satG l D cI cJ cB cZ cS X Y k0 ((ct d t).2.1 i % d (17 + i)) (by rw [k2]; exact hm) (hSp k0)) mw_956 mw_405 mw_406 mw_13 mw_407 mkq_J0_charAt_5068e rfl ⟨Nat.le_of_ble_eq_true rfl, Nat.le_of_ble_eq_true rfl⟩ ⟨Nat.le_of_ble_eq_true rfl, Nat.le_of_ble_eq_true rfl⟩ rfl (Nat.le_of_ble_eq_true rfl) dL_isCounted_239 rfl ?_
            refine mk_bipush C (v := 48) dL_isCounted_242 (by decide) ?_
            refine mk_isub C dL_isCounted_244 ?_
            refine mk_topi (y := nI ((ct d (t + 1)).1 i)) (by rw [ct_1, if_pos ha, if_neg hp, if_pos h2e, k5 _ hm, tb_mod d i _ k3]; exact bI_48 _) ?_
            refine mk_iast C 5 0 (f := kc) rfl rfl (vp_in_nI (by omega) (by omega)) (j := i) (nI_clamp (by omega)) (ws' := ([(z, .inr (9, [.int (nI (d 0)), .int (nI (d 1)), .int (nI (d 4)), .int (nI (d 5)), .ref aW, .ref aN, .ref aK, .ref aB, .ref xt])), (aW, .inl (cI, (d 4), .inl gW)), (aN, .inl (cI, (d 5), .inl gN)), (aK, .inl (cI, (d 5), .inl gK)), (aB, .inl (cS, (d 4), .inr (.inr (.inr (.inr fB))))), (q1, .inl (cI, (d 4), .inl (upd kc i (nI ((ct d (t + 1)).1 i))))), (q2, .inl (cI, (d 4), .inl (upd tc i (nI ((ct d (t + 1)).2.1 i))))), (q3, .inl (cZ, (d 4), .inl gc))] ++ (wChan aZ aR aT aD aY aP aC aO aA aM ++ (wReader aR aT aD uR ++ (wTape aT cI uT ++ (wPlan aD cI uD ++ (wPlay aY aP aS (mk_crs aC aO uQ) cI uY ++ (wPlan aP cI uP ++ (wStack aS cI uS ++ (wCourse aC cI uC ++ (wCourse aO cI uO ++ (wActs aA cI uA ++ (wMeans aM cJ uM))))))))))))) rfl dL_isCounted_245 ?_
            refine mk_goto C 271 dL_isCounted_246 (by decide) ?_
            exact mk_lvsub [0, 1, 2, 3, 4, 5, 6, 7, 8, 9] rfl (k271 ha _ _ gc (xu h1 rfl) (xu h2 rfl) (yi h3 (by rw [ct_3, if_pos ha, if_neg hp, if_pos h2e])))
        · have hp : 0 < (ct d t).1 i := Nat.pos_of_ne_zero (fun y => hc2 (by rw [y]; decide))
          refine mk_aload_n C 7 dL_isCounted_182 rfl ?_
          refine mk_iload C 0 dL_isCounted_183 rfl ?_
          refine mk_dup2 C dL_isCounted_185 rfl rfl ?_
          refine mk_iald C 5 0 (f := kc) rfl rfl (vp_in_nI (by omega) (by omega)) (j := i) (nI_clamp (by omega)) dL_isCounted_186 ?_
          refine mk_topi (y := nI ((ct d t).1 i)) (f1) ?_
          refine mk_iload C 2 dL_isCounted_187 rfl ?_
          refine mk_iconst C (v := 2) dL_isCounted_189 (by decide) ?_
          refine mk_icmp_ne C 197 dL_isCounted_190 (by decide) (fun hc3 => ?_) (fun hc3 => ?_)
          · have h2e : ¬ hC d t (ct d t) = 2 := by rw [hC_eq]; exact fun y => hc3 (by rw [y]; rfl)
            have en : (ct d (t + 1)).1 i = (ct d t).1 i - 1 := by rw [ct_1, if_pos ha, if_pos hp, if_neg h2e]
            refine mk_iconst C (v := (-1)) dL_isCounted_197 (by decide) ?_
            refine mk_iadd C dL_isCounted_198 ?_
            refine mk_topi (y := nI ((ct d (t + 1)).1 i)) (by rw [en]; have := pk_m1 ((ct d t).1 i - 1); rwa [Nat.sub_add_cancel hp] at this) ?_
            refine mk_iast C 5 0 (f := kc) rfl rfl (vp_in_nI (by omega) (by omega)) (j := i) (nI_clamp (by omega)) (ws' := ([(z, .inr (9, [.int (nI (d 0)), .int (nI (d 1)), .int (nI (d 4)), .int (nI (d 5)), .ref aW, .ref aN, .ref aK, .ref aB, .ref xt])), (aW, .inl (cI, (d 4), .inl gW)), (aN, .inl (cI, (d 5), .inl gN)), (aK, .inl (cI, (d 5), .inl gK)), (aB, .inl (cS, (d 4), .inr (.inr (.inr (.inr fB))))), (q1, .inl (cI, (d 4), .inl (upd kc i (nI ((ct d (t + 1)).1 i))))), (q2, .inl (cI, (d 4), .inl tc)), (q3, .inl (cZ, (d 4), .inl gc))] ++ (wChan aZ aR aT aD aY aP aC aO aA aM ++ (wReader aR aT aD uR ++ (wTape aT cI uT ++ (wPlan aD cI uD ++ (wPlay aY aP aS (mk_crs aC aO uQ) cI uY ++ (wPlan aP cI uP ++ (wStack aS cI uS ++ (wCourse aC cI uC ++ (wCourse aO cI uO ++ (wActs aA cI uA ++ (wMeans aM cJ uM))))))))))))) rfl dL_isCounted_199 ?_
            refine mk_goto C 271 dL_isCounted_200 (by decide) ?_
            exact mk_lvsub [0, 1, 2, 3, 4, 5, 6, 7, 8, 9] rfl (k271 ha _ tc gc (xu h1 rfl) (xi h2 (by rw [ct_2, if_pos ha, if_pos hp])) (yi h3 (by rw [ct_3, if_pos ha, if_pos hp])))
          · have h2e : hC d t (ct d t) = 2 := by rw [hC_eq]; exact (nI_eq (by omega) (by decide)).mp hc3
            have en : (ct d (t + 1)).1 i = (ct d t).1 i + 1 := by rw [ct_1, if_pos ha, if_pos hp, if_pos h2e]
            refine mk_iconst C (v := 1) dL_isCounted_193 (by decide) ?_
            refine mk_goto C 198 dL_isCounted_194 (by decide) ?_
            refine mk_iadd C dL_isCounted_198 ?_
            refine mk_topi (y := nI ((ct d (t + 1)).1 i)) (by rw [en]; exact nI_add _ 1) ?_
            refine mk_iast C 5 0 (f := kc) rfl rfl (vp_in_nI (by omega) (by omega)) (j := i) (nI_clamp (by omega)) (ws' := ([(z, .inr (9, [.int (nI (d 0)), .int (nI (d 1)), .int (nI (d 4)), .int (nI (d 5)), .ref aW, .ref aN, .ref aK, .ref aB, .ref xt])), (aW, .inl (cI, (d 4), .inl gW)), (aN, .inl (cI, (d 5), .inl gN)), (aK, .inl (cI, (d 5), .inl gK)), (aB, .inl (cS, (d 4), .inr (.inr (.inr (.inr fB))))), (q1, .inl (cI, (d 4), .inl (upd kc i (nI ((ct d (t + 1)).1 i))))), (q2, .inl (cI, (d 4), .inl tc)), (q3, .inl (cZ, (d 4), .inl gc))] ++ (wChan aZ aR aT aD aY aP aC aO aA aM ++ (wReader aR aT aD uR ++ (wTape aT cI uT ++ (wPlan aD cI uD ++ (wPlay aY aP aS (mk_crs aC aO uQ) cI uY ++ (wPlan aP cI uP ++ (wStack aS cI uS ++ (wCourse aC cI uC ++ (wCourse aO cI uO ++ (wActs aA cI uA ++ (wMeans aM cJ uM))))))))))))) rfl dL_isCounted_199 ?_
            refine mk_goto C 271 dL_isCounted_200 (by decide) ?_
            exact mk_lvsub [0, 1, 2, 3, 4, 5, 6, 7, 8, 9] rfl (k271 ha _ tc gc (xu h1 rfl) (xi h2 (by rw [ct_2, if_pos ha, if_pos hp])) (yi h3 (by rw [ct_3, if_pos ha, if_pos hp])))
      · have h7 : ¬ d (7 + i) ≤ t := fun y => hc (nI_le y (by omega))
        refine mk_goto C 292 dL_isCounted_172 (by decide) ?_
        have ha : acv d t (ct d t) i = false := by unfold acv; rw [decide_eq_false h7, hg]; first | rfl | (rw [Bool.and_false])
        have ed : dpC d t (i + 1) = dpC d t i := by rw [dpC, ha]; rfl
        rw [← ed]
        exact mk_lvsub [0, 1, 2, 3, 4, 5, 6, 7, 8, 9] rfl (key kc tc gc (xi h1 (by rw [ct_1, ha]; rfl)) (xi h2 (by rw [ct_2, ha]; rfl)) (yi h3 (by rw [ct_3, ha]; rfl)))
